theorem dL_law_1452 : decode cL_law 1452 = .ok (.iinc 3 6, 3) := by decide +kernel
theorem dL_law_1455 : decode cL_law 1455 = .ok (.goto (-1437), 3) := by decide +kernel
theorem dL_law_18 : decode cL_law 18 = .ok (.iload_n 3, 1) := by decide +kernel
theorem dL_law_19 : decode cL_law 19 = .ok (.aload_n 0, 1) := by decide +kernel
theorem dL_law_20 : decode cL_law 20 = .ok (.arraylength, 1) := by decide +kernel
theorem dL_law_21 : decode cL_law 21 = .ok (.bipush 6, 2) := by decide +kernel
theorem dL_law_23 : decode cL_law 23 = .ok (.isub, 1) := by decide +kernel
theorem dL_law_24 : decode cL_law 24 = .ok (.if_icmp .gt 1434, 3) := by decide +kernel
theorem dL_law_1458 : decode cL_law 1458 = .ok (.iconst 1, 1) := by decide +kernel
theorem dL_law_1459 : decode cL_law 1459 = .ok (.ireturn, 1) := by decide +kernel
set_option maxRecDepth 100000 in
set_option maxHeartbeats 4000000 in
theorem law_end {X : XT} {E : EV} {xs : Nat → Int32} (bb : Nat) (hx : Nat) (hm : Nat) (C : CX X room_1 cL_law 4 RL ret E) (hs : SX X bb 6 xs)  (hq : X.2.2.2.2.2.2.2.2.2.2.2 = lw_Z X.2.2.2.2.2.2.2.1 X.2.2.2.2.2.2.1 X.2.2.2.2.1 ∧ X.2.2.2.2.2.2.1 = #[Value.ref bb] ∧ X.2.2.2.2.2.2.2.2.2.2.1 = fun q => X.2.2.2.2.1.heap.size ≤ q) : WW X 4 E 1452 [(3, .int 0), (2, .ref hm), (1, .ref hx), (0, .ref bb)] [] [] 168 11526 := by
  refine ww_iinc (j := 0) (v := 6) (lv' := [(3, .int 6), (2, .ref hm), (1, .ref hx), (0, .ref bb)]) C dL_law_1452 rfl rfl rfl rfl ?_
  refine ww_goto (tgt := 18) C dL_law_1455 (by decide) ?_
  refine ww_iload_n C dL_law_18 0 rfl rfl ?_
  refine ww_aload_n C dL_law_19 3 rfl rfl ?_
  refine ww_slen (v := 6) C hs rfl dL_law_20 ?_
  refine ww_bipush (v := 6) C dL_law_21 rfl ?_
  refine ww_isub (v := 0) C dL_law_23 (by decide) ?_
  refine ww_icmp_gt_t (tgt := 1458) C dL_law_24 (by decide) (by decide) ?_
  refine ww_iconst (v := 1) C dL_law_1458 rfl ?_
  exact ww_lawret C hq rfl rfl dL_law_1459
set_option maxRecDepth 100000 in
set_option maxHeartbeats 4000000 in
theorem law_short0 {X : XT} {E : EV} {xs : Nat → Int32} (bb : Nat) (hx : Nat) (hm : Nat) (C : CX X room_1 cL_law 4 RL ret E) (hs : SX X bb 0 xs)  (hq : X.2.2.2.2.2.2.2.2.2.2.2 = lw_Z X.2.2.2.2.2.2.2.1 X.2.2.2.2.2.2.1 X.2.2.2.2.1 ∧ X.2.2.2.2.2.2.1 = #[Value.ref bb] ∧ X.2.2.2.2.2.2.2.2.2.2.1 = fun q => X.2.2.2.2.1.heap.size ≤ q) : WW X 4 E 18 [(3, .int 0), (2, .ref hm), (1, .ref hx), (0, .ref bb)] [] [] 168 11526 := by
  refine ww_iload_n C dL_law_18 0 rfl rfl ?_
  refine ww_aload_n C dL_law_19 3 rfl rfl ?_
  refine ww_slen (v := 0) C hs rfl dL_law_20 ?_
  refine ww_bipush (v := 6) C dL_law_21 rfl ?_
  refine ww_isub (v := (-6)) C dL_law_23 (by decide) ?_
  refine ww_icmp_gt_t (tgt := 1458) C dL_law_24 (by decide) (by decide) ?_
  refine ww_iconst (v := 1) C dL_law_1458 rfl ?_
  exact ww_lawret C hq rfl rfl dL_law_1459
set_option maxRecDepth 100000 in
set_option maxHeartbeats 4000000 in
theorem law_short1 {X : XT} {E : EV} {xs : Nat → Int32} (bb : Nat) (hx : Nat) (hm : Nat) (C : CX X room_1 cL_law 4 RL ret E) (hs : SX X bb 1 xs)  (hq : X.2.2.2.2.2.2.2.2.2.2.2 = lw_Z X.2.2.2.2.2.2.2.1 X.2.2.2.2.2.2.1 X.2.2.2.2.1 ∧ X.2.2.2.2.2.2.1 = #[Value.ref bb] ∧ X.2.2.2.2.2.2.2.2.2.2.1 = fun q => X.2.2.2.2.1.heap.size ≤ q) : WW X 4 E 18 [(3, .int 0), (2, .ref hm), (1, .ref hx), (0, .ref bb)] [] [] 168 11526 := by
  refine ww_iload_n C dL_law_18 0 rfl rfl ?_
  refine ww_aload_n C dL_law_19 3 rfl rfl ?_
  refine ww_slen (v := 1) C hs rfl dL_law_20 ?_
  refine ww_bipush (v := 6) C dL_law_21 rfl ?_
  refine ww_isub (v := (-5)) C dL_law_23 (by decide) ?_
  refine ww_icmp_gt_t (tgt := 1458) C dL_law_24 (by decide) (by decide) ?_
  refine ww_iconst (v := 1) C dL_law_1458 rfl ?_
  exact ww_lawret C hq rfl rfl dL_law_1459
set_option maxRecDepth 100000 in
set_option maxHeartbeats 4000000 in
theorem law_short2 {X : XT} {E : EV} {xs : Nat → Int32} (bb : Nat) (hx : Nat) (hm : Nat) (C : CX X room_1 cL_law 4 RL ret E) (hs : SX X bb 2 xs)  (hq : X.2.2.2.2.2.2.2.2.2.2.2 = lw_Z X.2.2.2.2.2.2.2.1 X.2.2.2.2.2.2.1 X.2.2.2.2.1 ∧ X.2.2.2.2.2.2.1 = #[Value.ref bb] ∧ X.2.2.2.2.2.2.2.2.2.2.1 = fun q => X.2.2.2.2.1.heap.size ≤ q) : WW X 4 E 18 [(3, .int 0), (2, .ref hm), (1, .ref hx), (0, .ref bb)] [] [] 168 11526 := by
  refine ww_iload_n C dL_law_18 0 rfl rfl ?_
  refine ww_aload_n C dL_law_19 3 rfl rfl ?_
  refine ww_slen (v := 2) C hs rfl dL_law_20 ?_
  refine ww_bipush (v := 6) C dL_law_21 rfl ?_
  refine ww_isub (v := (-4)) C dL_law_23 (by decide) ?_
  refine ww_icmp_gt_t (tgt := 1458) C dL_law_24 (by decide) (by decide) ?_
  refine ww_iconst (v := 1) C dL_law_1458 rfl ?_
  exact ww_lawret C hq rfl rfl dL_law_1459
set_option maxRecDepth 100000 in
set_option maxHeartbeats 4000000 in
theorem law_short3 {X : XT} {E : EV} {xs : Nat → Int32} (bb : Nat) (hx : Nat) (hm : Nat) (C : CX X room_1 cL_law 4 RL ret E) (hs : SX X bb 3 xs)  (hq : X.2.2.2.2.2.2.2.2.2.2.2 = lw_Z X.2.2.2.2.2.2.2.1 X.2.2.2.2.2.2.1 X.2.2.2.2.1 ∧ X.2.2.2.2.2.2.1 = #[Value.ref bb] ∧ X.2.2.2.2.2.2.2.2.2.2.1 = fun q => X.2.2.2.2.1.heap.size ≤ q) : WW X 4 E 18 [(3, .int 0), (2, .ref hm), (1, .ref hx), (0, .ref bb)] [] [] 168 11526 := by
  refine ww_iload_n C dL_law_18 0 rfl rfl ?_
  refine ww_aload_n C dL_law_19 3 rfl rfl ?_
  refine ww_slen (v := 3) C hs rfl dL_law_20 ?_
  refine ww_bipush (v := 6) C dL_law_21 rfl ?_
  refine ww_isub (v := (-3)) C dL_law_23 (by decide) ?_
  refine ww_icmp_gt_t (tgt := 1458) C dL_law_24 (by decide) (by decide) ?_
  refine ww_iconst (v := 1) C dL_law_1458 rfl ?_
  exact ww_lawret C hq rfl rfl dL_law_1459
set_option maxRecDepth 100000 in
set_option maxHeartbeats 4000000 in
theorem law_short4 {X : XT} {E : EV} {xs : Nat → Int32} (bb : Nat) (hx : Nat) (hm : Nat) (C : CX X room_1 cL_law 4 RL ret E) (hs : SX X bb 4 xs)  (hq : X.2.2.2.2.2.2.2.2.2.2.2 = lw_Z X.2.2.2.2.2.2.2.1 X.2.2.2.2.2.2.1 X.2.2.2.2.1 ∧ X.2.2.2.2.2.2.1 = #[Value.ref bb] ∧ X.2.2.2.2.2.2.2.2.2.2.1 = fun q => X.2.2.2.2.1.heap.size ≤ q) : WW X 4 E 18 [(3, .int 0), (2, .ref hm), (1, .ref hx), (0, .ref bb)] [] [] 168 11526 := by
  refine ww_iload_n C dL_law_18 0 rfl rfl ?_
  refine ww_aload_n C dL_law_19 3 rfl rfl ?_
  refine ww_slen (v := 4) C hs rfl dL_law_20 ?_
  refine ww_bipush (v := 6) C dL_law_21 rfl ?_
  refine ww_isub (v := (-2)) C dL_law_23 (by decide) ?_
  refine ww_icmp_gt_t (tgt := 1458) C dL_law_24 (by decide) (by decide) ?_
  refine ww_iconst (v := 1) C dL_law_1458 rfl ?_
  exact ww_lawret C hq rfl rfl dL_law_1459
set_option maxRecDepth 100000 in
set_option maxHeartbeats 4000000 in
theorem law_short5 {X : XT} {E : EV} {xs : Nat → Int32} (bb : Nat) (hx : Nat) (hm : Nat) (C : CX X room_1 cL_law 4 RL ret E) (hs : SX X bb 5 xs)  (hq : X.2.2.2.2.2.2.2.2.2.2.2 = lw_Z X.2.2.2.2.2.2.2.1 X.2.2.2.2.2.2.1 X.2.2.2.2.1 ∧ X.2.2.2.2.2.2.1 = #[Value.ref bb] ∧ X.2.2.2.2.2.2.2.2.2.2.1 = fun q => X.2.2.2.2.1.heap.size ≤ q) : WW X 4 E 18 [(3, .int 0), (2, .ref hm), (1, .ref hx), (0, .ref bb)] [] [] 168 11526 := by
  refine ww_iload_n C dL_law_18 0 rfl rfl ?_
  refine ww_aload_n C dL_law_19 3 rfl rfl ?_
  refine ww_slen (v := 5) C hs rfl dL_law_20 ?_
  refine ww_bipush (v := 6) C dL_law_21 rfl ?_
  refine ww_isub (v := (-1)) C dL_law_23 (by decide) ?_
  refine ww_icmp_gt_t (tgt := 1458) C dL_law_24 (by decide) (by decide) ?_
  refine ww_iconst (v := 1) C dL_law_1458 rfl ?_
  exact ww_lawret C hq rfl rfl dL_law_1459
theorem dL_law_200 : decode cL_law 200 = .ok (.aload_n 1, 1) := by decide +kernel
theorem dL_law_201 : decode cL_law 201 = .ok (.aload_n 0, 1) := by decide +kernel
theorem dL_law_202 : decode cL_law 202 = .ok (.iload_n 3, 1) := by decide +kernel
theorem dL_law_203 : decode cL_law 203 = .ok (.iconst 1, 1) := by decide +kernel
theorem dL_law_204 : decode cL_law 204 = .ok (.iadd, 1) := by decide +kernel
theorem dL_law_205 : decode cL_law 205 = .ok (.iaload, 1) := by decide +kernel
theorem dL_law_206 : decode cL_law 206 = .ok (.invokevirtual 13, 3) := by decide +kernel
theorem wl_L_13 : Cond.methodLink RL 13 yX11_world ∈ TB := tbm (tq2 (List.mem_of_getElem? (i := 142) (by decide +kernel))) (by decide +kernel)
theorem wc_X11_world : Cond.code yX11_world cX11_world 2 (some .int) ∈ TB := tbm (tq2 (List.mem_of_getElem? (i := 145) (rfl))) (by decide +kernel)
theorem wi_X11_world : Cond.instanceMethod yX11_world ∈ TB := tbm (tq2 (List.mem_of_getElem? (i := 143) (by decide +kernel))) (by decide +kernel)
theorem ws_X11_world : Cond.selects RX11 yX11_world yX11_world ∈ TB := tbm (tq2 (List.mem_of_getElem? (i := 144) (by decide +kernel))) (by decide +kernel)
theorem mi_X11_world : MI yX11_world cX11_world 2 (some .int) 1 := ⟨wc_X11_world, wn_X11, ⟨by decide +kernel, by decide +kernel, by decide +kernel⟩, wi_X11_world, ws_X11_world⟩
theorem dL_law_209 : decode cL_law 209 = .ok (.aload_n 2, 1) := by decide +kernel
theorem dL_law_210 : decode cL_law 210 = .ok (.aload_n 0, 1) := by decide +kernel
theorem dL_law_211 : decode cL_law 211 = .ok (.iload_n 3, 1) := by decide +kernel
theorem dL_law_212 : decode cL_law 212 = .ok (.iconst 1, 1) := by decide +kernel
theorem dL_law_213 : decode cL_law 213 = .ok (.iadd, 1) := by decide +kernel
theorem dL_law_214 : decode cL_law 214 = .ok (.iaload, 1) := by decide +kernel
theorem dL_law_215 : decode cL_law 215 = .ok (.invokevirtual 17, 3) := by decide +kernel
theorem wl_L_17 : Cond.methodLink RL 17 yX12_world ∈ TB := tbm (tq5 (List.mem_of_getElem? (i := 215) (by decide +kernel))) (by decide +kernel)
theorem wc_X12_world : Cond.code yX12_world cX12_world 2 (some .int) ∈ TB := tbm (tq5 (List.mem_of_getElem? (i := 218) (rfl))) (by decide +kernel)
theorem wi_X12_world : Cond.instanceMethod yX12_world ∈ TB := tbm (tq5 (List.mem_of_getElem? (i := 216) (by decide +kernel))) (by decide +kernel)
theorem ws_X12_world : Cond.selects RX12 yX12_world yX12_world ∈ TB := tbm (tq5 (List.mem_of_getElem? (i := 217) (by decide +kernel))) (by decide +kernel)
theorem mi_X12_world : MI yX12_world cX12_world 2 (some .int) 1 := ⟨wc_X12_world, wn_X12, ⟨by decide +kernel, by decide +kernel, by decide +kernel⟩, wi_X12_world, ws_X12_world⟩
theorem dL_law_218 : decode cL_law 218 = .ok (.if_icmp .eq 1234, 3) := by decide +kernel
set_option maxRecDepth 100000 in
set_option maxHeartbeats 4000000 in
theorem lawc_world {X : XT} {E : EV} {xs : Nat → Int32} (bb : Nat) (hx : Nat) (hm : Nat) (qn : Nat) (qp : Nat) (qs : Nat) (qj : Nat) (ql : Nat) (qh : Nat) (qk : Nat) (qr : Nat) (qg : Nat) (qsh : Nat) (nf : Nat) (np : Nat) (fp : Nat → Option Nat) (pm : Nat) (pf : Nat) (pp : Nat) (m_manys : Nat) (m_reals : Nat) (m_factsOf : Nat) (m_possible : Nat) (m_tape : Nat) (m_ends : Nat) (m_letters : Nat) (m_actOf : Nat) (m_whom : Nat) (m_actMany : Nat) (m_tokens : Nat) (m_afters : Nat) (m_afterOf : Nat) (m_pile : Nat) (m_caseMany : Nat) (m_happen : Nat) (m_hasIf : Nat) (m_becomes : Nat) (m_goneOf : Nat) (m_heard : Nat) (m_pairs : Nat) (m_heaps : Nat) (m_led : Nat) (m_newAt : Nat) (m_knowing : Nat) (m_firsts : Nat) (m_secrets : Nat) (m_tried : Nat) (m_lanes : Nat) (m_lengths : Nat) (m_cells : Nat) (C : CX X room_1 cL_law 4 RL ret E) (hs : SX X bb 6 xs) (k_fp_0 : fp 0 = some pm) (a0 : Int32) (a1 : Int32) (a2 : Int32) (a3 : Int32) (a4 : Int32) (a5 : Int32) (ea0 : xs 0 = a0) (ea1 : xs 1 = a1) (ea2 : xs 2 = a2) (ea3 : xs 3 = a3) (ea4 : xs 4 = a4) (ea5 : xs 5 = a5) (kk : WW X 4 E 1452 [(3, .int 0), (2, .ref hm), (1, .ref hx), (0, .ref bb)] [] [] 168 11526) : WW X 4 E 200 [(3, .int 0), (2, .ref hm), (1, .ref hx), (0, .ref bb)] [] [(hx, .inr (11, [.ref qn, .ref qp, .int 0, .int 0, .ref qs, .ref qj, .ref ql, .ref qh, .ref qk, .int 0, .ref qr, .ref qg, .int 0, .int 0, .ref qsh])), (qn, .inr (4, [.int 0, .int 0, .ref nf, .ref np])), (nf, .inl (E.2.1 1, 24, .inl (fun _ => 0))), (np, .inl (E.2.1 1, 96, .inl (fun _ => 0))), (qp, .inl (E.2.1 6, 8, .inr (.inr (.inr (.inr fp))))), (pm, .inr (4, [.int 0, .int 0, .ref pf, .ref pp])), (pf, .inl (E.2.1 1, 24, .inl (fun _ => 0))), (pp, .inl (E.2.1 1, 96, .inl (fun _ => 0))), (hm, .inr (12, [.ref m_manys, .ref m_reals, .ref m_factsOf, .ref m_possible, .int 0, .int 0, .ref m_tape, .int 0, .int 0, .int 0, .int 0, .int 0, .int 0, .int 0, .int 0, .ref m_ends, .ref m_letters, .ref m_actOf, .ref m_whom, .ref m_actMany, .ref m_tokens, .ref m_afters, .ref m_afterOf, .int 0, .ref m_pile, .ref m_caseMany, .ref m_happen, .ref m_hasIf, .ref m_becomes, .ref m_goneOf, .ref m_heard, .ref m_pairs, .ref m_heaps, .int 0, .int 0, .ref m_led, .ref m_newAt, .ref m_knowing, .ref m_firsts, .int 0, .ref m_secrets, .ref m_tried, .ref m_lanes, .ref m_lengths, .ref m_cells])), (m_manys, .inl (E.2.1 1, 18, .inl (fun _ => 0))), (m_reals, .inl (E.2.1 1, 18, .inl (fun _ => 0))), (m_factsOf, .inl (E.2.1 1, 432, .inl (fun _ => 0))), (m_possible, .inl (E.2.1 1, 1728, .inl (fun _ => 0)))] 168 11526 := by
  refine ww_aload_n C dL_law_200 2 rfl rfl ?_
  refine ww_aload_n C dL_law_201 3 rfl rfl ?_
  refine ww_iload_n C dL_law_202 0 rfl rfl ?_
  refine ww_iconst (v := 1) C dL_law_203 rfl ?_
  refine ww_iadd (v := 1) C dL_law_204 (by decide) ?_
  refine ww_sld (v := a1) C hs (vin rfl) ea1 dL_law_205 ?_
  refine ww_ci (wr := [(hm, .inr (12, [.ref m_manys, .ref m_reals, .ref m_factsOf, .ref m_possible, .int 0, .int 0, .ref m_tape, .int 0, .int 0, .int 0, .int 0, .int 0, .int 0, .int 0, .int 0, .ref m_ends, .ref m_letters, .ref m_actOf, .ref m_whom, .ref m_actMany, .ref m_tokens, .ref m_afters, .ref m_afterOf, .int 0, .ref m_pile, .ref m_caseMany, .ref m_happen, .ref m_hasIf, .ref m_becomes, .ref m_goneOf, .ref m_heard, .ref m_pairs, .ref m_heaps, .int 0, .int 0, .ref m_led, .ref m_newAt, .ref m_knowing, .ref m_firsts, .int 0, .ref m_secrets, .ref m_tried, .ref m_lanes, .ref m_lengths, .ref m_cells])), (m_manys, .inl (E.2.1 1, 18, .inl (fun _ => 0))), (m_reals, .inl (E.2.1 1, 18, .inl (fun _ => 0))), (m_factsOf, .inl (E.2.1 1, 432, .inl (fun _ => 0))), (m_possible, .inl (E.2.1 1, 1728, .inl (fun _ => 0)))]) (k' := 168) (n' := 11526) C (run_V (As := [.int a1]) (rest := []) C (x_world X.2.1 E hx a1 qn qp qs qj ql qh qk qr qg qsh nf np fp pm pf pp k_fp_0) mi_X11_world wl_L_13 rfl 0 11 rfl rfl rfl rfl rfl dL_law_206) [0, 1, 2, 3, 4, 5, 6, 7] [8, 9, 10, 11, 12] rfl rfl rfl rfl (fun r u hw => ?_)
  rcases hw with ⟨rfl, rfl, h_1⟩ | ⟨rfl, rfl, h_2, h_3⟩
  · refine ww_eq (ws' := [(hm, .inr (12, [.ref m_manys, .ref m_reals, .ref m_factsOf, .ref m_possible, .int 0, .int 0, .ref m_tape, .int 0, .int 0, .int 0, .int 0, .int 0, .int 0, .int 0, .int 0, .ref m_ends, .ref m_letters, .ref m_actOf, .ref m_whom, .ref m_actMany, .ref m_tokens, .ref m_afters, .ref m_afterOf, .int 0, .ref m_pile, .ref m_caseMany, .ref m_happen, .ref m_hasIf, .ref m_becomes, .ref m_goneOf, .ref m_heard, .ref m_pairs, .ref m_heaps, .int 0, .int 0, .ref m_led, .ref m_newAt, .ref m_knowing, .ref m_firsts, .int 0, .ref m_secrets, .ref m_tried, .ref m_lanes, .ref m_lengths, .ref m_cells])), (m_manys, .inl (E.2.1 1, 18, .inl (fun _ => 0))), (m_reals, .inl (E.2.1 1, 18, .inl (fun _ => 0))), (m_factsOf, .inl (E.2.1 1, 432, .inl (fun _ => 0))), (m_possible, .inl (E.2.1 1, 1728, .inl (fun _ => 0)))]) ?_ rfl rfl rfl
    refine ww_aload_n C dL_law_209 1 rfl rfl ?_
    refine ww_aload_n C dL_law_210 3 rfl rfl ?_
    refine ww_iload_n C dL_law_211 0 rfl rfl ?_
    refine ww_iconst (v := 1) C dL_law_212 rfl ?_
    refine ww_iadd (v := 1) C dL_law_213 (by decide) ?_
    refine ww_sld (v := a1) C hs (vin rfl) ea1 dL_law_214 ?_
    refine ww_ci (wr := []) (k' := 168) (n' := 11526) C (run_V (As := [.int a1]) (rest := [.int (-1)]) C (y_world X.2.1 E hm a1 m_manys m_reals m_factsOf m_possible m_tape m_ends m_letters m_actOf m_whom m_actMany m_tokens m_afters m_afterOf m_pile m_caseMany m_happen m_hasIf m_becomes m_goneOf m_heard m_pairs m_heaps m_led m_newAt m_knowing m_firsts m_secrets m_tried m_lanes m_lengths m_cells) mi_X12_world wl_L_17 rfl 0 12 rfl rfl rfl rfl rfl dL_law_215) [0, 1, 2, 3, 4] [] rfl rfl rfl rfl (fun r u hw => ?_)
    rcases hw with ⟨rfl, rfl, h_4⟩ | ⟨rfl, rfl, h_5, h_6⟩
    · refine ww_eq (ws' := []) ?_ rfl rfl rfl
      refine ww_icmp_eq_t (tgt := 1452) C dL_law_218 (by decide) (rfl) ?_
      exact ww_sub [] rfl rfl kk
    · refine ww_eq (ws' := []) ?_ rfl rfl rfl
      omega
  · refine ww_eq (ws' := [(hm, .inr (12, [.ref m_manys, .ref m_reals, .ref m_factsOf, .ref m_possible, .int 0, .int 0, .ref m_tape, .int 0, .int 0, .int 0, .int 0, .int 0, .int 0, .int 0, .int 0, .ref m_ends, .ref m_letters, .ref m_actOf, .ref m_whom, .ref m_actMany, .ref m_tokens, .ref m_afters, .ref m_afterOf, .int 0, .ref m_pile, .ref m_caseMany, .ref m_happen, .ref m_hasIf, .ref m_becomes, .ref m_goneOf, .ref m_heard, .ref m_pairs, .ref m_heaps, .int 0, .int 0, .ref m_led, .ref m_newAt, .ref m_knowing, .ref m_firsts, .int 0, .ref m_secrets, .ref m_tried, .ref m_lanes, .ref m_lengths, .ref m_cells])), (m_manys, .inl (E.2.1 1, 18, .inl (fun _ => 0))), (m_reals, .inl (E.2.1 1, 18, .inl (fun _ => 0))), (m_factsOf, .inl (E.2.1 1, 432, .inl (fun _ => 0))), (m_possible, .inl (E.2.1 1, 1728, .inl (fun _ => 0)))]) ?_ rfl rfl rfl
    refine ww_aload_n C dL_law_209 1 rfl rfl ?_
    refine ww_aload_n C dL_law_210 3 rfl rfl ?_
    refine ww_iload_n C dL_law_211 0 rfl rfl ?_
    refine ww_iconst (v := 1) C dL_law_212 rfl ?_
    refine ww_iadd (v := 1) C dL_law_213 (by decide) ?_
    refine ww_sld (v := a1) C hs (vin rfl) ea1 dL_law_214 ?_
    refine ww_ci (wr := []) (k' := 168) (n' := 11526) C (run_V (As := [.int a1]) (rest := [.int 0]) C (y_world X.2.1 E hm a1 m_manys m_reals m_factsOf m_possible m_tape m_ends m_letters m_actOf m_whom m_actMany m_tokens m_afters m_afterOf m_pile m_caseMany m_happen m_hasIf m_becomes m_goneOf m_heard m_pairs m_heaps m_led m_newAt m_knowing m_firsts m_secrets m_tried m_lanes m_lengths m_cells) mi_X12_world wl_L_17 rfl 0 12 rfl rfl rfl rfl rfl dL_law_215) [0, 1, 2, 3, 4] [] rfl rfl rfl rfl (fun r u hw => ?_)
    rcases hw with ⟨rfl, rfl, h_7⟩ | ⟨rfl, rfl, h_8, h_9⟩
    · refine ww_eq (ws' := []) ?_ rfl rfl rfl
      omega
    · refine ww_eq (ws' := []) ?_ rfl rfl rfl
      refine ww_icmp_eq_t (tgt := 1452) C dL_law_218 (by decide) (rfl) ?_
      exact ww_sub [] rfl rfl kk
theorem dL_law_223 : decode cL_law 223 = .ok (.aload_n 1, 1) := by decide +kernel
theorem dL_law_224 : decode cL_law 224 = .ok (.aload_n 0, 1) := by decide +kernel
theorem dL_law_225 : decode cL_law 225 = .ok (.iload_n 3, 1) := by decide +kernel
theorem dL_law_226 : decode cL_law 226 = .ok (.iconst 1, 1) := by decide +kernel
theorem dL_law_227 : decode cL_law 227 = .ok (.iadd, 1) := by decide +kernel
theorem dL_law_228 : decode cL_law 228 = .ok (.iaload, 1) := by decide +kernel
theorem dL_law_229 : decode cL_law 229 = .ok (.aload_n 0, 1) := by decide +kernel
theorem dL_law_230 : decode cL_law 230 = .ok (.iload_n 3, 1) := by decide +kernel
theorem dL_law_231 : decode cL_law 231 = .ok (.iconst 2, 1) := by decide +kernel
theorem dL_law_232 : decode cL_law 232 = .ok (.iadd, 1) := by decide +kernel
theorem dL_law_233 : decode cL_law 233 = .ok (.iaload, 1) := by decide +kernel
theorem dL_law_234 : decode cL_law 234 = .ok (.aload_n 0, 1) := by decide +kernel
theorem dL_law_235 : decode cL_law 235 = .ok (.iload_n 3, 1) := by decide +kernel
theorem dL_law_236 : decode cL_law 236 = .ok (.iconst 3, 1) := by decide +kernel
theorem dL_law_237 : decode cL_law 237 = .ok (.iadd, 1) := by decide +kernel
theorem dL_law_238 : decode cL_law 238 = .ok (.iaload, 1) := by decide +kernel
theorem dL_law_239 : decode cL_law 239 = .ok (.aload_n 0, 1) := by decide +kernel
theorem dL_law_240 : decode cL_law 240 = .ok (.iload_n 3, 1) := by decide +kernel
theorem dL_law_241 : decode cL_law 241 = .ok (.iconst 4, 1) := by decide +kernel
theorem dL_law_242 : decode cL_law 242 = .ok (.iadd, 1) := by decide +kernel
theorem dL_law_243 : decode cL_law 243 = .ok (.iaload, 1) := by decide +kernel
theorem dL_law_244 : decode cL_law 244 = .ok (.ifCond .eq 7, 3) := by decide +kernel
theorem dL_law_251 : decode cL_law 251 = .ok (.iconst 0, 1) := by decide +kernel
theorem dL_law_252 : decode cL_law 252 = .ok (.aload_n 0, 1) := by decide +kernel
theorem dL_law_253 : decode cL_law 253 = .ok (.iload_n 3, 1) := by decide +kernel
theorem dL_law_254 : decode cL_law 254 = .ok (.iconst 5, 1) := by decide +kernel
theorem dL_law_255 : decode cL_law 255 = .ok (.iadd, 1) := by decide +kernel
theorem dL_law_256 : decode cL_law 256 = .ok (.iaload, 1) := by decide +kernel
theorem dL_law_257 : decode cL_law 257 = .ok (.ifCond .eq 7, 3) := by decide +kernel
theorem dL_law_264 : decode cL_law 264 = .ok (.iconst 0, 1) := by decide +kernel
theorem dL_law_265 : decode cL_law 265 = .ok (.invokevirtual 18, 3) := by decide +kernel
theorem wl_L_18 : Cond.methodLink RL 18 yX11_sees ∈ TB := tbm (tq2 (List.mem_of_getElem? (i := 167) (by decide +kernel))) (by decide +kernel)
theorem wc_X11_sees : Cond.code yX11_sees cX11_sees 7 (some .int) ∈ TB := tbm (tq2 (List.mem_of_getElem? (i := 170) (rfl))) (by decide +kernel)
theorem wi_X11_sees : Cond.instanceMethod yX11_sees ∈ TB := tbm (tq2 (List.mem_of_getElem? (i := 168) (by decide +kernel))) (by decide +kernel)
theorem ws_X11_sees : Cond.selects RX11 yX11_sees yX11_sees ∈ TB := tbm (tq2 (List.mem_of_getElem? (i := 169) (by decide +kernel))) (by decide +kernel)
theorem mi_X11_sees : MI yX11_sees cX11_sees 7 (some .int) 5 := ⟨wc_X11_sees, wn_X11, ⟨by decide +kernel, by decide +kernel, by decide +kernel⟩, wi_X11_sees, ws_X11_sees⟩
theorem dL_law_268 : decode cL_law 268 = .ok (.aload_n 2, 1) := by decide +kernel
theorem dL_law_269 : decode cL_law 269 = .ok (.aload_n 0, 1) := by decide +kernel
theorem dL_law_270 : decode cL_law 270 = .ok (.iload_n 3, 1) := by decide +kernel
theorem dL_law_271 : decode cL_law 271 = .ok (.iconst 1, 1) := by decide +kernel
theorem dL_law_272 : decode cL_law 272 = .ok (.iadd, 1) := by decide +kernel
theorem dL_law_273 : decode cL_law 273 = .ok (.iaload, 1) := by decide +kernel
theorem dL_law_274 : decode cL_law 274 = .ok (.aload_n 0, 1) := by decide +kernel
theorem dL_law_275 : decode cL_law 275 = .ok (.iload_n 3, 1) := by decide +kernel
theorem dL_law_276 : decode cL_law 276 = .ok (.iconst 2, 1) := by decide +kernel
theorem dL_law_277 : decode cL_law 277 = .ok (.iadd, 1) := by decide +kernel
theorem dL_law_278 : decode cL_law 278 = .ok (.iaload, 1) := by decide +kernel
theorem dL_law_279 : decode cL_law 279 = .ok (.aload_n 0, 1) := by decide +kernel
theorem dL_law_280 : decode cL_law 280 = .ok (.iload_n 3, 1) := by decide +kernel
theorem dL_law_281 : decode cL_law 281 = .ok (.iconst 3, 1) := by decide +kernel
theorem dL_law_282 : decode cL_law 282 = .ok (.iadd, 1) := by decide +kernel
theorem dL_law_283 : decode cL_law 283 = .ok (.iaload, 1) := by decide +kernel
theorem dL_law_284 : decode cL_law 284 = .ok (.aload_n 0, 1) := by decide +kernel
theorem dL_law_285 : decode cL_law 285 = .ok (.iload_n 3, 1) := by decide +kernel
theorem dL_law_286 : decode cL_law 286 = .ok (.iconst 4, 1) := by decide +kernel
theorem dL_law_287 : decode cL_law 287 = .ok (.iadd, 1) := by decide +kernel
theorem dL_law_288 : decode cL_law 288 = .ok (.iaload, 1) := by decide +kernel
theorem dL_law_289 : decode cL_law 289 = .ok (.ifCond .eq 7, 3) := by decide +kernel
theorem dL_law_296 : decode cL_law 296 = .ok (.iconst 0, 1) := by decide +kernel
theorem dL_law_297 : decode cL_law 297 = .ok (.aload_n 0, 1) := by decide +kernel
theorem dL_law_298 : decode cL_law 298 = .ok (.iload_n 3, 1) := by decide +kernel
theorem dL_law_299 : decode cL_law 299 = .ok (.iconst 5, 1) := by decide +kernel
theorem dL_law_300 : decode cL_law 300 = .ok (.iadd, 1) := by decide +kernel
theorem dL_law_301 : decode cL_law 301 = .ok (.iaload, 1) := by decide +kernel
theorem dL_law_302 : decode cL_law 302 = .ok (.ifCond .eq 7, 3) := by decide +kernel
theorem dL_law_309 : decode cL_law 309 = .ok (.iconst 0, 1) := by decide +kernel
theorem dL_law_310 : decode cL_law 310 = .ok (.invokevirtual 22, 3) := by decide +kernel
theorem wl_L_22 : Cond.methodLink RL 22 yX12_sees ∈ TB := tbm (tq5 (List.mem_of_getElem? (i := 235) (by decide +kernel))) (by decide +kernel)
theorem wc_X12_sees : Cond.code yX12_sees cX12_sees 7 (some .int) ∈ TB := tbm (tq5 (List.mem_of_getElem? (i := 238) (rfl))) (by decide +kernel)
theorem wi_X12_sees : Cond.instanceMethod yX12_sees ∈ TB := tbm (tq5 (List.mem_of_getElem? (i := 236) (by decide +kernel))) (by decide +kernel)
theorem ws_X12_sees : Cond.selects RX12 yX12_sees yX12_sees ∈ TB := tbm (tq5 (List.mem_of_getElem? (i := 237) (by decide +kernel))) (by decide +kernel)
theorem mi_X12_sees : MI yX12_sees cX12_sees 7 (some .int) 5 := ⟨wc_X12_sees, wn_X12, ⟨by decide +kernel, by decide +kernel, by decide +kernel⟩, wi_X12_sees, ws_X12_sees⟩
theorem dL_law_313 : decode cL_law 313 = .ok (.if_icmp .eq 1139, 3) := by decide +kernel
theorem dL_law_260 : decode cL_law 260 = .ok (.iconst 1, 1) := by decide +kernel
theorem dL_law_261 : decode cL_law 261 = .ok (.goto 4, 3) := by decide +kernel
theorem dL_law_305 : decode cL_law 305 = .ok (.iconst 1, 1) := by decide +kernel
theorem dL_law_306 : decode cL_law 306 = .ok (.goto 4, 3) := by decide +kernel
theorem dL_law_247 : decode cL_law 247 = .ok (.iconst 1, 1) := by decide +kernel
theorem dL_law_248 : decode cL_law 248 = .ok (.goto 4, 3) := by decide +kernel
theorem dL_law_292 : decode cL_law 292 = .ok (.iconst 1, 1) := by decide +kernel
theorem dL_law_293 : decode cL_law 293 = .ok (.goto 4, 3) := by decide +kernel
set_option maxRecDepth 100000 in
set_option maxHeartbeats 4000000 in
theorem lawc_sees {X : XT} {E : EV} {xs : Nat → Int32} (bb : Nat) (hx : Nat) (hm : Nat) (qn : Nat) (qp : Nat) (qs : Nat) (qj : Nat) (ql : Nat) (qh : Nat) (qk : Nat) (qr : Nat) (qg : Nat) (qsh : Nat) (nf : Nat) (np : Nat) (m_manys : Nat) (m_reals : Nat) (m_factsOf : Nat) (m_possible : Nat) (m_tape : Nat) (m_ends : Nat) (m_letters : Nat) (m_actOf : Nat) (m_whom : Nat) (m_actMany : Nat) (m_tokens : Nat) (m_afters : Nat) (m_afterOf : Nat) (m_pile : Nat) (m_caseMany : Nat) (m_happen : Nat) (m_hasIf : Nat) (m_becomes : Nat) (m_goneOf : Nat) (m_heard : Nat) (m_pairs : Nat) (m_heaps : Nat) (m_led : Nat) (m_newAt : Nat) (m_knowing : Nat) (m_firsts : Nat) (m_secrets : Nat) (m_tried : Nat) (m_lanes : Nat) (m_lengths : Nat) (m_cells : Nat) (C : CX X room_1 cL_law 4 RL ret E) (hs : SX X bb 6 xs)  (a0 : Int32) (a1 : Int32) (a2 : Int32) (a3 : Int32) (a4 : Int32) (a5 : Int32) (ea0 : xs 0 = a0) (ea1 : xs 1 = a1) (ea2 : xs 2 = a2) (ea3 : xs 3 = a3) (ea4 : xs 4 = a4) (ea5 : xs 5 = a5) (kk : WW X 4 E 1452 [(3, .int 0), (2, .ref hm), (1, .ref hx), (0, .ref bb)] [] [] 168 11526) : WW X 4 E 223 [(3, .int 0), (2, .ref hm), (1, .ref hx), (0, .ref bb)] [] [(hx, .inr (11, [.ref qn, .ref qp, .int 0, .int 0, .ref qs, .ref qj, .ref ql, .ref qh, .ref qk, .int 0, .ref qr, .ref qg, .int 0, .int 0, .ref qsh])), (qn, .inr (4, [.int 0, .int 0, .ref nf, .ref np])), (nf, .inl (E.2.1 1, 24, .inl (fun _ => 0))), (np, .inl (E.2.1 1, 96, .inl (fun _ => 0))), (hm, .inr (12, [.ref m_manys, .ref m_reals, .ref m_factsOf, .ref m_possible, .int 0, .int 0, .ref m_tape, .int 0, .int 0, .int 0, .int 0, .int 0, .int 0, .int 0, .int 0, .ref m_ends, .ref m_letters, .ref m_actOf, .ref m_whom, .ref m_actMany, .ref m_tokens, .ref m_afters, .ref m_afterOf, .int 0, .ref m_pile, .ref m_caseMany, .ref m_happen, .ref m_hasIf, .ref m_becomes, .ref m_goneOf, .ref m_heard, .ref m_pairs, .ref m_heaps, .int 0, .int 0, .ref m_led, .ref m_newAt, .ref m_knowing, .ref m_firsts, .int 0, .ref m_secrets, .ref m_tried, .ref m_lanes, .ref m_lengths, .ref m_cells])), (m_manys, .inl (E.2.1 1, 18, .inl (fun _ => 0)))] 168 11526 := by
  refine ww_aload_n C dL_law_223 2 rfl rfl ?_
  refine ww_aload_n C dL_law_224 3 rfl rfl ?_
  refine ww_iload_n C dL_law_225 0 rfl rfl ?_
  refine ww_iconst (v := 1) C dL_law_226 rfl ?_
  refine ww_iadd (v := 1) C dL_law_227 (by decide) ?_
  refine ww_sld (v := a1) C hs (vin rfl) ea1 dL_law_228 ?_
  refine ww_aload_n C dL_law_229 3 rfl rfl ?_
  refine ww_iload_n C dL_law_230 0 rfl rfl ?_
  refine ww_iconst (v := 2) C dL_law_231 rfl ?_
  refine ww_iadd (v := 2) C dL_law_232 (by decide) ?_
  refine ww_sld (v := a2) C hs (vin rfl) ea2 dL_law_233 ?_
  refine ww_aload_n C dL_law_234 3 rfl rfl ?_
  refine ww_iload_n C dL_law_235 0 rfl rfl ?_
  refine ww_iconst (v := 3) C dL_law_236 rfl ?_
  refine ww_iadd (v := 3) C dL_law_237 (by decide) ?_
  refine ww_sld (v := a3) C hs (vin rfl) ea3 dL_law_238 ?_
  refine ww_aload_n C dL_law_239 3 rfl rfl ?_
  refine ww_iload_n C dL_law_240 0 rfl rfl ?_
  refine ww_iconst (v := 4) C dL_law_241 rfl ?_
  refine ww_iadd (v := 4) C dL_law_242 (by decide) ?_
  refine ww_sld (v := a4) C hs (vin rfl) ea4 dL_law_243 ?_
  refine ww_if_eq (tgt := 251) C dL_law_244 (by decide) (fun c_1 => ?_) (fun c_1 => ?_)
  · have zc_1 : a4.toInt = 0 := i_eq rfl rfl c_1
    refine ww_iconst (v := 0) C dL_law_251 rfl ?_
    refine ww_aload_n C dL_law_252 3 rfl rfl ?_
    refine ww_iload_n C dL_law_253 0 rfl rfl ?_
    refine ww_iconst (v := 5) C dL_law_254 rfl ?_
    refine ww_iadd (v := 5) C dL_law_255 (by decide) ?_
    refine ww_sld (v := a5) C hs (vin rfl) ea5 dL_law_256 ?_
    refine ww_if_eq (tgt := 264) C dL_law_257 (by decide) (fun c_2 => ?_) (fun c_2 => ?_)
    · have zc_2 : a5.toInt = 0 := i_eq rfl rfl c_2
      refine ww_iconst (v := 0) C dL_law_264 rfl ?_
      refine ww_ci (wr := [(hm, .inr (12, [.ref m_manys, .ref m_reals, .ref m_factsOf, .ref m_possible, .int 0, .int 0, .ref m_tape, .int 0, .int 0, .int 0, .int 0, .int 0, .int 0, .int 0, .int 0, .ref m_ends, .ref m_letters, .ref m_actOf, .ref m_whom, .ref m_actMany, .ref m_tokens, .ref m_afters, .ref m_afterOf, .int 0, .ref m_pile, .ref m_caseMany, .ref m_happen, .ref m_hasIf, .ref m_becomes, .ref m_goneOf, .ref m_heard, .ref m_pairs, .ref m_heaps, .int 0, .int 0, .ref m_led, .ref m_newAt, .ref m_knowing, .ref m_firsts, .int 0, .ref m_secrets, .ref m_tried, .ref m_lanes, .ref m_lengths, .ref m_cells])), (m_manys, .inl (E.2.1 1, 18, .inl (fun _ => 0)))]) (k' := 168) (n' := 11526) C (run_V (As := [.int a1, .int a2, .int a3, .int 0, .int 0]) (rest := []) C (x_sees X.2.1 E hx a1 a2 a3 0 0 qn qp qs qj ql qh qk qr qg qsh nf np) mi_X11_sees wl_L_18 rfl 0 11 rfl rfl rfl rfl rfl dL_law_265) [0, 1, 2, 3] [4, 5] rfl rfl rfl rfl (fun r u hw => ?_)
      obtain ⟨rfl, rfl⟩ := hw
      refine ww_eq (ws' := [(hm, .inr (12, [.ref m_manys, .ref m_reals, .ref m_factsOf, .ref m_possible, .int 0, .int 0, .ref m_tape, .int 0, .int 0, .int 0, .int 0, .int 0, .int 0, .int 0, .int 0, .ref m_ends, .ref m_letters, .ref m_actOf, .ref m_whom, .ref m_actMany, .ref m_tokens, .ref m_afters, .ref m_afterOf, .int 0, .ref m_pile, .ref m_caseMany, .ref m_happen, .ref m_hasIf, .ref m_becomes, .ref m_goneOf, .ref m_heard, .ref m_pairs, .ref m_heaps, .int 0, .int 0, .ref m_led, .ref m_newAt, .ref m_knowing, .ref m_firsts, .int 0, .ref m_secrets, .ref m_tried, .ref m_lanes, .ref m_lengths, .ref m_cells])), (m_manys, .inl (E.2.1 1, 18, .inl (fun _ => 0)))]) ?_ rfl rfl rfl
      refine ww_aload_n C dL_law_268 1 rfl rfl ?_
      refine ww_aload_n C dL_law_269 3 rfl rfl ?_
      refine ww_iload_n C dL_law_270 0 rfl rfl ?_
      refine ww_iconst (v := 1) C dL_law_271 rfl ?_
      refine ww_iadd (v := 1) C dL_law_272 (by decide) ?_
      refine ww_sld (v := a1) C hs (vin rfl) ea1 dL_law_273 ?_
      refine ww_aload_n C dL_law_274 3 rfl rfl ?_
      refine ww_iload_n C dL_law_275 0 rfl rfl ?_
      refine ww_iconst (v := 2) C dL_law_276 rfl ?_
      refine ww_iadd (v := 2) C dL_law_277 (by decide) ?_
      refine ww_sld (v := a2) C hs (vin rfl) ea2 dL_law_278 ?_
      refine ww_aload_n C dL_law_279 3 rfl rfl ?_
      refine ww_iload_n C dL_law_280 0 rfl rfl ?_
      refine ww_iconst (v := 3) C dL_law_281 rfl ?_
      refine ww_iadd (v := 3) C dL_law_282 (by decide) ?_
      refine ww_sld (v := a3) C hs (vin rfl) ea3 dL_law_283 ?_
      refine ww_aload_n C dL_law_284 3 rfl rfl ?_
      refine ww_iload_n C dL_law_285 0 rfl rfl ?_
      refine ww_iconst (v := 4) C dL_law_286 rfl ?_
      refine ww_iadd (v := 4) C dL_law_287 (by decide) ?_
      refine ww_sld (v := a4) C hs (vin rfl) ea4 dL_law_288 ?_
      refine ww_if_eq (tgt := 296) C dL_law_289 (by decide) (fun c_3 => ?_) (fun c_3 => ?_)
      · have zc_3 : a4.toInt = 0 := i_eq rfl rfl c_3
        refine ww_iconst (v := 0) C dL_law_296 rfl ?_
        refine ww_aload_n C dL_law_297 3 rfl rfl ?_
        refine ww_iload_n C dL_law_298 0 rfl rfl ?_
        refine ww_iconst (v := 5) C dL_law_299 rfl ?_
        refine ww_iadd (v := 5) C dL_law_300 (by decide) ?_
        refine ww_sld (v := a5) C hs (vin rfl) ea5 dL_law_301 ?_
        refine ww_if_eq (tgt := 309) C dL_law_302 (by decide) (fun c_4 => ?_) (fun c_4 => ?_)
        · have zc_4 : a5.toInt = 0 := i_eq rfl rfl c_4
          refine ww_iconst (v := 0) C dL_law_309 rfl ?_
          refine ww_ci (wr := []) (k' := 168) (n' := 11526) C (run_V (As := [.int a1, .int a2, .int a3, .int 0, .int 0]) (rest := [.int (-1)]) C (y_sees X.2.1 E hm a1 a2 a3 0 0 m_manys m_reals m_factsOf m_possible m_tape m_ends m_letters m_actOf m_whom m_actMany m_tokens m_afters m_afterOf m_pile m_caseMany m_happen m_hasIf m_becomes m_goneOf m_heard m_pairs m_heaps m_led m_newAt m_knowing m_firsts m_secrets m_tried m_lanes m_lengths m_cells) mi_X12_sees wl_L_22 rfl 0 12 rfl rfl rfl rfl rfl dL_law_310) [0, 1] [] rfl rfl rfl rfl (fun r u hw => ?_)
          obtain ⟨rfl, rfl⟩ := hw
          refine ww_eq (ws' := []) ?_ rfl rfl rfl
          refine ww_icmp_eq_t (tgt := 1452) C dL_law_313 (by decide) (rfl) ?_
          exact ww_sub [] rfl rfl kk
        · have zc_4 : a5.toInt ≠ 0 := i_ne rfl rfl c_4
          omega
      · have zc_3 : a4.toInt ≠ 0 := i_ne rfl rfl c_3
        omega
    · have zc_2 : a5.toInt ≠ 0 := i_ne rfl rfl c_2
      refine ww_iconst (v := 1) C dL_law_260 rfl ?_
      refine ww_goto (tgt := 265) C dL_law_261 (by decide) ?_
      refine ww_ci (wr := [(hm, .inr (12, [.ref m_manys, .ref m_reals, .ref m_factsOf, .ref m_possible, .int 0, .int 0, .ref m_tape, .int 0, .int 0, .int 0, .int 0, .int 0, .int 0, .int 0, .int 0, .ref m_ends, .ref m_letters, .ref m_actOf, .ref m_whom, .ref m_actMany, .ref m_tokens, .ref m_afters, .ref m_afterOf, .int 0, .ref m_pile, .ref m_caseMany, .ref m_happen, .ref m_hasIf, .ref m_becomes, .ref m_goneOf, .ref m_heard, .ref m_pairs, .ref m_heaps, .int 0, .int 0, .ref m_led, .ref m_newAt, .ref m_knowing, .ref m_firsts, .int 0, .ref m_secrets, .ref m_tried, .ref m_lanes, .ref m_lengths, .ref m_cells])), (m_manys, .inl (E.2.1 1, 18, .inl (fun _ => 0)))]) (k' := 168) (n' := 11526) C (run_V (As := [.int a1, .int a2, .int a3, .int 0, .int 1]) (rest := []) C (x_sees X.2.1 E hx a1 a2 a3 0 1 qn qp qs qj ql qh qk qr qg qsh nf np) mi_X11_sees wl_L_18 rfl 0 11 rfl rfl rfl rfl rfl dL_law_265) [0, 1, 2, 3] [4, 5] rfl rfl rfl rfl (fun r u hw => ?_)
      obtain ⟨rfl, rfl⟩ := hw
      refine ww_eq (ws' := [(hm, .inr (12, [.ref m_manys, .ref m_reals, .ref m_factsOf, .ref m_possible, .int 0, .int 0, .ref m_tape, .int 0, .int 0, .int 0, .int 0, .int 0, .int 0, .int 0, .int 0, .ref m_ends, .ref m_letters, .ref m_actOf, .ref m_whom, .ref m_actMany, .ref m_tokens, .ref m_afters, .ref m_afterOf, .int 0, .ref m_pile, .ref m_caseMany, .ref m_happen, .ref m_hasIf, .ref m_becomes, .ref m_goneOf, .ref m_heard, .ref m_pairs, .ref m_heaps, .int 0, .int 0, .ref m_led, .ref m_newAt, .ref m_knowing, .ref m_firsts, .int 0, .ref m_secrets, .ref m_tried, .ref m_lanes, .ref m_lengths, .ref m_cells])), (m_manys, .inl (E.2.1 1, 18, .inl (fun _ => 0)))]) ?_ rfl rfl rfl
      refine ww_aload_n C dL_law_268 1 rfl rfl ?_
      refine ww_aload_n C dL_law_269 3 rfl rfl ?_
      refine ww_iload_n C dL_law_270 0 rfl rfl ?_
      refine ww_iconst (v := 1) C dL_law_271 rfl ?_
      refine ww_iadd (v := 1) C dL_law_272 (by decide) ?_
      refine ww_sld (v := a1) C hs (vin rfl) ea1 dL_law_273 ?_
      refine ww_aload_n C dL_law_274 3 rfl rfl ?_
      refine ww_iload_n C dL_law_275 0 rfl rfl ?_
      refine ww_iconst (v := 2) C dL_law_276 rfl ?_
      refine ww_iadd (v := 2) C dL_law_277 (by decide) ?_
      refine ww_sld (v := a2) C hs (vin rfl) ea2 dL_law_278 ?_
      refine ww_aload_n C dL_law_279 3 rfl rfl ?_
      refine ww_iload_n C dL_law_280 0 rfl rfl ?_
      refine ww_iconst (v := 3) C dL_law_281 rfl ?_
      refine ww_iadd (v := 3) C dL_law_282 (by decide) ?_
      refine ww_sld (v := a3) C hs (vin rfl) ea3 dL_law_283 ?_
      refine ww_aload_n C dL_law_284 3 rfl rfl ?_
      refine ww_iload_n C dL_law_285 0 rfl rfl ?_
      refine ww_iconst (v := 4) C dL_law_286 rfl ?_
      refine ww_iadd (v := 4) C dL_law_287 (by decide) ?_
      refine ww_sld (v := a4) C hs (vin rfl) ea4 dL_law_288 ?_
      refine ww_if_eq (tgt := 296) C dL_law_289 (by decide) (fun c_5 => ?_) (fun c_5 => ?_)
      · have zc_5 : a4.toInt = 0 := i_eq rfl rfl c_5
        refine ww_iconst (v := 0) C dL_law_296 rfl ?_
        refine ww_aload_n C dL_law_297 3 rfl rfl ?_
        refine ww_iload_n C dL_law_298 0 rfl rfl ?_
        refine ww_iconst (v := 5) C dL_law_299 rfl ?_
        refine ww_iadd (v := 5) C dL_law_300 (by decide) ?_
        refine ww_sld (v := a5) C hs (vin rfl) ea5 dL_law_301 ?_
        refine ww_if_eq (tgt := 309) C dL_law_302 (by decide) (fun c_6 => ?_) (fun c_6 => ?_)
        · have zc_6 : a5.toInt = 0 := i_eq rfl rfl c_6
          refine ww_iconst (v := 0) C dL_law_309 rfl ?_
          refine ww_ci (wr := []) (k' := 168) (n' := 11526) C (run_V (As := [.int a1, .int a2, .int a3, .int 0, .int 0]) (rest := [.int (-1)]) C (y_sees X.2.1 E hm a1 a2 a3 0 0 m_manys m_reals m_factsOf m_possible m_tape m_ends m_letters m_actOf m_whom m_actMany m_tokens m_afters m_afterOf m_pile m_caseMany m_happen m_hasIf m_becomes m_goneOf m_heard m_pairs m_heaps m_led m_newAt m_knowing m_firsts m_secrets m_tried m_lanes m_lengths m_cells) mi_X12_sees wl_L_22 rfl 0 12 rfl rfl rfl rfl rfl dL_law_310) [0, 1] [] rfl rfl rfl rfl (fun r u hw => ?_)
          obtain ⟨rfl, rfl⟩ := hw
          refine ww_eq (ws' := []) ?_ rfl rfl rfl
          refine ww_icmp_eq_t (tgt := 1452) C dL_law_313 (by decide) (rfl) ?_
          exact ww_sub [] rfl rfl kk
        · have zc_6 : a5.toInt ≠ 0 := i_ne rfl rfl c_6
          refine ww_iconst (v := 1) C dL_law_305 rfl ?_
          refine ww_goto (tgt := 310) C dL_law_306 (by decide) ?_
          refine ww_ci (wr := []) (k' := 168) (n' := 11526) C (run_V (As := [.int a1, .int a2, .int a3, .int 0, .int 1]) (rest := [.int (-1)]) C (y_sees X.2.1 E hm a1 a2 a3 0 1 m_manys m_reals m_factsOf m_possible m_tape m_ends m_letters m_actOf m_whom m_actMany m_tokens m_afters m_afterOf m_pile m_caseMany m_happen m_hasIf m_becomes m_goneOf m_heard m_pairs m_heaps m_led m_newAt m_knowing m_firsts m_secrets m_tried m_lanes m_lengths m_cells) mi_X12_sees wl_L_22 rfl 0 12 rfl rfl rfl rfl rfl dL_law_310) [0, 1] [] rfl rfl rfl rfl (fun r u hw => ?_)
          obtain ⟨rfl, rfl⟩ := hw
          refine ww_eq (ws' := []) ?_ rfl rfl rfl
          refine ww_icmp_eq_t (tgt := 1452) C dL_law_313 (by decide) (rfl) ?_
          exact ww_sub [] rfl rfl kk
      · have zc_5 : a4.toInt ≠ 0 := i_ne rfl rfl c_5
        omega
  · have zc_1 : a4.toInt ≠ 0 := i_ne rfl rfl c_1
    refine ww_iconst (v := 1) C dL_law_247 rfl ?_
    refine ww_goto (tgt := 252) C dL_law_248 (by decide) ?_
    refine ww_aload_n C dL_law_252 3 rfl rfl ?_
    refine ww_iload_n C dL_law_253 0 rfl rfl ?_
    refine ww_iconst (v := 5) C dL_law_254 rfl ?_
    refine ww_iadd (v := 5) C dL_law_255 (by decide) ?_
    refine ww_sld (v := a5) C hs (vin rfl) ea5 dL_law_256 ?_
    refine ww_if_eq (tgt := 264) C dL_law_257 (by decide) (fun c_7 => ?_) (fun c_7 => ?_)
    · have zc_7 : a5.toInt = 0 := i_eq rfl rfl c_7
      refine ww_iconst (v := 0) C dL_law_264 rfl ?_
      refine ww_ci (wr := [(hm, .inr (12, [.ref m_manys, .ref m_reals, .ref m_factsOf, .ref m_possible, .int 0, .int 0, .ref m_tape, .int 0, .int 0, .int 0, .int 0, .int 0, .int 0, .int 0, .int 0, .ref m_ends, .ref m_letters, .ref m_actOf, .ref m_whom, .ref m_actMany, .ref m_tokens, .ref m_afters, .ref m_afterOf, .int 0, .ref m_pile, .ref m_caseMany, .ref m_happen, .ref m_hasIf, .ref m_becomes, .ref m_goneOf, .ref m_heard, .ref m_pairs, .ref m_heaps, .int 0, .int 0, .ref m_led, .ref m_newAt, .ref m_knowing, .ref m_firsts, .int 0, .ref m_secrets, .ref m_tried, .ref m_lanes, .ref m_lengths, .ref m_cells])), (m_manys, .inl (E.2.1 1, 18, .inl (fun _ => 0)))]) (k' := 168) (n' := 11526) C (run_V (As := [.int a1, .int a2, .int a3, .int 1, .int 0]) (rest := []) C (x_sees X.2.1 E hx a1 a2 a3 1 0 qn qp qs qj ql qh qk qr qg qsh nf np) mi_X11_sees wl_L_18 rfl 0 11 rfl rfl rfl rfl rfl dL_law_265) [0, 1, 2, 3] [4, 5] rfl rfl rfl rfl (fun r u hw => ?_)
      obtain ⟨rfl, rfl⟩ := hw
      refine ww_eq (ws' := [(hm, .inr (12, [.ref m_manys, .ref m_reals, .ref m_factsOf, .ref m_possible, .int 0, .int 0, .ref m_tape, .int 0, .int 0, .int 0, .int 0, .int 0, .int 0, .int 0, .int 0, .ref m_ends, .ref m_letters, .ref m_actOf, .ref m_whom, .ref m_actMany, .ref m_tokens, .ref m_afters, .ref m_afterOf, .int 0, .ref m_pile, .ref m_caseMany, .ref m_happen, .ref m_hasIf, .ref m_becomes, .ref m_goneOf, .ref m_heard, .ref m_pairs, .ref m_heaps, .int 0, .int 0, .ref m_led, .ref m_newAt, .ref m_knowing, .ref m_firsts, .int 0, .ref m_secrets, .ref m_tried, .ref m_lanes, .ref m_lengths, .ref m_cells])), (m_manys, .inl (E.2.1 1, 18, .inl (fun _ => 0)))]) ?_ rfl rfl rfl
      refine ww_aload_n C dL_law_268 1 rfl rfl ?_
      refine ww_aload_n C dL_law_269 3 rfl rfl ?_
      refine ww_iload_n C dL_law_270 0 rfl rfl ?_
      refine ww_iconst (v := 1) C dL_law_271 rfl ?_
      refine ww_iadd (v := 1) C dL_law_272 (by decide) ?_
      refine ww_sld (v := a1) C hs (vin rfl) ea1 dL_law_273 ?_
      refine ww_aload_n C dL_law_274 3 rfl rfl ?_
      refine ww_iload_n C dL_law_275 0 rfl rfl ?_
      refine ww_iconst (v := 2) C dL_law_276 rfl ?_
      refine ww_iadd (v := 2) C dL_law_277 (by decide) ?_
      refine ww_sld (v := a2) C hs (vin rfl) ea2 dL_law_278 ?_
      refine ww_aload_n C dL_law_279 3 rfl rfl ?_
      refine ww_iload_n C dL_law_280 0 rfl rfl ?_
      refine ww_iconst (v := 3) C dL_law_281 rfl ?_
      refine ww_iadd (v := 3) C dL_law_282 (by decide) ?_
      refine ww_sld (v := a3) C hs (vin rfl) ea3 dL_law_283 ?_
      refine ww_aload_n C dL_law_284 3 rfl rfl ?_
      refine ww_iload_n C dL_law_285 0 rfl rfl ?_
      refine ww_iconst (v := 4) C dL_law_286 rfl ?_
      refine ww_iadd (v := 4) C dL_law_287 (by decide) ?_
      refine ww_sld (v := a4) C hs (vin rfl) ea4 dL_law_288 ?_
      refine ww_if_eq (tgt := 296) C dL_law_289 (by decide) (fun c_8 => ?_) (fun c_8 => ?_)
      · have zc_8 : a4.toInt = 0 := i_eq rfl rfl c_8
        refine ww_iconst (v := 0) C dL_law_296 rfl ?_
        refine ww_aload_n C dL_law_297 3 rfl rfl ?_
        refine ww_iload_n C dL_law_298 0 rfl rfl ?_
        refine ww_iconst (v := 5) C dL_law_299 rfl ?_
        refine ww_iadd (v := 5) C dL_law_300 (by decide) ?_
        refine ww_sld (v := a5) C hs (vin rfl) ea5 dL_law_301 ?_
        refine ww_if_eq (tgt := 309) C dL_law_302 (by decide) (fun c_9 => ?_) (fun c_9 => ?_)
        · have zc_9 : a5.toInt = 0 := i_eq rfl rfl c_9
          refine ww_iconst (v := 0) C dL_law_309 rfl ?_
          refine ww_ci (wr := []) (k' := 168) (n' := 11526) C (run_V (As := [.int a1, .int a2, .int a3, .int 0, .int 0]) (rest := [.int (-1)]) C (y_sees X.2.1 E hm a1 a2 a3 0 0 m_manys m_reals m_factsOf m_possible m_tape m_ends m_letters m_actOf m_whom m_actMany m_tokens m_afters m_afterOf m_pile m_caseMany m_happen m_hasIf m_becomes m_goneOf m_heard m_pairs m_heaps m_led m_newAt m_knowing m_firsts m_secrets m_tried m_lanes m_lengths m_cells) mi_X12_sees wl_L_22 rfl 0 12 rfl rfl rfl rfl rfl dL_law_310) [0, 1] [] rfl rfl rfl rfl (fun r u hw => ?_)
          obtain ⟨rfl, rfl⟩ := hw
          refine ww_eq (ws' := []) ?_ rfl rfl rfl
          refine ww_icmp_eq_t (tgt := 1452) C dL_law_313 (by decide) (rfl) ?_
          exact ww_sub [] rfl rfl kk
        · have zc_9 : a5.toInt ≠ 0 := i_ne rfl rfl c_9
          omega
      · have zc_8 : a4.toInt ≠ 0 := i_ne rfl rfl c_8
        refine ww_iconst (v := 1) C dL_law_292 rfl ?_
        refine ww_goto (tgt := 297) C dL_law_293 (by decide) ?_
        refine ww_aload_n C dL_law_297 3 rfl rfl ?_
        refine ww_iload_n C dL_law_298 0 rfl rfl ?_
        refine ww_iconst (v := 5) C dL_law_299 rfl ?_
        refine ww_iadd (v := 5) C dL_law_300 (by decide) ?_
        refine ww_sld (v := a5) C hs (vin rfl) ea5 dL_law_301 ?_
        refine ww_if_eq (tgt := 309) C dL_law_302 (by decide) (fun c_10 => ?_) (fun c_10 => ?_)
        · have zc_10 : a5.toInt = 0 := i_eq rfl rfl c_10
          refine ww_iconst (v := 0) C dL_law_309 rfl ?_
          refine ww_ci (wr := []) (k' := 168) (n' := 11526) C (run_V (As := [.int a1, .int a2, .int a3, .int 1, .int 0]) (rest := [.int (-1)]) C (y_sees X.2.1 E hm a1 a2 a3 1 0 m_manys m_reals m_factsOf m_possible m_tape m_ends m_letters m_actOf m_whom m_actMany m_tokens m_afters m_afterOf m_pile m_caseMany m_happen m_hasIf m_becomes m_goneOf m_heard m_pairs m_heaps m_led m_newAt m_knowing m_firsts m_secrets m_tried m_lanes m_lengths m_cells) mi_X12_sees wl_L_22 rfl 0 12 rfl rfl rfl rfl rfl dL_law_310) [0, 1] [] rfl rfl rfl rfl (fun r u hw => ?_)
          obtain ⟨rfl, rfl⟩ := hw
          refine ww_eq (ws' := []) ?_ rfl rfl rfl
          refine ww_icmp_eq_t (tgt := 1452) C dL_law_313 (by decide) (rfl) ?_
          exact ww_sub [] rfl rfl kk
        · have zc_10 : a5.toInt ≠ 0 := i_ne rfl rfl c_10
          omega
    · have zc_7 : a5.toInt ≠ 0 := i_ne rfl rfl c_7
      refine ww_iconst (v := 1) C dL_law_260 rfl ?_
      refine ww_goto (tgt := 265) C dL_law_261 (by decide) ?_
      refine ww_ci (wr := [(hm, .inr (12, [.ref m_manys, .ref m_reals, .ref m_factsOf, .ref m_possible, .int 0, .int 0, .ref m_tape, .int 0, .int 0, .int 0, .int 0, .int 0, .int 0, .int 0, .int 0, .ref m_ends, .ref m_letters, .ref m_actOf, .ref m_whom, .ref m_actMany, .ref m_tokens, .ref m_afters, .ref m_afterOf, .int 0, .ref m_pile, .ref m_caseMany, .ref m_happen, .ref m_hasIf, .ref m_becomes, .ref m_goneOf, .ref m_heard, .ref m_pairs, .ref m_heaps, .int 0, .int 0, .ref m_led, .ref m_newAt, .ref m_knowing, .ref m_firsts, .int 0, .ref m_secrets, .ref m_tried, .ref m_lanes, .ref m_lengths, .ref m_cells])), (m_manys, .inl (E.2.1 1, 18, .inl (fun _ => 0)))]) (k' := 168) (n' := 11526) C (run_V (As := [.int a1, .int a2, .int a3, .int 1, .int 1]) (rest := []) C (x_sees X.2.1 E hx a1 a2 a3 1 1 qn qp qs qj ql qh qk qr qg qsh nf np) mi_X11_sees wl_L_18 rfl 0 11 rfl rfl rfl rfl rfl dL_law_265) [0, 1, 2, 3] [4, 5] rfl rfl rfl rfl (fun r u hw => ?_)
      obtain ⟨rfl, rfl⟩ := hw
      refine ww_eq (ws' := [(hm, .inr (12, [.ref m_manys, .ref m_reals, .ref m_factsOf, .ref m_possible, .int 0, .int 0, .ref m_tape, .int 0, .int 0, .int 0, .int 0, .int 0, .int 0, .int 0, .int 0, .ref m_ends, .ref m_letters, .ref m_actOf, .ref m_whom, .ref m_actMany, .ref m_tokens, .ref m_afters, .ref m_afterOf, .int 0, .ref m_pile, .ref m_caseMany, .ref m_happen, .ref m_hasIf, .ref m_becomes, .ref m_goneOf, .ref m_heard, .ref m_pairs, .ref m_heaps, .int 0, .int 0, .ref m_led, .ref m_newAt, .ref m_knowing, .ref m_firsts, .int 0, .ref m_secrets, .ref m_tried, .ref m_lanes, .ref m_lengths, .ref m_cells])), (m_manys, .inl (E.2.1 1, 18, .inl (fun _ => 0)))]) ?_ rfl rfl rfl
      refine ww_aload_n C dL_law_268 1 rfl rfl ?_
      refine ww_aload_n C dL_law_269 3 rfl rfl ?_
      refine ww_iload_n C dL_law_270 0 rfl rfl ?_
      refine ww_iconst (v := 1) C dL_law_271 rfl ?_
      refine ww_iadd (v := 1) C dL_law_272 (by decide) ?_
      refine ww_sld (v := a1) C hs (vin rfl) ea1 dL_law_273 ?_
      refine ww_aload_n C dL_law_274 3 rfl rfl ?_
      refine ww_iload_n C dL_law_275 0 rfl rfl ?_
      refine ww_iconst (v := 2) C dL_law_276 rfl ?_
      refine ww_iadd (v := 2) C dL_law_277 (by decide) ?_
      refine ww_sld (v := a2) C hs (vin rfl) ea2 dL_law_278 ?_
      refine ww_aload_n C dL_law_279 3 rfl rfl ?_
      refine ww_iload_n C dL_law_280 0 rfl rfl ?_
      refine ww_iconst (v := 3) C dL_law_281 rfl ?_
      refine ww_iadd (v := 3) C dL_law_282 (by decide) ?_
      refine ww_sld (v := a3) C hs (vin rfl) ea3 dL_law_283 ?_
      refine ww_aload_n C dL_law_284 3 rfl rfl ?_
      refine ww_iload_n C dL_law_285 0 rfl rfl ?_
      refine ww_iconst (v := 4) C dL_law_286 rfl ?_
      refine ww_iadd (v := 4) C dL_law_287 (by decide) ?_
      refine ww_sld (v := a4) C hs (vin rfl) ea4 dL_law_288 ?_
      refine ww_if_eq (tgt := 296) C dL_law_289 (by decide) (fun c_11 => ?_) (fun c_11 => ?_)
      · have zc_11 : a4.toInt = 0 := i_eq rfl rfl c_11
        refine ww_iconst (v := 0) C dL_law_296 rfl ?_
        refine ww_aload_n C dL_law_297 3 rfl rfl ?_
        refine ww_iload_n C dL_law_298 0 rfl rfl ?_
        refine ww_iconst (v := 5) C dL_law_299 rfl ?_
        refine ww_iadd (v := 5) C dL_law_300 (by decide) ?_
        refine ww_sld (v := a5) C hs (vin rfl) ea5 dL_law_301 ?_
        refine ww_if_eq (tgt := 309) C dL_law_302 (by decide) (fun c_12 => ?_) (fun c_12 => ?_)
        · have zc_12 : a5.toInt = 0 := i_eq rfl rfl c_12
          refine ww_iconst (v := 0) C dL_law_309 rfl ?_
          refine ww_ci (wr := []) (k' := 168) (n' := 11526) C (run_V (As := [.int a1, .int a2, .int a3, .int 0, .int 0]) (rest := [.int (-1)]) C (y_sees X.2.1 E hm a1 a2 a3 0 0 m_manys m_reals m_factsOf m_possible m_tape m_ends m_letters m_actOf m_whom m_actMany m_tokens m_afters m_afterOf m_pile m_caseMany m_happen m_hasIf m_becomes m_goneOf m_heard m_pairs m_heaps m_led m_newAt m_knowing m_firsts m_secrets m_tried m_lanes m_lengths m_cells) mi_X12_sees wl_L_22 rfl 0 12 rfl rfl rfl rfl rfl dL_law_310) [0, 1] [] rfl rfl rfl rfl (fun r u hw => ?_)
          obtain ⟨rfl, rfl⟩ := hw
          refine ww_eq (ws' := []) ?_ rfl rfl rfl
          refine ww_icmp_eq_t (tgt := 1452) C dL_law_313 (by decide) (rfl) ?_
          exact ww_sub [] rfl rfl kk
        · have zc_12 : a5.toInt ≠ 0 := i_ne rfl rfl c_12
          refine ww_iconst (v := 1) C dL_law_305 rfl ?_
          refine ww_goto (tgt := 310) C dL_law_306 (by decide) ?_
          refine ww_ci (wr := []) (k' := 168) (n' := 11526) C (run_V (As := [.int a1, .int a2, .int a3, .int 0, .int 1]) (rest := [.int (-1)]) C (y_sees X.2.1 E hm a1 a2 a3 0 1 m_manys m_reals m_factsOf m_possible m_tape m_ends m_letters m_actOf m_whom m_actMany m_tokens m_afters m_afterOf m_pile m_caseMany m_happen m_hasIf m_becomes m_goneOf m_heard m_pairs m_heaps m_led m_newAt m_knowing m_firsts m_secrets m_tried m_lanes m_lengths m_cells) mi_X12_sees wl_L_22 rfl 0 12 rfl rfl rfl rfl rfl dL_law_310) [0, 1] [] rfl rfl rfl rfl (fun r u hw => ?_)
          obtain ⟨rfl, rfl⟩ := hw
          refine ww_eq (ws' := []) ?_ rfl rfl rfl
          refine ww_icmp_eq_t (tgt := 1452) C dL_law_313 (by decide) (rfl) ?_
          exact ww_sub [] rfl rfl kk
      · have zc_11 : a4.toInt ≠ 0 := i_ne rfl rfl c_11
        refine ww_iconst (v := 1) C dL_law_292 rfl ?_
        refine ww_goto (tgt := 297) C dL_law_293 (by decide) ?_
        refine ww_aload_n C dL_law_297 3 rfl rfl ?_
        refine ww_iload_n C dL_law_298 0 rfl rfl ?_
        refine ww_iconst (v := 5) C dL_law_299 rfl ?_
        refine ww_iadd (v := 5) C dL_law_300 (by decide) ?_
        refine ww_sld (v := a5) C hs (vin rfl) ea5 dL_law_301 ?_
        refine ww_if_eq (tgt := 309) C dL_law_302 (by decide) (fun c_13 => ?_) (fun c_13 => ?_)
        · have zc_13 : a5.toInt = 0 := i_eq rfl rfl c_13
          refine ww_iconst (v := 0) C dL_law_309 rfl ?_
          refine ww_ci (wr := []) (k' := 168) (n' := 11526) C (run_V (As := [.int a1, .int a2, .int a3, .int 1, .int 0]) (rest := [.int (-1)]) C (y_sees X.2.1 E hm a1 a2 a3 1 0 m_manys m_reals m_factsOf m_possible m_tape m_ends m_letters m_actOf m_whom m_actMany m_tokens m_afters m_afterOf m_pile m_caseMany m_happen m_hasIf m_becomes m_goneOf m_heard m_pairs m_heaps m_led m_newAt m_knowing m_firsts m_secrets m_tried m_lanes m_lengths m_cells) mi_X12_sees wl_L_22 rfl 0 12 rfl rfl rfl rfl rfl dL_law_310) [0, 1] [] rfl rfl rfl rfl (fun r u hw => ?_)
          obtain ⟨rfl, rfl⟩ := hw
          refine ww_eq (ws' := []) ?_ rfl rfl rfl
          refine ww_icmp_eq_t (tgt := 1452) C dL_law_313 (by decide) (rfl) ?_
          exact ww_sub [] rfl rfl kk
        · have zc_13 : a5.toInt ≠ 0 := i_ne rfl rfl c_13
          refine ww_iconst (v := 1) C dL_law_305 rfl ?_
          refine ww_goto (tgt := 310) C dL_law_306 (by decide) ?_
          refine ww_ci (wr := []) (k' := 168) (n' := 11526) C (run_V (As := [.int a1, .int a2, .int a3, .int 1, .int 1]) (rest := [.int (-1)]) C (y_sees X.2.1 E hm a1 a2 a3 1 1 m_manys m_reals m_factsOf m_possible m_tape m_ends m_letters m_actOf m_whom m_actMany m_tokens m_afters m_afterOf m_pile m_caseMany m_happen m_hasIf m_becomes m_goneOf m_heard m_pairs m_heaps m_led m_newAt m_knowing m_firsts m_secrets m_tried m_lanes m_lengths m_cells) mi_X12_sees wl_L_22 rfl 0 12 rfl rfl rfl rfl rfl dL_law_310) [0, 1] [] rfl rfl rfl rfl (fun r u hw => ?_)
          obtain ⟨rfl, rfl⟩ := hw
          refine ww_eq (ws' := []) ?_ rfl rfl rfl
          refine ww_icmp_eq_t (tgt := 1452) C dL_law_313 (by decide) (rfl) ?_
          exact ww_sub [] rfl rfl kk
theorem dL_law_318 : decode cL_law 318 = .ok (.aload_n 1, 1) := by decide +kernel
theorem dL_law_319 : decode cL_law 319 = .ok (.aload_n 0, 1) := by decide +kernel
theorem dL_law_320 : decode cL_law 320 = .ok (.iload_n 3, 1) := by decide +kernel
theorem dL_law_321 : decode cL_law 321 = .ok (.iconst 1, 1) := by decide +kernel
theorem dL_law_322 : decode cL_law 322 = .ok (.iadd, 1) := by decide +kernel
theorem dL_law_323 : decode cL_law 323 = .ok (.iaload, 1) := by decide +kernel
theorem dL_law_324 : decode cL_law 324 = .ok (.invokevirtual 23, 3) := by decide +kernel
theorem wl_L_23 : Cond.methodLink RL 23 yX11_blind ∈ TB := tbm (tq2 (List.mem_of_getElem? (i := 184) (by decide +kernel))) (by decide +kernel)
theorem wc_X11_blind : Cond.code yX11_blind cX11_blind 2 (some .int) ∈ TB := tbm (tq2 (List.mem_of_getElem? (i := 187) (rfl))) (by decide +kernel)
theorem wi_X11_blind : Cond.instanceMethod yX11_blind ∈ TB := tbm (tq2 (List.mem_of_getElem? (i := 185) (by decide +kernel))) (by decide +kernel)
theorem ws_X11_blind : Cond.selects RX11 yX11_blind yX11_blind ∈ TB := tbm (tq2 (List.mem_of_getElem? (i := 186) (by decide +kernel))) (by decide +kernel)
theorem mi_X11_blind : MI yX11_blind cX11_blind 2 (some .int) 1 := ⟨wc_X11_blind, wn_X11, ⟨by decide +kernel, by decide +kernel, by decide +kernel⟩, wi_X11_blind, ws_X11_blind⟩
theorem dL_law_327 : decode cL_law 327 = .ok (.aload_n 2, 1) := by decide +kernel
theorem dL_law_328 : decode cL_law 328 = .ok (.aload_n 0, 1) := by decide +kernel
theorem dL_law_329 : decode cL_law 329 = .ok (.iload_n 3, 1) := by decide +kernel
theorem dL_law_330 : decode cL_law 330 = .ok (.iconst 1, 1) := by decide +kernel
theorem dL_law_331 : decode cL_law 331 = .ok (.iadd, 1) := by decide +kernel
theorem dL_law_332 : decode cL_law 332 = .ok (.iaload, 1) := by decide +kernel
theorem dL_law_333 : decode cL_law 333 = .ok (.invokevirtual 26, 3) := by decide +kernel
theorem wl_L_26 : Cond.methodLink RL 26 yX12_blind ∈ TB := tbm (tq6 (List.mem_of_getElem? (i := 15) (by decide +kernel))) (by decide +kernel)
theorem wc_X12_blind : Cond.code yX12_blind cX12_blind 7 (some .int) ∈ TB := tbm (tq6 (List.mem_of_getElem? (i := 18) (rfl))) (by decide +kernel)
theorem wi_X12_blind : Cond.instanceMethod yX12_blind ∈ TB := tbm (tq6 (List.mem_of_getElem? (i := 16) (by decide +kernel))) (by decide +kernel)
theorem ws_X12_blind : Cond.selects RX12 yX12_blind yX12_blind ∈ TB := tbm (tq6 (List.mem_of_getElem? (i := 17) (by decide +kernel))) (by decide +kernel)
theorem mi_X12_blind : MI yX12_blind cX12_blind 7 (some .int) 1 := ⟨wc_X12_blind, wn_X12, ⟨by decide +kernel, by decide +kernel, by decide +kernel⟩, wi_X12_blind, ws_X12_blind⟩
theorem dL_law_336 : decode cL_law 336 = .ok (.if_icmp .eq 1116, 3) := by decide +kernel
set_option maxRecDepth 100000 in
set_option maxHeartbeats 4000000 in
theorem lawc_blind {X : XT} {E : EV} {xs : Nat → Int32} (bb : Nat) (hx : Nat) (hm : Nat) (qn : Nat) (qp : Nat) (qs : Nat) (qj : Nat) (ql : Nat) (qh : Nat) (qk : Nat) (qr : Nat) (qg : Nat) (qsh : Nat) (nf : Nat) (np : Nat) (fp : Nat → Option Nat) (pm : Nat) (pf : Nat) (pp : Nat) (m_manys : Nat) (m_reals : Nat) (m_factsOf : Nat) (m_possible : Nat) (m_tape : Nat) (m_ends : Nat) (m_letters : Nat) (m_actOf : Nat) (m_whom : Nat) (m_actMany : Nat) (m_tokens : Nat) (m_afters : Nat) (m_afterOf : Nat) (m_pile : Nat) (m_caseMany : Nat) (m_happen : Nat) (m_hasIf : Nat) (m_becomes : Nat) (m_goneOf : Nat) (m_heard : Nat) (m_pairs : Nat) (m_heaps : Nat) (m_led : Nat) (m_newAt : Nat) (m_knowing : Nat) (m_firsts : Nat) (m_secrets : Nat) (m_tried : Nat) (m_lanes : Nat) (m_lengths : Nat) (m_cells : Nat) (C : CX X room_1 cL_law 4 RL ret E) (hs : SX X bb 6 xs) (k_fp_0 : fp 0 = some pm) (a0 : Int32) (a1 : Int32) (a2 : Int32) (a3 : Int32) (a4 : Int32) (a5 : Int32) (ea0 : xs 0 = a0) (ea1 : xs 1 = a1) (ea2 : xs 2 = a2) (ea3 : xs 3 = a3) (ea4 : xs 4 = a4) (ea5 : xs 5 = a5) (kk : WW X 4 E 1452 [(3, .int 0), (2, .ref hm), (1, .ref hx), (0, .ref bb)] [] [] 168 11526) : WW X 4 E 318 [(3, .int 0), (2, .ref hm), (1, .ref hx), (0, .ref bb)] [] [(hx, .inr (11, [.ref qn, .ref qp, .int 0, .int 0, .ref qs, .ref qj, .ref ql, .ref qh, .ref qk, .int 0, .ref qr, .ref qg, .int 0, .int 0, .ref qsh])), (qn, .inr (4, [.int 0, .int 0, .ref nf, .ref np])), (nf, .inl (E.2.1 1, 24, .inl (fun _ => 0))), (np, .inl (E.2.1 1, 96, .inl (fun _ => 0))), (qp, .inl (E.2.1 6, 8, .inr (.inr (.inr (.inr fp))))), (pm, .inr (4, [.int 0, .int 0, .ref pf, .ref pp])), (pf, .inl (E.2.1 1, 24, .inl (fun _ => 0))), (pp, .inl (E.2.1 1, 96, .inl (fun _ => 0))), (hm, .inr (12, [.ref m_manys, .ref m_reals, .ref m_factsOf, .ref m_possible, .int 0, .int 0, .ref m_tape, .int 0, .int 0, .int 0, .int 0, .int 0, .int 0, .int 0, .int 0, .ref m_ends, .ref m_letters, .ref m_actOf, .ref m_whom, .ref m_actMany, .ref m_tokens, .ref m_afters, .ref m_afterOf, .int 0, .ref m_pile, .ref m_caseMany, .ref m_happen, .ref m_hasIf, .ref m_becomes, .ref m_goneOf, .ref m_heard, .ref m_pairs, .ref m_heaps, .int 0, .int 0, .ref m_led, .ref m_newAt, .ref m_knowing, .ref m_firsts, .int 0, .ref m_secrets, .ref m_tried, .ref m_lanes, .ref m_lengths, .ref m_cells])), (m_manys, .inl (E.2.1 1, 18, .inl (fun _ => 0))), (m_reals, .inl (E.2.1 1, 18, .inl (fun _ => 0))), (m_factsOf, .inl (E.2.1 1, 432, .inl (fun _ => 0))), (m_possible, .inl (E.2.1 1, 1728, .inl (fun _ => 0)))] 168 11526 := by
  refine ww_aload_n C dL_law_318 2 rfl rfl ?_
  refine ww_aload_n C dL_law_319 3 rfl rfl ?_
  refine ww_iload_n C dL_law_320 0 rfl rfl ?_
  refine ww_iconst (v := 1) C dL_law_321 rfl ?_
  refine ww_iadd (v := 1) C dL_law_322 (by decide) ?_
  refine ww_sld (v := a1) C hs (vin rfl) ea1 dL_law_323 ?_
  refine ww_ci (wr := [(hm, .inr (12, [.ref m_manys, .ref m_reals, .ref m_factsOf, .ref m_possible, .int 0, .int 0, .ref m_tape, .int 0, .int 0, .int 0, .int 0, .int 0, .int 0, .int 0, .int 0, .ref m_ends, .ref m_letters, .ref m_actOf, .ref m_whom, .ref m_actMany, .ref m_tokens, .ref m_afters, .ref m_afterOf, .int 0, .ref m_pile, .ref m_caseMany, .ref m_happen, .ref m_hasIf, .ref m_becomes, .ref m_goneOf, .ref m_heard, .ref m_pairs, .ref m_heaps, .int 0, .int 0, .ref m_led, .ref m_newAt, .ref m_knowing, .ref m_firsts, .int 0, .ref m_secrets, .ref m_tried, .ref m_lanes, .ref m_lengths, .ref m_cells])), (m_manys, .inl (E.2.1 1, 18, .inl (fun _ => 0))), (m_reals, .inl (E.2.1 1, 18, .inl (fun _ => 0))), (m_factsOf, .inl (E.2.1 1, 432, .inl (fun _ => 0))), (m_possible, .inl (E.2.1 1, 1728, .inl (fun _ => 0)))]) (k' := 168) (n' := 11526) C (run_V (As := [.int a1]) (rest := []) C (x_blind X.2.1 E hx a1 qn qp qs qj ql qh qk qr qg qsh nf np fp pm pf pp k_fp_0) mi_X11_blind wl_L_23 rfl 0 11 rfl rfl rfl rfl rfl dL_law_324) [0, 1, 2, 3, 4, 5, 6, 7] [8, 9, 10, 11, 12] rfl rfl rfl rfl (fun r u hw => ?_)
  rcases hw with ⟨rfl, rfl, h_1⟩ | ⟨rfl, rfl, h_2, h_3⟩
  · refine ww_eq (ws' := [(hm, .inr (12, [.ref m_manys, .ref m_reals, .ref m_factsOf, .ref m_possible, .int 0, .int 0, .ref m_tape, .int 0, .int 0, .int 0, .int 0, .int 0, .int 0, .int 0, .int 0, .ref m_ends, .ref m_letters, .ref m_actOf, .ref m_whom, .ref m_actMany, .ref m_tokens, .ref m_afters, .ref m_afterOf, .int 0, .ref m_pile, .ref m_caseMany, .ref m_happen, .ref m_hasIf, .ref m_becomes, .ref m_goneOf, .ref m_heard, .ref m_pairs, .ref m_heaps, .int 0, .int 0, .ref m_led, .ref m_newAt, .ref m_knowing, .ref m_firsts, .int 0, .ref m_secrets, .ref m_tried, .ref m_lanes, .ref m_lengths, .ref m_cells])), (m_manys, .inl (E.2.1 1, 18, .inl (fun _ => 0))), (m_reals, .inl (E.2.1 1, 18, .inl (fun _ => 0))), (m_factsOf, .inl (E.2.1 1, 432, .inl (fun _ => 0))), (m_possible, .inl (E.2.1 1, 1728, .inl (fun _ => 0)))]) ?_ rfl rfl rfl
    refine ww_aload_n C dL_law_327 1 rfl rfl ?_
    refine ww_aload_n C dL_law_328 3 rfl rfl ?_
    refine ww_iload_n C dL_law_329 0 rfl rfl ?_
    refine ww_iconst (v := 1) C dL_law_330 rfl ?_
    refine ww_iadd (v := 1) C dL_law_331 (by decide) ?_
    refine ww_sld (v := a1) C hs (vin rfl) ea1 dL_law_332 ?_
    refine ww_ci (wr := []) (k' := 168) (n' := 11526) C (run_V (As := [.int a1]) (rest := [.int (-1)]) C (y_blind X.2.1 E hm a1 m_manys m_reals m_factsOf m_possible m_tape m_ends m_letters m_actOf m_whom m_actMany m_tokens m_afters m_afterOf m_pile m_caseMany m_happen m_hasIf m_becomes m_goneOf m_heard m_pairs m_heaps m_led m_newAt m_knowing m_firsts m_secrets m_tried m_lanes m_lengths m_cells) mi_X12_blind wl_L_26 rfl 0 12 rfl rfl rfl rfl rfl dL_law_333) [0, 1, 2, 3, 4] [] rfl rfl rfl rfl (fun r u hw => ?_)
    rcases hw with ⟨rfl, rfl, h_4⟩ | ⟨rfl, rfl, h_5, h_6⟩
    · refine ww_eq (ws' := []) ?_ rfl rfl rfl
      refine ww_icmp_eq_t (tgt := 1452) C dL_law_336 (by decide) (rfl) ?_
      exact ww_sub [] rfl rfl kk
    · refine ww_eq (ws' := []) ?_ rfl rfl rfl
      omega
  · refine ww_eq (ws' := [(hm, .inr (12, [.ref m_manys, .ref m_reals, .ref m_factsOf, .ref m_possible, .int 0, .int 0, .ref m_tape, .int 0, .int 0, .int 0, .int 0, .int 0, .int 0, .int 0, .int 0, .ref m_ends, .ref m_letters, .ref m_actOf, .ref m_whom, .ref m_actMany, .ref m_tokens, .ref m_afters, .ref m_afterOf, .int 0, .ref m_pile, .ref m_caseMany, .ref m_happen, .ref m_hasIf, .ref m_becomes, .ref m_goneOf, .ref m_heard, .ref m_pairs, .ref m_heaps, .int 0, .int 0, .ref m_led, .ref m_newAt, .ref m_knowing, .ref m_firsts, .int 0, .ref m_secrets, .ref m_tried, .ref m_lanes, .ref m_lengths, .ref m_cells])), (m_manys, .inl (E.2.1 1, 18, .inl (fun _ => 0))), (m_reals, .inl (E.2.1 1, 18, .inl (fun _ => 0))), (m_factsOf, .inl (E.2.1 1, 432, .inl (fun _ => 0))), (m_possible, .inl (E.2.1 1, 1728, .inl (fun _ => 0)))]) ?_ rfl rfl rfl
    refine ww_aload_n C dL_law_327 1 rfl rfl ?_
    refine ww_aload_n C dL_law_328 3 rfl rfl ?_
    refine ww_iload_n C dL_law_329 0 rfl rfl ?_
    refine ww_iconst (v := 1) C dL_law_330 rfl ?_
    refine ww_iadd (v := 1) C dL_law_331 (by decide) ?_
    refine ww_sld (v := a1) C hs (vin rfl) ea1 dL_law_332 ?_
    refine ww_ci (wr := []) (k' := 168) (n' := 11526) C (run_V (As := [.int a1]) (rest := [.int 0]) C (y_blind X.2.1 E hm a1 m_manys m_reals m_factsOf m_possible m_tape m_ends m_letters m_actOf m_whom m_actMany m_tokens m_afters m_afterOf m_pile m_caseMany m_happen m_hasIf m_becomes m_goneOf m_heard m_pairs m_heaps m_led m_newAt m_knowing m_firsts m_secrets m_tried m_lanes m_lengths m_cells) mi_X12_blind wl_L_26 rfl 0 12 rfl rfl rfl rfl rfl dL_law_333) [0, 1, 2, 3, 4] [] rfl rfl rfl rfl (fun r u hw => ?_)
    rcases hw with ⟨rfl, rfl, h_7⟩ | ⟨rfl, rfl, h_8, h_9⟩
    · refine ww_eq (ws' := []) ?_ rfl rfl rfl
      omega
    · refine ww_eq (ws' := []) ?_ rfl rfl rfl
      refine ww_icmp_eq_t (tgt := 1452) C dL_law_336 (by decide) (rfl) ?_
      exact ww_sub [] rfl rfl kk
theorem dL_law_341 : decode cL_law 341 = .ok (.aload_n 1, 1) := by decide +kernel
theorem dL_law_342 : decode cL_law 342 = .ok (.aload_n 0, 1) := by decide +kernel
theorem dL_law_343 : decode cL_law 343 = .ok (.iload_n 3, 1) := by decide +kernel
theorem dL_law_344 : decode cL_law 344 = .ok (.iconst 1, 1) := by decide +kernel
theorem dL_law_345 : decode cL_law 345 = .ok (.iadd, 1) := by decide +kernel
theorem dL_law_346 : decode cL_law 346 = .ok (.iaload, 1) := by decide +kernel
theorem dL_law_347 : decode cL_law 347 = .ok (.invokevirtual 27, 3) := by decide +kernel
theorem wl_L_27 : Cond.methodLink RL 27 yX11_real ∈ TB := tbm (tq2 (List.mem_of_getElem? (i := 203) (by decide +kernel))) (by decide +kernel)
theorem wc_X11_real : Cond.code yX11_real cX11_real 3 (some .int) ∈ TB := tbm (tq2 (List.mem_of_getElem? (i := 206) (rfl))) (by decide +kernel)
theorem wi_X11_real : Cond.instanceMethod yX11_real ∈ TB := tbm (tq2 (List.mem_of_getElem? (i := 204) (by decide +kernel))) (by decide +kernel)
theorem ws_X11_real : Cond.selects RX11 yX11_real yX11_real ∈ TB := tbm (tq2 (List.mem_of_getElem? (i := 205) (by decide +kernel))) (by decide +kernel)
theorem mi_X11_real : MI yX11_real cX11_real 3 (some .int) 1 := ⟨wc_X11_real, wn_X11, ⟨by decide +kernel, by decide +kernel, by decide +kernel⟩, wi_X11_real, ws_X11_real⟩
theorem dL_law_350 : decode cL_law 350 = .ok (.aload_n 2, 1) := by decide +kernel
theorem dL_law_351 : decode cL_law 351 = .ok (.aload_n 0, 1) := by decide +kernel
theorem dL_law_352 : decode cL_law 352 = .ok (.iload_n 3, 1) := by decide +kernel
theorem dL_law_353 : decode cL_law 353 = .ok (.iconst 1, 1) := by decide +kernel
theorem dL_law_354 : decode cL_law 354 = .ok (.iadd, 1) := by decide +kernel
theorem dL_law_355 : decode cL_law 355 = .ok (.iaload, 1) := by decide +kernel
theorem dL_law_356 : decode cL_law 356 = .ok (.invokevirtual 30, 3) := by decide +kernel
theorem wl_L_30 : Cond.methodLink RL 30 yX12_real ∈ TB := tbm (tq6 (List.mem_of_getElem? (i := 23) (by decide +kernel))) (by decide +kernel)
theorem wc_X12_real : Cond.code yX12_real cX12_real 3 (some .int) ∈ TB := tbm (tq6 (List.mem_of_getElem? (i := 26) (rfl))) (by decide +kernel)
theorem wi_X12_real : Cond.instanceMethod yX12_real ∈ TB := tbm (tq6 (List.mem_of_getElem? (i := 24) (by decide +kernel))) (by decide +kernel)
theorem ws_X12_real : Cond.selects RX12 yX12_real yX12_real ∈ TB := tbm (tq6 (List.mem_of_getElem? (i := 25) (by decide +kernel))) (by decide +kernel)
theorem mi_X12_real : MI yX12_real cX12_real 3 (some .int) 1 := ⟨wc_X12_real, wn_X12, ⟨by decide +kernel, by decide +kernel, by decide +kernel⟩, wi_X12_real, ws_X12_real⟩
theorem dL_law_359 : decode cL_law 359 = .ok (.if_icmp .eq 1093, 3) := by decide +kernel
set_option maxRecDepth 100000 in
set_option maxHeartbeats 4000000 in
theorem lawc_real {X : XT} {E : EV} {xs : Nat → Int32} (bb : Nat) (hx : Nat) (hm : Nat) (qn : Nat) (qp : Nat) (qs : Nat) (qj : Nat) (ql : Nat) (qh : Nat) (qk : Nat) (qr : Nat) (qg : Nat) (qsh : Nat) (nf : Nat) (np : Nat) (m_manys : Nat) (m_reals : Nat) (m_factsOf : Nat) (m_possible : Nat) (m_tape : Nat) (m_ends : Nat) (m_letters : Nat) (m_actOf : Nat) (m_whom : Nat) (m_actMany : Nat) (m_tokens : Nat) (m_afters : Nat) (m_afterOf : Nat) (m_pile : Nat) (m_caseMany : Nat) (m_happen : Nat) (m_hasIf : Nat) (m_becomes : Nat) (m_goneOf : Nat) (m_heard : Nat) (m_pairs : Nat) (m_heaps : Nat) (m_led : Nat) (m_newAt : Nat) (m_knowing : Nat) (m_firsts : Nat) (m_secrets : Nat) (m_tried : Nat) (m_lanes : Nat) (m_lengths : Nat) (m_cells : Nat) (C : CX X room_1 cL_law 4 RL ret E) (hs : SX X bb 6 xs)  (a0 : Int32) (a1 : Int32) (a2 : Int32) (a3 : Int32) (a4 : Int32) (a5 : Int32) (ea0 : xs 0 = a0) (ea1 : xs 1 = a1) (ea2 : xs 2 = a2) (ea3 : xs 3 = a3) (ea4 : xs 4 = a4) (ea5 : xs 5 = a5) (kk : WW X 4 E 1452 [(3, .int 0), (2, .ref hm), (1, .ref hx), (0, .ref bb)] [] [] 168 11526) : WW X 4 E 341 [(3, .int 0), (2, .ref hm), (1, .ref hx), (0, .ref bb)] [] [(hx, .inr (11, [.ref qn, .ref qp, .int 0, .int 0, .ref qs, .ref qj, .ref ql, .ref qh, .ref qk, .int 0, .ref qr, .ref qg, .int 0, .int 0, .ref qsh])), (qn, .inr (4, [.int 0, .int 0, .ref nf, .ref np])), (nf, .inl (E.2.1 1, 24, .inl (fun _ => 0))), (np, .inl (E.2.1 1, 96, .inl (fun _ => 0))), (hm, .inr (12, [.ref m_manys, .ref m_reals, .ref m_factsOf, .ref m_possible, .int 0, .int 0, .ref m_tape, .int 0, .int 0, .int 0, .int 0, .int 0, .int 0, .int 0, .int 0, .ref m_ends, .ref m_letters, .ref m_actOf, .ref m_whom, .ref m_actMany, .ref m_tokens, .ref m_afters, .ref m_afterOf, .int 0, .ref m_pile, .ref m_caseMany, .ref m_happen, .ref m_hasIf, .ref m_becomes, .ref m_goneOf, .ref m_heard, .ref m_pairs, .ref m_heaps, .int 0, .int 0, .ref m_led, .ref m_newAt, .ref m_knowing, .ref m_firsts, .int 0, .ref m_secrets, .ref m_tried, .ref m_lanes, .ref m_lengths, .ref m_cells])), (m_manys, .inl (E.2.1 1, 18, .inl (fun _ => 0)))] 168 11526 := by
  refine ww_aload_n C dL_law_341 2 rfl rfl ?_
  refine ww_aload_n C dL_law_342 3 rfl rfl ?_
  refine ww_iload_n C dL_law_343 0 rfl rfl ?_
  refine ww_iconst (v := 1) C dL_law_344 rfl ?_
  refine ww_iadd (v := 1) C dL_law_345 (by decide) ?_
  refine ww_sld (v := a1) C hs (vin rfl) ea1 dL_law_346 ?_
  refine ww_ci (wr := [(hm, .inr (12, [.ref m_manys, .ref m_reals, .ref m_factsOf, .ref m_possible, .int 0, .int 0, .ref m_tape, .int 0, .int 0, .int 0, .int 0, .int 0, .int 0, .int 0, .int 0, .ref m_ends, .ref m_letters, .ref m_actOf, .ref m_whom, .ref m_actMany, .ref m_tokens, .ref m_afters, .ref m_afterOf, .int 0, .ref m_pile, .ref m_caseMany, .ref m_happen, .ref m_hasIf, .ref m_becomes, .ref m_goneOf, .ref m_heard, .ref m_pairs, .ref m_heaps, .int 0, .int 0, .ref m_led, .ref m_newAt, .ref m_knowing, .ref m_firsts, .int 0, .ref m_secrets, .ref m_tried, .ref m_lanes, .ref m_lengths, .ref m_cells])), (m_manys, .inl (E.2.1 1, 18, .inl (fun _ => 0)))]) (k' := 168) (n' := 11526) C (run_V (As := [.int a1]) (rest := []) C (x_real X.2.1 E hx a1 qn qp qs qj ql qh qk qr qg qsh nf np) mi_X11_real wl_L_27 rfl 0 11 rfl rfl rfl rfl rfl dL_law_347) [0, 1, 2, 3] [4, 5] rfl rfl rfl rfl (fun r u hw => ?_)
  obtain ⟨rfl, rfl⟩ := hw
  refine ww_eq (ws' := [(hm, .inr (12, [.ref m_manys, .ref m_reals, .ref m_factsOf, .ref m_possible, .int 0, .int 0, .ref m_tape, .int 0, .int 0, .int 0, .int 0, .int 0, .int 0, .int 0, .int 0, .ref m_ends, .ref m_letters, .ref m_actOf, .ref m_whom, .ref m_actMany, .ref m_tokens, .ref m_afters, .ref m_afterOf, .int 0, .ref m_pile, .ref m_caseMany, .ref m_happen, .ref m_hasIf, .ref m_becomes, .ref m_goneOf, .ref m_heard, .ref m_pairs, .ref m_heaps, .int 0, .int 0, .ref m_led, .ref m_newAt, .ref m_knowing, .ref m_firsts, .int 0, .ref m_secrets, .ref m_tried, .ref m_lanes, .ref m_lengths, .ref m_cells])), (m_manys, .inl (E.2.1 1, 18, .inl (fun _ => 0)))]) ?_ rfl rfl rfl
  refine ww_aload_n C dL_law_350 1 rfl rfl ?_
  refine ww_aload_n C dL_law_351 3 rfl rfl ?_
  refine ww_iload_n C dL_law_352 0 rfl rfl ?_
  refine ww_iconst (v := 1) C dL_law_353 rfl ?_
  refine ww_iadd (v := 1) C dL_law_354 (by decide) ?_
  refine ww_sld (v := a1) C hs (vin rfl) ea1 dL_law_355 ?_
  refine ww_ci (wr := []) (k' := 168) (n' := 11526) C (run_V (As := [.int a1]) (rest := [.int (-1)]) C (y_real X.2.1 E hm a1 m_manys m_reals m_factsOf m_possible m_tape m_ends m_letters m_actOf m_whom m_actMany m_tokens m_afters m_afterOf m_pile m_caseMany m_happen m_hasIf m_becomes m_goneOf m_heard m_pairs m_heaps m_led m_newAt m_knowing m_firsts m_secrets m_tried m_lanes m_lengths m_cells) mi_X12_real wl_L_30 rfl 0 12 rfl rfl rfl rfl rfl dL_law_356) [0, 1] [] rfl rfl rfl rfl (fun r u hw => ?_)
  obtain ⟨rfl, rfl⟩ := hw
  refine ww_eq (ws' := []) ?_ rfl rfl rfl
  refine ww_icmp_eq_t (tgt := 1452) C dL_law_359 (by decide) (rfl) ?_
  exact ww_sub [] rfl rfl kk
theorem dL_law_364 : decode cL_law 364 = .ok (.aload_n 1, 1) := by decide +kernel
theorem dL_law_365 : decode cL_law 365 = .ok (.aload_n 0, 1) := by decide +kernel
theorem dL_law_366 : decode cL_law 366 = .ok (.iload_n 3, 1) := by decide +kernel
theorem dL_law_367 : decode cL_law 367 = .ok (.iconst 1, 1) := by decide +kernel
theorem dL_law_368 : decode cL_law 368 = .ok (.iadd, 1) := by decide +kernel
theorem dL_law_369 : decode cL_law 369 = .ok (.iaload, 1) := by decide +kernel
theorem dL_law_370 : decode cL_law 370 = .ok (.aload_n 0, 1) := by decide +kernel
theorem dL_law_371 : decode cL_law 371 = .ok (.iload_n 3, 1) := by decide +kernel
theorem dL_law_372 : decode cL_law 372 = .ok (.iconst 2, 1) := by decide +kernel
theorem dL_law_373 : decode cL_law 373 = .ok (.iadd, 1) := by decide +kernel
theorem dL_law_374 : decode cL_law 374 = .ok (.iaload, 1) := by decide +kernel
theorem dL_law_375 : decode cL_law 375 = .ok (.invokevirtual 31, 3) := by decide +kernel
theorem wl_L_31 : Cond.methodLink RL 31 yX11_of ∈ TB := tbm (tq2 (List.mem_of_getElem? (i := 207) (by decide +kernel))) (by decide +kernel)
theorem wc_X11_of : Cond.code yX11_of cX11_of 3 (some .int) ∈ TB := tbm (tq2 (List.mem_of_getElem? (i := 210) (rfl))) (by decide +kernel)
theorem wi_X11_of : Cond.instanceMethod yX11_of ∈ TB := tbm (tq2 (List.mem_of_getElem? (i := 208) (by decide +kernel))) (by decide +kernel)
theorem ws_X11_of : Cond.selects RX11 yX11_of yX11_of ∈ TB := tbm (tq2 (List.mem_of_getElem? (i := 209) (by decide +kernel))) (by decide +kernel)
theorem mi_X11_of : MI yX11_of cX11_of 3 (some .int) 2 := ⟨wc_X11_of, wn_X11, ⟨by decide +kernel, by decide +kernel, by decide +kernel⟩, wi_X11_of, ws_X11_of⟩
theorem dL_law_378 : decode cL_law 378 = .ok (.aload_n 2, 1) := by decide +kernel
theorem dL_law_379 : decode cL_law 379 = .ok (.aload_n 0, 1) := by decide +kernel
theorem dL_law_380 : decode cL_law 380 = .ok (.iload_n 3, 1) := by decide +kernel
theorem dL_law_381 : decode cL_law 381 = .ok (.iconst 1, 1) := by decide +kernel
theorem dL_law_382 : decode cL_law 382 = .ok (.iadd, 1) := by decide +kernel
theorem dL_law_383 : decode cL_law 383 = .ok (.iaload, 1) := by decide +kernel
theorem dL_law_384 : decode cL_law 384 = .ok (.aload_n 0, 1) := by decide +kernel
theorem dL_law_385 : decode cL_law 385 = .ok (.iload_n 3, 1) := by decide +kernel
theorem dL_law_386 : decode cL_law 386 = .ok (.iconst 2, 1) := by decide +kernel
theorem dL_law_387 : decode cL_law 387 = .ok (.iadd, 1) := by decide +kernel
theorem dL_law_388 : decode cL_law 388 = .ok (.iaload, 1) := by decide +kernel
theorem dL_law_389 : decode cL_law 389 = .ok (.invokevirtual 35, 3) := by decide +kernel
theorem wl_L_35 : Cond.methodLink RL 35 yX12_of ∈ TB := tbm (tq6 (List.mem_of_getElem? (i := 27) (by decide +kernel))) (by decide +kernel)
theorem wc_X12_of : Cond.code yX12_of cX12_of 5 (some .int) ∈ TB := tbm (tq6 (List.mem_of_getElem? (i := 30) (rfl))) (by decide +kernel)
theorem wi_X12_of : Cond.instanceMethod yX12_of ∈ TB := tbm (tq6 (List.mem_of_getElem? (i := 28) (by decide +kernel))) (by decide +kernel)
theorem ws_X12_of : Cond.selects RX12 yX12_of yX12_of ∈ TB := tbm (tq6 (List.mem_of_getElem? (i := 29) (by decide +kernel))) (by decide +kernel)
theorem mi_X12_of : MI yX12_of cX12_of 5 (some .int) 2 := ⟨wc_X12_of, wn_X12, ⟨by decide +kernel, by decide +kernel, by decide +kernel⟩, wi_X12_of, ws_X12_of⟩
theorem dL_law_392 : decode cL_law 392 = .ok (.if_icmp .eq 1060, 3) := by decide +kernel
set_option maxRecDepth 100000 in
set_option maxHeartbeats 4000000 in
theorem lawc_of {X : XT} {E : EV} {xs : Nat → Int32} (bb : Nat) (hx : Nat) (hm : Nat) (qn : Nat) (qp : Nat) (qs : Nat) (qj : Nat) (ql : Nat) (qh : Nat) (qk : Nat) (qr : Nat) (qg : Nat) (qsh : Nat) (nf : Nat) (np : Nat) (m_manys : Nat) (m_reals : Nat) (m_factsOf : Nat) (m_possible : Nat) (m_tape : Nat) (m_ends : Nat) (m_letters : Nat) (m_actOf : Nat) (m_whom : Nat) (m_actMany : Nat) (m_tokens : Nat) (m_afters : Nat) (m_afterOf : Nat) (m_pile : Nat) (m_caseMany : Nat) (m_happen : Nat) (m_hasIf : Nat) (m_becomes : Nat) (m_goneOf : Nat) (m_heard : Nat) (m_pairs : Nat) (m_heaps : Nat) (m_led : Nat) (m_newAt : Nat) (m_knowing : Nat) (m_firsts : Nat) (m_secrets : Nat) (m_tried : Nat) (m_lanes : Nat) (m_lengths : Nat) (m_cells : Nat) (C : CX X room_1 cL_law 4 RL ret E) (hs : SX X bb 6 xs)  (a0 : Int32) (a1 : Int32) (a2 : Int32) (a3 : Int32) (a4 : Int32) (a5 : Int32) (ea0 : xs 0 = a0) (ea1 : xs 1 = a1) (ea2 : xs 2 = a2) (ea3 : xs 3 = a3) (ea4 : xs 4 = a4) (ea5 : xs 5 = a5) (kk : WW X 4 E 1452 [(3, .int 0), (2, .ref hm), (1, .ref hx), (0, .ref bb)] [] [] 168 11526) : WW X 4 E 364 [(3, .int 0), (2, .ref hm), (1, .ref hx), (0, .ref bb)] [] [(hx, .inr (11, [.ref qn, .ref qp, .int 0, .int 0, .ref qs, .ref qj, .ref ql, .ref qh, .ref qk, .int 0, .ref qr, .ref qg, .int 0, .int 0, .ref qsh])), (qn, .inr (4, [.int 0, .int 0, .ref nf, .ref np])), (nf, .inl (E.2.1 1, 24, .inl (fun _ => 0))), (np, .inl (E.2.1 1, 96, .inl (fun _ => 0))), (hm, .inr (12, [.ref m_manys, .ref m_reals, .ref m_factsOf, .ref m_possible, .int 0, .int 0, .ref m_tape, .int 0, .int 0, .int 0, .int 0, .int 0, .int 0, .int 0, .int 0, .ref m_ends, .ref m_letters, .ref m_actOf, .ref m_whom, .ref m_actMany, .ref m_tokens, .ref m_afters, .ref m_afterOf, .int 0, .ref m_pile, .ref m_caseMany, .ref m_happen, .ref m_hasIf, .ref m_becomes, .ref m_goneOf, .ref m_heard, .ref m_pairs, .ref m_heaps, .int 0, .int 0, .ref m_led, .ref m_newAt, .ref m_knowing, .ref m_firsts, .int 0, .ref m_secrets, .ref m_tried, .ref m_lanes, .ref m_lengths, .ref m_cells])), (m_manys, .inl (E.2.1 1, 18, .inl (fun _ => 0)))] 168 11526 := by
  refine ww_aload_n C dL_law_364 2 rfl rfl ?_
  refine ww_aload_n C dL_law_365 3 rfl rfl ?_
  refine ww_iload_n C dL_law_366 0 rfl rfl ?_
  refine ww_iconst (v := 1) C dL_law_367 rfl ?_
  refine ww_iadd (v := 1) C dL_law_368 (by decide) ?_
  refine ww_sld (v := a1) C hs (vin rfl) ea1 dL_law_369 ?_
  refine ww_aload_n C dL_law_370 3 rfl rfl ?_
  refine ww_iload_n C dL_law_371 0 rfl rfl ?_
  refine ww_iconst (v := 2) C dL_law_372 rfl ?_
  refine ww_iadd (v := 2) C dL_law_373 (by decide) ?_
  refine ww_sld (v := a2) C hs (vin rfl) ea2 dL_law_374 ?_
  refine ww_ci (wr := [(hm, .inr (12, [.ref m_manys, .ref m_reals, .ref m_factsOf, .ref m_possible, .int 0, .int 0, .ref m_tape, .int 0, .int 0, .int 0, .int 0, .int 0, .int 0, .int 0, .int 0, .ref m_ends, .ref m_letters, .ref m_actOf, .ref m_whom, .ref m_actMany, .ref m_tokens, .ref m_afters, .ref m_afterOf, .int 0, .ref m_pile, .ref m_caseMany, .ref m_happen, .ref m_hasIf, .ref m_becomes, .ref m_goneOf, .ref m_heard, .ref m_pairs, .ref m_heaps, .int 0, .int 0, .ref m_led, .ref m_newAt, .ref m_knowing, .ref m_firsts, .int 0, .ref m_secrets, .ref m_tried, .ref m_lanes, .ref m_lengths, .ref m_cells])), (m_manys, .inl (E.2.1 1, 18, .inl (fun _ => 0)))]) (k' := 168) (n' := 11526) C (run_V (As := [.int a1, .int a2]) (rest := []) C (x_of X.2.1 E hx a1 a2 qn qp qs qj ql qh qk qr qg qsh nf np) mi_X11_of wl_L_31 rfl 0 11 rfl rfl rfl rfl rfl dL_law_375) [0, 1, 2, 3] [4, 5] rfl rfl rfl rfl (fun r u hw => ?_)
  obtain ⟨rfl, rfl⟩ := hw
  refine ww_eq (ws' := [(hm, .inr (12, [.ref m_manys, .ref m_reals, .ref m_factsOf, .ref m_possible, .int 0, .int 0, .ref m_tape, .int 0, .int 0, .int 0, .int 0, .int 0, .int 0, .int 0, .int 0, .ref m_ends, .ref m_letters, .ref m_actOf, .ref m_whom, .ref m_actMany, .ref m_tokens, .ref m_afters, .ref m_afterOf, .int 0, .ref m_pile, .ref m_caseMany, .ref m_happen, .ref m_hasIf, .ref m_becomes, .ref m_goneOf, .ref m_heard, .ref m_pairs, .ref m_heaps, .int 0, .int 0, .ref m_led, .ref m_newAt, .ref m_knowing, .ref m_firsts, .int 0, .ref m_secrets, .ref m_tried, .ref m_lanes, .ref m_lengths, .ref m_cells])), (m_manys, .inl (E.2.1 1, 18, .inl (fun _ => 0)))]) ?_ rfl rfl rfl
  refine ww_aload_n C dL_law_378 1 rfl rfl ?_
  refine ww_aload_n C dL_law_379 3 rfl rfl ?_
  refine ww_iload_n C dL_law_380 0 rfl rfl ?_
  refine ww_iconst (v := 1) C dL_law_381 rfl ?_
  refine ww_iadd (v := 1) C dL_law_382 (by decide) ?_
  refine ww_sld (v := a1) C hs (vin rfl) ea1 dL_law_383 ?_
  refine ww_aload_n C dL_law_384 3 rfl rfl ?_
  refine ww_iload_n C dL_law_385 0 rfl rfl ?_
  refine ww_iconst (v := 2) C dL_law_386 rfl ?_
  refine ww_iadd (v := 2) C dL_law_387 (by decide) ?_
  refine ww_sld (v := a2) C hs (vin rfl) ea2 dL_law_388 ?_
  refine ww_ci (wr := []) (k' := 168) (n' := 11526) C (run_V (As := [.int a1, .int a2]) (rest := [.int (-1)]) C (y_of X.2.1 E hm a1 a2 m_manys m_reals m_factsOf m_possible m_tape m_ends m_letters m_actOf m_whom m_actMany m_tokens m_afters m_afterOf m_pile m_caseMany m_happen m_hasIf m_becomes m_goneOf m_heard m_pairs m_heaps m_led m_newAt m_knowing m_firsts m_secrets m_tried m_lanes m_lengths m_cells) mi_X12_of wl_L_35 rfl 0 12 rfl rfl rfl rfl rfl dL_law_389) [0, 1] [] rfl rfl rfl rfl (fun r u hw => ?_)
  obtain ⟨rfl, rfl⟩ := hw
  refine ww_eq (ws' := []) ?_ rfl rfl rfl
  refine ww_icmp_eq_t (tgt := 1452) C dL_law_392 (by decide) (rfl) ?_
  exact ww_sub [] rfl rfl kk
theorem dL_law_397 : decode cL_law 397 = .ok (.aload_n 1, 1) := by decide +kernel
theorem dL_law_398 : decode cL_law 398 = .ok (.aload_n 0, 1) := by decide +kernel
theorem dL_law_399 : decode cL_law 399 = .ok (.iload_n 3, 1) := by decide +kernel
theorem dL_law_400 : decode cL_law 400 = .ok (.iconst 1, 1) := by decide +kernel
theorem dL_law_401 : decode cL_law 401 = .ok (.iadd, 1) := by decide +kernel
theorem dL_law_402 : decode cL_law 402 = .ok (.iaload, 1) := by decide +kernel
theorem dL_law_403 : decode cL_law 403 = .ok (.aload_n 0, 1) := by decide +kernel
theorem dL_law_404 : decode cL_law 404 = .ok (.iload_n 3, 1) := by decide +kernel
theorem dL_law_405 : decode cL_law 405 = .ok (.iconst 2, 1) := by decide +kernel
theorem dL_law_406 : decode cL_law 406 = .ok (.iadd, 1) := by decide +kernel
theorem dL_law_407 : decode cL_law 407 = .ok (.iaload, 1) := by decide +kernel
theorem dL_law_408 : decode cL_law 408 = .ok (.invokevirtual 36, 3) := by decide +kernel
theorem wl_L_36 : Cond.methodLink RL 36 yX11_reach ∈ TB := tbm (tq2 (List.mem_of_getElem? (i := 215) (by decide +kernel))) (by decide +kernel)
theorem wc_X11_reach : Cond.code yX11_reach cX11_reach 3 (some .int) ∈ TB := tbm (tq2 (List.mem_of_getElem? (i := 218) (rfl))) (by decide +kernel)
theorem wi_X11_reach : Cond.instanceMethod yX11_reach ∈ TB := tbm (tq2 (List.mem_of_getElem? (i := 216) (by decide +kernel))) (by decide +kernel)
theorem ws_X11_reach : Cond.selects RX11 yX11_reach yX11_reach ∈ TB := tbm (tq2 (List.mem_of_getElem? (i := 217) (by decide +kernel))) (by decide +kernel)
theorem mi_X11_reach : MI yX11_reach cX11_reach 3 (some .int) 2 := ⟨wc_X11_reach, wn_X11, ⟨by decide +kernel, by decide +kernel, by decide +kernel⟩, wi_X11_reach, ws_X11_reach⟩
theorem dL_law_411 : decode cL_law 411 = .ok (.aload_n 2, 1) := by decide +kernel
theorem dL_law_412 : decode cL_law 412 = .ok (.aload_n 0, 1) := by decide +kernel
theorem dL_law_413 : decode cL_law 413 = .ok (.iload_n 3, 1) := by decide +kernel
theorem dL_law_414 : decode cL_law 414 = .ok (.iconst 1, 1) := by decide +kernel
theorem dL_law_415 : decode cL_law 415 = .ok (.iadd, 1) := by decide +kernel
theorem dL_law_416 : decode cL_law 416 = .ok (.iaload, 1) := by decide +kernel
theorem dL_law_417 : decode cL_law 417 = .ok (.aload_n 0, 1) := by decide +kernel
theorem dL_law_418 : decode cL_law 418 = .ok (.iload_n 3, 1) := by decide +kernel
theorem dL_law_419 : decode cL_law 419 = .ok (.iconst 2, 1) := by decide +kernel
theorem dL_law_420 : decode cL_law 420 = .ok (.iadd, 1) := by decide +kernel
theorem dL_law_421 : decode cL_law 421 = .ok (.iaload, 1) := by decide +kernel
theorem dL_law_422 : decode cL_law 422 = .ok (.invokevirtual 39, 3) := by decide +kernel
theorem wl_L_39 : Cond.methodLink RL 39 yX12_reach ∈ TB := tbm (tq6 (List.mem_of_getElem? (i := 32) (by decide +kernel))) (by decide +kernel)
theorem wc_X12_reach : Cond.code yX12_reach cX12_reach 3 (some .int) ∈ TB := tbm (tq6 (List.mem_of_getElem? (i := 35) (rfl))) (by decide +kernel)
theorem wi_X12_reach : Cond.instanceMethod yX12_reach ∈ TB := tbm (tq6 (List.mem_of_getElem? (i := 33) (by decide +kernel))) (by decide +kernel)
theorem ws_X12_reach : Cond.selects RX12 yX12_reach yX12_reach ∈ TB := tbm (tq6 (List.mem_of_getElem? (i := 34) (by decide +kernel))) (by decide +kernel)
theorem mi_X12_reach : MI yX12_reach cX12_reach 3 (some .int) 2 := ⟨wc_X12_reach, wn_X12, ⟨by decide +kernel, by decide +kernel, by decide +kernel⟩, wi_X12_reach, ws_X12_reach⟩
theorem dL_law_425 : decode cL_law 425 = .ok (.if_icmp .eq 1027, 3) := by decide +kernel
set_option maxRecDepth 100000 in
set_option maxHeartbeats 4000000 in
theorem lawc_reach {X : XT} {E : EV} {xs : Nat → Int32} (bb : Nat) (hx : Nat) (hm : Nat) (qn : Nat) (qp : Nat) (qs : Nat) (qj : Nat) (ql : Nat) (qh : Nat) (qk : Nat) (qr : Nat) (qg : Nat) (qsh : Nat) (nf : Nat) (np : Nat) (m_manys : Nat) (m_reals : Nat) (m_factsOf : Nat) (m_possible : Nat) (m_tape : Nat) (m_ends : Nat) (m_letters : Nat) (m_actOf : Nat) (m_whom : Nat) (m_actMany : Nat) (m_tokens : Nat) (m_afters : Nat) (m_afterOf : Nat) (m_pile : Nat) (m_caseMany : Nat) (m_happen : Nat) (m_hasIf : Nat) (m_becomes : Nat) (m_goneOf : Nat) (m_heard : Nat) (m_pairs : Nat) (m_heaps : Nat) (m_led : Nat) (m_newAt : Nat) (m_knowing : Nat) (m_firsts : Nat) (m_secrets : Nat) (m_tried : Nat) (m_lanes : Nat) (m_lengths : Nat) (m_cells : Nat) (C : CX X room_1 cL_law 4 RL ret E) (hs : SX X bb 6 xs)  (a0 : Int32) (a1 : Int32) (a2 : Int32) (a3 : Int32) (a4 : Int32) (a5 : Int32) (ea0 : xs 0 = a0) (ea1 : xs 1 = a1) (ea2 : xs 2 = a2) (ea3 : xs 3 = a3) (ea4 : xs 4 = a4) (ea5 : xs 5 = a5) (kk : WW X 4 E 1452 [(3, .int 0), (2, .ref hm), (1, .ref hx), (0, .ref bb)] [] [] 168 11526) : WW X 4 E 397 [(3, .int 0), (2, .ref hm), (1, .ref hx), (0, .ref bb)] [] [(hx, .inr (11, [.ref qn, .ref qp, .int 0, .int 0, .ref qs, .ref qj, .ref ql, .ref qh, .ref qk, .int 0, .ref qr, .ref qg, .int 0, .int 0, .ref qsh])), (qn, .inr (4, [.int 0, .int 0, .ref nf, .ref np])), (nf, .inl (E.2.1 1, 24, .inl (fun _ => 0))), (np, .inl (E.2.1 1, 96, .inl (fun _ => 0))), (hm, .inr (12, [.ref m_manys, .ref m_reals, .ref m_factsOf, .ref m_possible, .int 0, .int 0, .ref m_tape, .int 0, .int 0, .int 0, .int 0, .int 0, .int 0, .int 0, .int 0, .ref m_ends, .ref m_letters, .ref m_actOf, .ref m_whom, .ref m_actMany, .ref m_tokens, .ref m_afters, .ref m_afterOf, .int 0, .ref m_pile, .ref m_caseMany, .ref m_happen, .ref m_hasIf, .ref m_becomes, .ref m_goneOf, .ref m_heard, .ref m_pairs, .ref m_heaps, .int 0, .int 0, .ref m_led, .ref m_newAt, .ref m_knowing, .ref m_firsts, .int 0, .ref m_secrets, .ref m_tried, .ref m_lanes, .ref m_lengths, .ref m_cells])), (m_manys, .inl (E.2.1 1, 18, .inl (fun _ => 0)))] 168 11526 := by
  refine ww_aload_n C dL_law_397 2 rfl rfl ?_
  refine ww_aload_n C dL_law_398 3 rfl rfl ?_
  refine ww_iload_n C dL_law_399 0 rfl rfl ?_
  refine ww_iconst (v := 1) C dL_law_400 rfl ?_
  refine ww_iadd (v := 1) C dL_law_401 (by decide) ?_
  refine ww_sld (v := a1) C hs (vin rfl) ea1 dL_law_402 ?_
  refine ww_aload_n C dL_law_403 3 rfl rfl ?_
  refine ww_iload_n C dL_law_404 0 rfl rfl ?_
  refine ww_iconst (v := 2) C dL_law_405 rfl ?_
  refine ww_iadd (v := 2) C dL_law_406 (by decide) ?_
  refine ww_sld (v := a2) C hs (vin rfl) ea2 dL_law_407 ?_
  refine ww_ci (wr := [(hm, .inr (12, [.ref m_manys, .ref m_reals, .ref m_factsOf, .ref m_possible, .int 0, .int 0, .ref m_tape, .int 0, .int 0, .int 0, .int 0, .int 0, .int 0, .int 0, .int 0, .ref m_ends, .ref m_letters, .ref m_actOf, .ref m_whom, .ref m_actMany, .ref m_tokens, .ref m_afters, .ref m_afterOf, .int 0, .ref m_pile, .ref m_caseMany, .ref m_happen, .ref m_hasIf, .ref m_becomes, .ref m_goneOf, .ref m_heard, .ref m_pairs, .ref m_heaps, .int 0, .int 0, .ref m_led, .ref m_newAt, .ref m_knowing, .ref m_firsts, .int 0, .ref m_secrets, .ref m_tried, .ref m_lanes, .ref m_lengths, .ref m_cells])), (m_manys, .inl (E.2.1 1, 18, .inl (fun _ => 0)))]) (k' := 168) (n' := 11526) C (run_V (As := [.int a1, .int a2]) (rest := []) C (x_reach X.2.1 E hx a1 a2 qn qp qs qj ql qh qk qr qg qsh nf np) mi_X11_reach wl_L_36 rfl 0 11 rfl rfl rfl rfl rfl dL_law_408) [0, 1, 2, 3] [4, 5] rfl rfl rfl rfl (fun r u hw => ?_)
  obtain ⟨rfl, rfl⟩ := hw
  refine ww_eq (ws' := [(hm, .inr (12, [.ref m_manys, .ref m_reals, .ref m_factsOf, .ref m_possible, .int 0, .int 0, .ref m_tape, .int 0, .int 0, .int 0, .int 0, .int 0, .int 0, .int 0, .int 0, .ref m_ends, .ref m_letters, .ref m_actOf, .ref m_whom, .ref m_actMany, .ref m_tokens, .ref m_afters, .ref m_afterOf, .int 0, .ref m_pile, .ref m_caseMany, .ref m_happen, .ref m_hasIf, .ref m_becomes, .ref m_goneOf, .ref m_heard, .ref m_pairs, .ref m_heaps, .int 0, .int 0, .ref m_led, .ref m_newAt, .ref m_knowing, .ref m_firsts, .int 0, .ref m_secrets, .ref m_tried, .ref m_lanes, .ref m_lengths, .ref m_cells])), (m_manys, .inl (E.2.1 1, 18, .inl (fun _ => 0)))]) ?_ rfl rfl rfl
  refine ww_aload_n C dL_law_411 1 rfl rfl ?_
  refine ww_aload_n C dL_law_412 3 rfl rfl ?_
  refine ww_iload_n C dL_law_413 0 rfl rfl ?_
  refine ww_iconst (v := 1) C dL_law_414 rfl ?_
  refine ww_iadd (v := 1) C dL_law_415 (by decide) ?_
  refine ww_sld (v := a1) C hs (vin rfl) ea1 dL_law_416 ?_
  refine ww_aload_n C dL_law_417 3 rfl rfl ?_
  refine ww_iload_n C dL_law_418 0 rfl rfl ?_
  refine ww_iconst (v := 2) C dL_law_419 rfl ?_
  refine ww_iadd (v := 2) C dL_law_420 (by decide) ?_
  refine ww_sld (v := a2) C hs (vin rfl) ea2 dL_law_421 ?_
  refine ww_ci (wr := []) (k' := 168) (n' := 11526) C (run_V (As := [.int a1, .int a2]) (rest := [.int (-1)]) C (y_reach X.2.1 E hm a1 a2 m_manys m_reals m_factsOf m_possible m_tape m_ends m_letters m_actOf m_whom m_actMany m_tokens m_afters m_afterOf m_pile m_caseMany m_happen m_hasIf m_becomes m_goneOf m_heard m_pairs m_heaps m_led m_newAt m_knowing m_firsts m_secrets m_tried m_lanes m_lengths m_cells) mi_X12_reach wl_L_39 rfl 0 12 rfl rfl rfl rfl rfl dL_law_422) [0, 1] [] rfl rfl rfl rfl (fun r u hw => ?_)
  obtain ⟨rfl, rfl⟩ := hw
  refine ww_eq (ws' := []) ?_ rfl rfl rfl
  refine ww_icmp_eq_t (tgt := 1452) C dL_law_425 (by decide) (rfl) ?_
  exact ww_sub [] rfl rfl kk
theorem dL_law_430 : decode cL_law 430 = .ok (.aload_n 1, 1) := by decide +kernel
theorem dL_law_431 : decode cL_law 431 = .ok (.aload_n 0, 1) := by decide +kernel
theorem dL_law_432 : decode cL_law 432 = .ok (.iload_n 3, 1) := by decide +kernel
theorem dL_law_433 : decode cL_law 433 = .ok (.iconst 1, 1) := by decide +kernel
theorem dL_law_434 : decode cL_law 434 = .ok (.iadd, 1) := by decide +kernel
theorem dL_law_435 : decode cL_law 435 = .ok (.iaload, 1) := by decide +kernel
theorem dL_law_436 : decode cL_law 436 = .ok (.i2l, 1) := by decide +kernel
theorem dL_law_437 : decode cL_law 437 = .ok (.bipush 32, 2) := by decide +kernel
theorem dL_law_439 : decode cL_law 439 = .ok (.lshl, 1) := by decide +kernel
theorem dL_law_440 : decode cL_law 440 = .ok (.aload_n 0, 1) := by decide +kernel
theorem dL_law_441 : decode cL_law 441 = .ok (.iload_n 3, 1) := by decide +kernel
theorem dL_law_442 : decode cL_law 442 = .ok (.iconst 2, 1) := by decide +kernel
theorem dL_law_443 : decode cL_law 443 = .ok (.iadd, 1) := by decide +kernel
theorem dL_law_444 : decode cL_law 444 = .ok (.iaload, 1) := by decide +kernel
theorem dL_law_445 : decode cL_law 445 = .ok (.i2l, 1) := by decide +kernel
theorem dL_law_446 : decode cL_law 446 = .ok (.ldc2_w 40, 3) := by decide +kernel
theorem wv_L_40 : Cond.constantLong RL 40 4294967295 ∈ TB := tbm (tq7 (List.mem_of_getElem? (i := 97) (by decide +kernel))) (by decide +kernel)
theorem dL_law_449 : decode cL_law 449 = .ok (.land, 1) := by decide +kernel
theorem dL_law_450 : decode cL_law 450 = .ok (.lor, 1) := by decide +kernel
theorem dL_law_451 : decode cL_law 451 = .ok (.invokevirtual 42, 3) := by decide +kernel
theorem wl_L_42 : Cond.methodLink RL 42 yX11_feed ∈ TB := tbm (tq2 (List.mem_of_getElem? (i := 230) (by decide +kernel))) (by decide +kernel)
theorem wc_X11_feed : Cond.code yX11_feed cX11_feed 3 (some .int) ∈ TB := tbm (tq2 (List.mem_of_getElem? (i := 233) (rfl))) (by decide +kernel)
theorem wi_X11_feed : Cond.instanceMethod yX11_feed ∈ TB := tbm (tq2 (List.mem_of_getElem? (i := 231) (by decide +kernel))) (by decide +kernel)
theorem ws_X11_feed : Cond.selects RX11 yX11_feed yX11_feed ∈ TB := tbm (tq2 (List.mem_of_getElem? (i := 232) (by decide +kernel))) (by decide +kernel)
theorem mi_X11_feed : MI yX11_feed cX11_feed 3 (some .int) 1 := ⟨wc_X11_feed, wn_X11, ⟨by decide +kernel, by decide +kernel, by decide +kernel⟩, wi_X11_feed, ws_X11_feed⟩
theorem dL_law_454 : decode cL_law 454 = .ok (.aload_n 2, 1) := by decide +kernel
theorem dL_law_455 : decode cL_law 455 = .ok (.aload_n 0, 1) := by decide +kernel
theorem dL_law_456 : decode cL_law 456 = .ok (.iload_n 3, 1) := by decide +kernel
theorem dL_law_457 : decode cL_law 457 = .ok (.iconst 1, 1) := by decide +kernel
theorem dL_law_458 : decode cL_law 458 = .ok (.iadd, 1) := by decide +kernel
theorem dL_law_459 : decode cL_law 459 = .ok (.iaload, 1) := by decide +kernel
theorem dL_law_460 : decode cL_law 460 = .ok (.i2l, 1) := by decide +kernel
theorem dL_law_461 : decode cL_law 461 = .ok (.bipush 32, 2) := by decide +kernel
theorem dL_law_463 : decode cL_law 463 = .ok (.lshl, 1) := by decide +kernel
theorem dL_law_464 : decode cL_law 464 = .ok (.aload_n 0, 1) := by decide +kernel
theorem dL_law_465 : decode cL_law 465 = .ok (.iload_n 3, 1) := by decide +kernel
theorem dL_law_466 : decode cL_law 466 = .ok (.iconst 2, 1) := by decide +kernel
theorem dL_law_467 : decode cL_law 467 = .ok (.iadd, 1) := by decide +kernel
theorem dL_law_468 : decode cL_law 468 = .ok (.iaload, 1) := by decide +kernel
theorem dL_law_469 : decode cL_law 469 = .ok (.i2l, 1) := by decide +kernel
theorem dL_law_470 : decode cL_law 470 = .ok (.ldc2_w 40, 3) := by decide +kernel
theorem dL_law_473 : decode cL_law 473 = .ok (.land, 1) := by decide +kernel
theorem dL_law_474 : decode cL_law 474 = .ok (.lor, 1) := by decide +kernel
theorem dL_law_475 : decode cL_law 475 = .ok (.invokevirtual 46, 3) := by decide +kernel
theorem wl_L_46 : Cond.methodLink RL 46 yX12_feed ∈ TB := tbm (tq6 (List.mem_of_getElem? (i := 40) (by decide +kernel))) (by decide +kernel)
theorem wc_X12_feed : Cond.code yX12_feed cX12_feed 4 (some .int) ∈ TB := tbm (tq6 (List.mem_of_getElem? (i := 43) (rfl))) (by decide +kernel)
theorem wi_X12_feed : Cond.instanceMethod yX12_feed ∈ TB := tbm (tq6 (List.mem_of_getElem? (i := 41) (by decide +kernel))) (by decide +kernel)
theorem ws_X12_feed : Cond.selects RX12 yX12_feed yX12_feed ∈ TB := tbm (tq6 (List.mem_of_getElem? (i := 42) (by decide +kernel))) (by decide +kernel)
theorem mi_X12_feed : MI yX12_feed cX12_feed 4 (some .int) 1 := ⟨wc_X12_feed, wn_X12, ⟨by decide +kernel, by decide +kernel, by decide +kernel⟩, wi_X12_feed, ws_X12_feed⟩
theorem dL_law_478 : decode cL_law 478 = .ok (.if_icmp .eq 974, 3) := by decide +kernel
set_option maxRecDepth 100000 in
set_option maxHeartbeats 4000000 in
theorem lawc_feed {X : XT} {E : EV} {xs : Nat → Int32} (bb : Nat) (hx : Nat) (hm : Nat) (qn : Nat) (qp : Nat) (qs : Nat) (qj : Nat) (ql : Nat) (qh : Nat) (qk : Nat) (qr : Nat) (qg : Nat) (qsh : Nat) (qt : Nat) (sa : Nat) (sb : Nat) (sc : Nat) (sd : Nat) (tb : Nat) (m_manys : Nat) (m_reals : Nat) (m_factsOf : Nat) (m_possible : Nat) (m_tape : Nat) (m_ends : Nat) (m_letters : Nat) (m_actOf : Nat) (m_whom : Nat) (m_actMany : Nat) (m_tokens : Nat) (m_afters : Nat) (m_afterOf : Nat) (m_pile : Nat) (m_caseMany : Nat) (m_happen : Nat) (m_hasIf : Nat) (m_becomes : Nat) (m_goneOf : Nat) (m_heard : Nat) (m_pairs : Nat) (m_heaps : Nat) (m_led : Nat) (m_newAt : Nat) (m_knowing : Nat) (m_firsts : Nat) (m_secrets : Nat) (m_tried : Nat) (m_lanes : Nat) (m_lengths : Nat) (m_cells : Nat) (C : CX X room_1 cL_law 4 RL ret E) (hs : SX X bb 6 xs)  (a0 : Int32) (a1 : Int32) (a2 : Int32) (a3 : Int32) (a4 : Int32) (a5 : Int32) (ea0 : xs 0 = a0) (ea1 : xs 1 = a1) (ea2 : xs 2 = a2) (ea3 : xs 3 = a3) (ea4 : xs 4 = a4) (ea5 : xs 5 = a5) (kk : WW X 4 E 1452 [(3, .int 0), (2, .ref hm), (1, .ref hx), (0, .ref bb)] [] [] 168 11526) : WW X 4 E 430 [(3, .int 0), (2, .ref hm), (1, .ref hx), (0, .ref bb)] [] [(hx, .inr (11, [.ref qn, .ref qp, .int 0, .int 0, .ref qs, .ref qj, .ref ql, .ref qh, .ref qk, .int 0, .ref qr, .ref qg, .int 0, .int 0, .ref qsh])), (qs, .inr (5, [.ref qt, .ref sa, .ref sb, .ref sc, .ref sd, .int 0, .int 0, .int 0, .int 0, .int 0])), (qt, .inr (10, [.ref tb, .int 0, .int 0, .int 0, .int 0])), (tb, .inl (E.2.1 0, 160, .inl (fun _ => 0))), (hm, .inr (12, [.ref m_manys, .ref m_reals, .ref m_factsOf, .ref m_possible, .int 0, .int 0, .ref m_tape, .int 0, .int 0, .int 0, .int 0, .int 0, .int 0, .int 0, .int 0, .ref m_ends, .ref m_letters, .ref m_actOf, .ref m_whom, .ref m_actMany, .ref m_tokens, .ref m_afters, .ref m_afterOf, .int 0, .ref m_pile, .ref m_caseMany, .ref m_happen, .ref m_hasIf, .ref m_becomes, .ref m_goneOf, .ref m_heard, .ref m_pairs, .ref m_heaps, .int 0, .int 0, .ref m_led, .ref m_newAt, .ref m_knowing, .ref m_firsts, .int 0, .ref m_secrets, .ref m_tried, .ref m_lanes, .ref m_lengths, .ref m_cells])), (m_tape, .inl (E.2.1 1, 160, .inl (fun _ => 0)))] 168 11526 := by
  refine ww_aload_n C dL_law_430 2 rfl rfl ?_
  refine ww_aload_n C dL_law_431 3 rfl rfl ?_
  refine ww_iload_n C dL_law_432 0 rfl rfl ?_
  refine ww_iconst (v := 1) C dL_law_433 rfl ?_
  refine ww_iadd (v := 1) C dL_law_434 (by decide) ?_
  refine ww_sld (v := a1) C hs (vin rfl) ea1 dL_law_435 ?_
  refine ww_i2l (v := a1.toInt64) C dL_law_436 rfl ?_
  refine ww_bipush (v := 32) C dL_law_437 rfl ?_
  obtain ⟨l_1, el_1⟩ : ∃ z : Int64, a1.toInt64 <<< ((32 : Int32).toInt64 &&& 63) = z := ⟨_, rfl⟩
  refine ww_lshl C dL_law_439 el_1 ?_
  refine ww_aload_n C dL_law_440 3 rfl rfl ?_
  refine ww_iload_n C dL_law_441 0 rfl rfl ?_
  refine ww_iconst (v := 2) C dL_law_442 rfl ?_
  refine ww_iadd (v := 2) C dL_law_443 (by decide) ?_
  refine ww_sld (v := a2) C hs (vin rfl) ea2 dL_law_444 ?_
  refine ww_i2l (v := a2.toInt64) C dL_law_445 rfl ?_
  refine ww_ldc2 C wv_L_40 dL_law_446 ?_
  obtain ⟨l_2, el_2⟩ : ∃ z : Int64, a2.toInt64 &&& (4294967295 : Int64) = z := ⟨_, rfl⟩
  refine ww_land C dL_law_449 el_2 ?_
  obtain ⟨l_3, el_3⟩ : ∃ z : Int64, l_1 ||| l_2 = z := ⟨_, rfl⟩
  refine ww_lor C dL_law_450 el_3 ?_
  refine ww_ci (wr := [(hm, .inr (12, [.ref m_manys, .ref m_reals, .ref m_factsOf, .ref m_possible, .int 0, .int 0, .ref m_tape, .int 0, .int 0, .int 0, .int 0, .int 0, .int 0, .int 0, .int 0, .ref m_ends, .ref m_letters, .ref m_actOf, .ref m_whom, .ref m_actMany, .ref m_tokens, .ref m_afters, .ref m_afterOf, .int 0, .ref m_pile, .ref m_caseMany, .ref m_happen, .ref m_hasIf, .ref m_becomes, .ref m_goneOf, .ref m_heard, .ref m_pairs, .ref m_heaps, .int 0, .int 0, .ref m_led, .ref m_newAt, .ref m_knowing, .ref m_firsts, .int 0, .ref m_secrets, .ref m_tried, .ref m_lanes, .ref m_lengths, .ref m_cells])), (m_tape, .inl (E.2.1 1, 160, .inl (fun _ => 0)))]) (k' := 168) (n' := 11526) C (run_V (As := [.long l_3]) (rest := []) C (x_feed X.2.1 E hx l_3 qn qp qs qj ql qh qk qr qg qsh qt sa sb sc sd tb) mi_X11_feed wl_L_42 rfl 0 11 rfl rfl rfl rfl rfl dL_law_451) [0, 1, 2, 3] [4, 5] rfl rfl rfl rfl (fun r u hw => ?_)
  obtain ⟨rfl, rfl⟩ := hw
  refine ww_eq (ws' := [(hm, .inr (12, [.ref m_manys, .ref m_reals, .ref m_factsOf, .ref m_possible, .int 0, .int 0, .ref m_tape, .int 0, .int 0, .int 0, .int 0, .int 0, .int 0, .int 0, .int 0, .ref m_ends, .ref m_letters, .ref m_actOf, .ref m_whom, .ref m_actMany, .ref m_tokens, .ref m_afters, .ref m_afterOf, .int 0, .ref m_pile, .ref m_caseMany, .ref m_happen, .ref m_hasIf, .ref m_becomes, .ref m_goneOf, .ref m_heard, .ref m_pairs, .ref m_heaps, .int 0, .int 0, .ref m_led, .ref m_newAt, .ref m_knowing, .ref m_firsts, .int 0, .ref m_secrets, .ref m_tried, .ref m_lanes, .ref m_lengths, .ref m_cells])), (m_tape, .inl (E.2.1 1, 160, .inl (fun _ => 0)))]) ?_ rfl rfl rfl
  refine ww_aload_n C dL_law_454 1 rfl rfl ?_
  refine ww_aload_n C dL_law_455 3 rfl rfl ?_
  refine ww_iload_n C dL_law_456 0 rfl rfl ?_
  refine ww_iconst (v := 1) C dL_law_457 rfl ?_
  refine ww_iadd (v := 1) C dL_law_458 (by decide) ?_
  refine ww_sld (v := a1) C hs (vin rfl) ea1 dL_law_459 ?_
  refine ww_i2l (v := a1.toInt64) C dL_law_460 rfl ?_
  refine ww_bipush (v := 32) C dL_law_461 rfl ?_
  obtain ⟨l_4, el_4⟩ : ∃ z : Int64, a1.toInt64 <<< ((32 : Int32).toInt64 &&& 63) = z := ⟨_, rfl⟩
  refine ww_lshl C dL_law_463 el_4 ?_
  refine ww_aload_n C dL_law_464 3 rfl rfl ?_
  refine ww_iload_n C dL_law_465 0 rfl rfl ?_
  refine ww_iconst (v := 2) C dL_law_466 rfl ?_
  refine ww_iadd (v := 2) C dL_law_467 (by decide) ?_
  refine ww_sld (v := a2) C hs (vin rfl) ea2 dL_law_468 ?_
  refine ww_i2l (v := a2.toInt64) C dL_law_469 rfl ?_
  refine ww_ldc2 C wv_L_40 dL_law_470 ?_
  obtain ⟨l_5, el_5⟩ : ∃ z : Int64, a2.toInt64 &&& (4294967295 : Int64) = z := ⟨_, rfl⟩
  refine ww_land C dL_law_473 el_5 ?_
  obtain ⟨l_6, el_6⟩ : ∃ z : Int64, l_4 ||| l_5 = z := ⟨_, rfl⟩
  refine ww_lor C dL_law_474 el_6 ?_
  refine ww_ci (wr := []) (k' := 168) (n' := 11526) C (run_V (As := [.long l_6]) (rest := [.int 8]) C (y_feed X.2.1 E hm l_6 m_manys m_reals m_factsOf m_possible m_tape m_ends m_letters m_actOf m_whom m_actMany m_tokens m_afters m_afterOf m_pile m_caseMany m_happen m_hasIf m_becomes m_goneOf m_heard m_pairs m_heaps m_led m_newAt m_knowing m_firsts m_secrets m_tried m_lanes m_lengths m_cells) mi_X12_feed wl_L_46 rfl 0 12 rfl rfl rfl rfl rfl dL_law_475) [0, 1] [] rfl rfl rfl rfl (fun r u hw => ?_)
  obtain ⟨rfl, rfl⟩ := hw
  refine ww_eq (ws' := []) ?_ rfl rfl rfl
  refine ww_icmp_eq_t (tgt := 1452) C dL_law_478 (by decide) (rfl) ?_
  exact ww_sub [] rfl rfl kk
theorem dL_law_483 : decode cL_law 483 = .ok (.aload_n 1, 1) := by decide +kernel
theorem dL_law_484 : decode cL_law 484 = .ok (.aload_n 0, 1) := by decide +kernel
theorem dL_law_485 : decode cL_law 485 = .ok (.iload_n 3, 1) := by decide +kernel
theorem dL_law_486 : decode cL_law 486 = .ok (.iconst 1, 1) := by decide +kernel
theorem dL_law_487 : decode cL_law 487 = .ok (.iadd, 1) := by decide +kernel
theorem dL_law_488 : decode cL_law 488 = .ok (.iaload, 1) := by decide +kernel
theorem dL_law_489 : decode cL_law 489 = .ok (.invokevirtual 47, 3) := by decide +kernel
theorem wl_L_47 : Cond.methodLink RL 47 yX11_end ∈ TB := tbm (tq2 (List.mem_of_getElem? (i := 238) (by decide +kernel))) (by decide +kernel)
theorem wc_X11_end : Cond.code yX11_end cX11_end 3 (some .int) ∈ TB := tbm (tq3 (List.mem_of_getElem? (i := 1) (rfl))) (by decide +kernel)
theorem wi_X11_end : Cond.instanceMethod yX11_end ∈ TB := tbm (tq2 (List.mem_of_getElem? (i := 239) (by decide +kernel))) (by decide +kernel)
theorem ws_X11_end : Cond.selects RX11 yX11_end yX11_end ∈ TB := tbm (tq3 (List.mem_of_getElem? (i := 0) (by decide +kernel))) (by decide +kernel)
theorem mi_X11_end : MI yX11_end cX11_end 3 (some .int) 1 := ⟨wc_X11_end, wn_X11, ⟨by decide +kernel, by decide +kernel, by decide +kernel⟩, wi_X11_end, ws_X11_end⟩
theorem dL_law_492 : decode cL_law 492 = .ok (.aload_n 2, 1) := by decide +kernel
theorem dL_law_493 : decode cL_law 493 = .ok (.aload_n 0, 1) := by decide +kernel
theorem dL_law_494 : decode cL_law 494 = .ok (.iload_n 3, 1) := by decide +kernel
theorem dL_law_495 : decode cL_law 495 = .ok (.iconst 1, 1) := by decide +kernel
theorem dL_law_496 : decode cL_law 496 = .ok (.iadd, 1) := by decide +kernel
theorem dL_law_497 : decode cL_law 497 = .ok (.iaload, 1) := by decide +kernel
theorem dL_law_498 : decode cL_law 498 = .ok (.invokevirtual 50, 3) := by decide +kernel
theorem wl_L_50 : Cond.methodLink RL 50 yX12_end ∈ TB := tbm (tq6 (List.mem_of_getElem? (i := 44) (by decide +kernel))) (by decide +kernel)
theorem wc_X12_end : Cond.code yX12_end cX12_end 3 (some .int) ∈ TB := tbm (tq6 (List.mem_of_getElem? (i := 47) (rfl))) (by decide +kernel)
theorem wi_X12_end : Cond.instanceMethod yX12_end ∈ TB := tbm (tq6 (List.mem_of_getElem? (i := 45) (by decide +kernel))) (by decide +kernel)
theorem ws_X12_end : Cond.selects RX12 yX12_end yX12_end ∈ TB := tbm (tq6 (List.mem_of_getElem? (i := 46) (by decide +kernel))) (by decide +kernel)
theorem mi_X12_end : MI yX12_end cX12_end 3 (some .int) 1 := ⟨wc_X12_end, wn_X12, ⟨by decide +kernel, by decide +kernel, by decide +kernel⟩, wi_X12_end, ws_X12_end⟩
theorem dL_law_501 : decode cL_law 501 = .ok (.if_icmp .eq 951, 3) := by decide +kernel
set_option maxRecDepth 100000 in
set_option maxHeartbeats 4000000 in
theorem lawc_end {X : XT} {E : EV} {xs : Nat → Int32} (bb : Nat) (hx : Nat) (hm : Nat) (qn : Nat) (qp : Nat) (qs : Nat) (qj : Nat) (ql : Nat) (qh : Nat) (qk : Nat) (qr : Nat) (qg : Nat) (qsh : Nat) (qt : Nat) (sa : Nat) (sb : Nat) (sc : Nat) (sd : Nat) (tb : Nat) (m_manys : Nat) (m_reals : Nat) (m_factsOf : Nat) (m_possible : Nat) (m_tape : Nat) (m_ends : Nat) (m_letters : Nat) (m_actOf : Nat) (m_whom : Nat) (m_actMany : Nat) (m_tokens : Nat) (m_afters : Nat) (m_afterOf : Nat) (m_pile : Nat) (m_caseMany : Nat) (m_happen : Nat) (m_hasIf : Nat) (m_becomes : Nat) (m_goneOf : Nat) (m_heard : Nat) (m_pairs : Nat) (m_heaps : Nat) (m_led : Nat) (m_newAt : Nat) (m_knowing : Nat) (m_firsts : Nat) (m_secrets : Nat) (m_tried : Nat) (m_lanes : Nat) (m_lengths : Nat) (m_cells : Nat) (C : CX X room_1 cL_law 4 RL ret E) (hs : SX X bb 6 xs)  (a0 : Int32) (a1 : Int32) (a2 : Int32) (a3 : Int32) (a4 : Int32) (a5 : Int32) (ea0 : xs 0 = a0) (ea1 : xs 1 = a1) (ea2 : xs 2 = a2) (ea3 : xs 3 = a3) (ea4 : xs 4 = a4) (ea5 : xs 5 = a5) (kk : WW X 4 E 1452 [(3, .int 0), (2, .ref hm), (1, .ref hx), (0, .ref bb)] [] [] 168 11526) : WW X 4 E 483 [(3, .int 0), (2, .ref hm), (1, .ref hx), (0, .ref bb)] [] [(hx, .inr (11, [.ref qn, .ref qp, .int 0, .int 0, .ref qs, .ref qj, .ref ql, .ref qh, .ref qk, .int 0, .ref qr, .ref qg, .int 0, .int 0, .ref qsh])), (qs, .inr (5, [.ref qt, .ref sa, .ref sb, .ref sc, .ref sd, .int 0, .int 0, .int 0, .int 0, .int 0])), (qt, .inr (10, [.ref tb, .int 0, .int 0, .int 0, .int 0])), (tb, .inl (E.2.1 0, 160, .inl (fun _ => 0))), (hm, .inr (12, [.ref m_manys, .ref m_reals, .ref m_factsOf, .ref m_possible, .int 0, .int 0, .ref m_tape, .int 0, .int 0, .int 0, .int 0, .int 0, .int 0, .int 0, .int 0, .ref m_ends, .ref m_letters, .ref m_actOf, .ref m_whom, .ref m_actMany, .ref m_tokens, .ref m_afters, .ref m_afterOf, .int 0, .ref m_pile, .ref m_caseMany, .ref m_happen, .ref m_hasIf, .ref m_becomes, .ref m_goneOf, .ref m_heard, .ref m_pairs, .ref m_heaps, .int 0, .int 0, .ref m_led, .ref m_newAt, .ref m_knowing, .ref m_firsts, .int 0, .ref m_secrets, .ref m_tried, .ref m_lanes, .ref m_lengths, .ref m_cells]))] 168 11526 := by
  refine ww_aload_n C dL_law_483 2 rfl rfl ?_
  refine ww_aload_n C dL_law_484 3 rfl rfl ?_
  refine ww_iload_n C dL_law_485 0 rfl rfl ?_
  refine ww_iconst (v := 1) C dL_law_486 rfl ?_
  refine ww_iadd (v := 1) C dL_law_487 (by decide) ?_
  refine ww_sld (v := a1) C hs (vin rfl) ea1 dL_law_488 ?_
  refine ww_ci (wr := [(hm, .inr (12, [.ref m_manys, .ref m_reals, .ref m_factsOf, .ref m_possible, .int 0, .int 0, .ref m_tape, .int 0, .int 0, .int 0, .int 0, .int 0, .int 0, .int 0, .int 0, .ref m_ends, .ref m_letters, .ref m_actOf, .ref m_whom, .ref m_actMany, .ref m_tokens, .ref m_afters, .ref m_afterOf, .int 0, .ref m_pile, .ref m_caseMany, .ref m_happen, .ref m_hasIf, .ref m_becomes, .ref m_goneOf, .ref m_heard, .ref m_pairs, .ref m_heaps, .int 0, .int 0, .ref m_led, .ref m_newAt, .ref m_knowing, .ref m_firsts, .int 0, .ref m_secrets, .ref m_tried, .ref m_lanes, .ref m_lengths, .ref m_cells]))]) (k' := 168) (n' := 11526) C (run_V (As := [.int a1]) (rest := []) C (x_end X.2.1 E hx a1 qn qp qs qj ql qh qk qr qg qsh qt sa sb sc sd tb) mi_X11_end wl_L_47 rfl 0 11 rfl rfl rfl rfl rfl dL_law_489) [0, 1, 2, 3] [4] rfl rfl rfl rfl (fun r u hw => ?_)
  rcases hw with ⟨rfl, rfl, h_1⟩ | ⟨rfl, rfl, h_2⟩
  · refine ww_eq (ws' := [(hm, .inr (12, [.ref m_manys, .ref m_reals, .ref m_factsOf, .ref m_possible, .int 0, .int 0, .ref m_tape, .int 0, .int 0, .int 0, .int 0, .int 0, .int 0, .int 0, .int 0, .ref m_ends, .ref m_letters, .ref m_actOf, .ref m_whom, .ref m_actMany, .ref m_tokens, .ref m_afters, .ref m_afterOf, .int 0, .ref m_pile, .ref m_caseMany, .ref m_happen, .ref m_hasIf, .ref m_becomes, .ref m_goneOf, .ref m_heard, .ref m_pairs, .ref m_heaps, .int 0, .int 0, .ref m_led, .ref m_newAt, .ref m_knowing, .ref m_firsts, .int 0, .ref m_secrets, .ref m_tried, .ref m_lanes, .ref m_lengths, .ref m_cells]))]) ?_ rfl rfl rfl
    refine ww_aload_n C dL_law_492 1 rfl rfl ?_
    refine ww_aload_n C dL_law_493 3 rfl rfl ?_
    refine ww_iload_n C dL_law_494 0 rfl rfl ?_
    refine ww_iconst (v := 1) C dL_law_495 rfl ?_
    refine ww_iadd (v := 1) C dL_law_496 (by decide) ?_
    refine ww_sld (v := a1) C hs (vin rfl) ea1 dL_law_497 ?_
    refine ww_ci (wr := []) (k' := 168) (n' := 11526) C (run_V (As := [.int a1]) (rest := [.int 0]) C (y_end X.2.1 E hm a1 m_manys m_reals m_factsOf m_possible m_tape m_ends m_letters m_actOf m_whom m_actMany m_tokens m_afters m_afterOf m_pile m_caseMany m_happen m_hasIf m_becomes m_goneOf m_heard m_pairs m_heaps m_led m_newAt m_knowing m_firsts m_secrets m_tried m_lanes m_lengths m_cells) mi_X12_end wl_L_50 rfl 0 12 rfl rfl rfl rfl rfl dL_law_498) [0] [] rfl rfl rfl rfl (fun r u hw => ?_)
    rcases hw with ⟨rfl, rfl, h_3⟩ | ⟨rfl, rfl, h_4⟩
    · refine ww_eq (ws' := []) ?_ rfl rfl rfl
      refine ww_icmp_eq_t (tgt := 1452) C dL_law_501 (by decide) (rfl) ?_
      exact ww_sub [] rfl rfl kk
    · refine ww_eq (ws' := []) ?_ rfl rfl rfl
      omega
  · refine ww_eq (ws' := [(hm, .inr (12, [.ref m_manys, .ref m_reals, .ref m_factsOf, .ref m_possible, .int 0, .int 0, .ref m_tape, .int 0, .int 0, .int 0, .int 0, .int 0, .int 0, .int 0, .int 0, .ref m_ends, .ref m_letters, .ref m_actOf, .ref m_whom, .ref m_actMany, .ref m_tokens, .ref m_afters, .ref m_afterOf, .int 0, .ref m_pile, .ref m_caseMany, .ref m_happen, .ref m_hasIf, .ref m_becomes, .ref m_goneOf, .ref m_heard, .ref m_pairs, .ref m_heaps, .int 0, .int 0, .ref m_led, .ref m_newAt, .ref m_knowing, .ref m_firsts, .int 0, .ref m_secrets, .ref m_tried, .ref m_lanes, .ref m_lengths, .ref m_cells]))]) ?_ rfl rfl rfl
    refine ww_aload_n C dL_law_492 1 rfl rfl ?_
    refine ww_aload_n C dL_law_493 3 rfl rfl ?_
    refine ww_iload_n C dL_law_494 0 rfl rfl ?_
    refine ww_iconst (v := 1) C dL_law_495 rfl ?_
    refine ww_iadd (v := 1) C dL_law_496 (by decide) ?_
    refine ww_sld (v := a1) C hs (vin rfl) ea1 dL_law_497 ?_
    refine ww_ci (wr := []) (k' := 168) (n' := 11526) C (run_V (As := [.int a1]) (rest := [.int (-1)]) C (y_end X.2.1 E hm a1 m_manys m_reals m_factsOf m_possible m_tape m_ends m_letters m_actOf m_whom m_actMany m_tokens m_afters m_afterOf m_pile m_caseMany m_happen m_hasIf m_becomes m_goneOf m_heard m_pairs m_heaps m_led m_newAt m_knowing m_firsts m_secrets m_tried m_lanes m_lengths m_cells) mi_X12_end wl_L_50 rfl 0 12 rfl rfl rfl rfl rfl dL_law_498) [0] [] rfl rfl rfl rfl (fun r u hw => ?_)
    rcases hw with ⟨rfl, rfl, h_5⟩ | ⟨rfl, rfl, h_6⟩
    · refine ww_eq (ws' := []) ?_ rfl rfl rfl
      omega
    · refine ww_eq (ws' := []) ?_ rfl rfl rfl
      refine ww_icmp_eq_t (tgt := 1452) C dL_law_501 (by decide) (rfl) ?_
      exact ww_sub [] rfl rfl kk
theorem dL_law_506 : decode cL_law 506 = .ok (.aload_n 1, 1) := by decide +kernel
theorem dL_law_507 : decode cL_law 507 = .ok (.aload_n 0, 1) := by decide +kernel
theorem dL_law_508 : decode cL_law 508 = .ok (.iload_n 3, 1) := by decide +kernel
theorem dL_law_509 : decode cL_law 509 = .ok (.iconst 1, 1) := by decide +kernel
theorem dL_law_510 : decode cL_law 510 = .ok (.iadd, 1) := by decide +kernel
theorem dL_law_511 : decode cL_law 511 = .ok (.iaload, 1) := by decide +kernel
theorem dL_law_512 : decode cL_law 512 = .ok (.invokevirtual 51, 3) := by decide +kernel
theorem wl_L_51 : Cond.methodLink RL 51 yX11_say ∈ TB := tbm (tq3 (List.mem_of_getElem? (i := 2) (by decide +kernel))) (by decide +kernel)
theorem wc_X11_say : Cond.code yX11_say cX11_say 3 (some .int) ∈ TB := tbm (tq3 (List.mem_of_getElem? (i := 5) (rfl))) (by decide +kernel)
theorem wi_X11_say : Cond.instanceMethod yX11_say ∈ TB := tbm (tq3 (List.mem_of_getElem? (i := 3) (by decide +kernel))) (by decide +kernel)
theorem ws_X11_say : Cond.selects RX11 yX11_say yX11_say ∈ TB := tbm (tq3 (List.mem_of_getElem? (i := 4) (by decide +kernel))) (by decide +kernel)
theorem mi_X11_say : MI yX11_say cX11_say 3 (some .int) 1 := ⟨wc_X11_say, wn_X11, ⟨by decide +kernel, by decide +kernel, by decide +kernel⟩, wi_X11_say, ws_X11_say⟩
theorem dL_law_515 : decode cL_law 515 = .ok (.aload_n 2, 1) := by decide +kernel
theorem dL_law_516 : decode cL_law 516 = .ok (.aload_n 0, 1) := by decide +kernel
theorem dL_law_517 : decode cL_law 517 = .ok (.iload_n 3, 1) := by decide +kernel
theorem dL_law_518 : decode cL_law 518 = .ok (.iconst 1, 1) := by decide +kernel
theorem dL_law_519 : decode cL_law 519 = .ok (.iadd, 1) := by decide +kernel
theorem dL_law_520 : decode cL_law 520 = .ok (.iaload, 1) := by decide +kernel
theorem dL_law_521 : decode cL_law 521 = .ok (.invokevirtual 54, 3) := by decide +kernel
theorem wl_L_54 : Cond.methodLink RL 54 yX12_say ∈ TB := tbm (tq6 (List.mem_of_getElem? (i := 48) (by decide +kernel))) (by decide +kernel)
theorem wc_X12_say : Cond.code yX12_say cX12_say 3 (some .int) ∈ TB := tbm (tq6 (List.mem_of_getElem? (i := 51) (rfl))) (by decide +kernel)
theorem wi_X12_say : Cond.instanceMethod yX12_say ∈ TB := tbm (tq6 (List.mem_of_getElem? (i := 49) (by decide +kernel))) (by decide +kernel)
theorem ws_X12_say : Cond.selects RX12 yX12_say yX12_say ∈ TB := tbm (tq6 (List.mem_of_getElem? (i := 50) (by decide +kernel))) (by decide +kernel)
theorem mi_X12_say : MI yX12_say cX12_say 3 (some .int) 1 := ⟨wc_X12_say, wn_X12, ⟨by decide +kernel, by decide +kernel, by decide +kernel⟩, wi_X12_say, ws_X12_say⟩
theorem dL_law_524 : decode cL_law 524 = .ok (.if_icmp .eq 928, 3) := by decide +kernel
set_option maxRecDepth 100000 in
set_option maxHeartbeats 4000000 in
theorem lawc_say {X : XT} {E : EV} {xs : Nat → Int32} (bb : Nat) (hx : Nat) (hm : Nat) (qn : Nat) (qp : Nat) (qs : Nat) (qj : Nat) (ql : Nat) (qh : Nat) (qk : Nat) (qr : Nat) (qg : Nat) (qsh : Nat) (qt : Nat) (sa : Nat) (sb : Nat) (sc : Nat) (sd : Nat) (tb : Nat) (m_manys : Nat) (m_reals : Nat) (m_factsOf : Nat) (m_possible : Nat) (m_tape : Nat) (m_ends : Nat) (m_letters : Nat) (m_actOf : Nat) (m_whom : Nat) (m_actMany : Nat) (m_tokens : Nat) (m_afters : Nat) (m_afterOf : Nat) (m_pile : Nat) (m_caseMany : Nat) (m_happen : Nat) (m_hasIf : Nat) (m_becomes : Nat) (m_goneOf : Nat) (m_heard : Nat) (m_pairs : Nat) (m_heaps : Nat) (m_led : Nat) (m_newAt : Nat) (m_knowing : Nat) (m_firsts : Nat) (m_secrets : Nat) (m_tried : Nat) (m_lanes : Nat) (m_lengths : Nat) (m_cells : Nat) (C : CX X room_1 cL_law 4 RL ret E) (hs : SX X bb 6 xs)  (a0 : Int32) (a1 : Int32) (a2 : Int32) (a3 : Int32) (a4 : Int32) (a5 : Int32) (ea0 : xs 0 = a0) (ea1 : xs 1 = a1) (ea2 : xs 2 = a2) (ea3 : xs 3 = a3) (ea4 : xs 4 = a4) (ea5 : xs 5 = a5) (kk : WW X 4 E 1452 [(3, .int 0), (2, .ref hm), (1, .ref hx), (0, .ref bb)] [] [] 168 11526) : WW X 4 E 506 [(3, .int 0), (2, .ref hm), (1, .ref hx), (0, .ref bb)] [] [(hx, .inr (11, [.ref qn, .ref qp, .int 0, .int 0, .ref qs, .ref qj, .ref ql, .ref qh, .ref qk, .int 0, .ref qr, .ref qg, .int 0, .int 0, .ref qsh])), (qs, .inr (5, [.ref qt, .ref sa, .ref sb, .ref sc, .ref sd, .int 0, .int 0, .int 0, .int 0, .int 0])), (qt, .inr (10, [.ref tb, .int 0, .int 0, .int 0, .int 0])), (tb, .inl (E.2.1 0, 160, .inl (fun _ => 0))), (hm, .inr (12, [.ref m_manys, .ref m_reals, .ref m_factsOf, .ref m_possible, .int 0, .int 0, .ref m_tape, .int 0, .int 0, .int 0, .int 0, .int 0, .int 0, .int 0, .int 0, .ref m_ends, .ref m_letters, .ref m_actOf, .ref m_whom, .ref m_actMany, .ref m_tokens, .ref m_afters, .ref m_afterOf, .int 0, .ref m_pile, .ref m_caseMany, .ref m_happen, .ref m_hasIf, .ref m_becomes, .ref m_goneOf, .ref m_heard, .ref m_pairs, .ref m_heaps, .int 0, .int 0, .ref m_led, .ref m_newAt, .ref m_knowing, .ref m_firsts, .int 0, .ref m_secrets, .ref m_tried, .ref m_lanes, .ref m_lengths, .ref m_cells])), (m_actMany, .inl (E.2.1 1, 25, .inl (fun _ => 0))), (m_afters, .inl (E.2.1 1, 9, .inl (fun _ => 0)))] 168 11526 := by
  refine ww_aload_n C dL_law_506 2 rfl rfl ?_
  refine ww_aload_n C dL_law_507 3 rfl rfl ?_
  refine ww_iload_n C dL_law_508 0 rfl rfl ?_
  refine ww_iconst (v := 1) C dL_law_509 rfl ?_
  refine ww_iadd (v := 1) C dL_law_510 (by decide) ?_
  refine ww_sld (v := a1) C hs (vin rfl) ea1 dL_law_511 ?_
  refine ww_ci (wr := [(hm, .inr (12, [.ref m_manys, .ref m_reals, .ref m_factsOf, .ref m_possible, .int 0, .int 0, .ref m_tape, .int 0, .int 0, .int 0, .int 0, .int 0, .int 0, .int 0, .int 0, .ref m_ends, .ref m_letters, .ref m_actOf, .ref m_whom, .ref m_actMany, .ref m_tokens, .ref m_afters, .ref m_afterOf, .int 0, .ref m_pile, .ref m_caseMany, .ref m_happen, .ref m_hasIf, .ref m_becomes, .ref m_goneOf, .ref m_heard, .ref m_pairs, .ref m_heaps, .int 0, .int 0, .ref m_led, .ref m_newAt, .ref m_knowing, .ref m_firsts, .int 0, .ref m_secrets, .ref m_tried, .ref m_lanes, .ref m_lengths, .ref m_cells])), (m_actMany, .inl (E.2.1 1, 25, .inl (fun _ => 0))), (m_afters, .inl (E.2.1 1, 9, .inl (fun _ => 0)))]) (k' := 168) (n' := 11526) C (run_V (As := [.int a1]) (rest := []) C (x_say X.2.1 E hx a1 qn qp qs qj ql qh qk qr qg qsh qt sa sb sc sd tb) mi_X11_say wl_L_51 rfl 0 11 rfl rfl rfl rfl rfl dL_law_512) [0, 1, 2, 3] [4, 5, 6] rfl rfl rfl rfl (fun r u hw => ?_)
  rcases hw with ⟨rfl, rfl, h_1⟩ | ⟨rfl, rfl, h_2, h_3⟩
  · refine ww_eq (ws' := [(hm, .inr (12, [.ref m_manys, .ref m_reals, .ref m_factsOf, .ref m_possible, .int 0, .int 0, .ref m_tape, .int 0, .int 0, .int 0, .int 0, .int 0, .int 0, .int 0, .int 0, .ref m_ends, .ref m_letters, .ref m_actOf, .ref m_whom, .ref m_actMany, .ref m_tokens, .ref m_afters, .ref m_afterOf, .int 0, .ref m_pile, .ref m_caseMany, .ref m_happen, .ref m_hasIf, .ref m_becomes, .ref m_goneOf, .ref m_heard, .ref m_pairs, .ref m_heaps, .int 0, .int 0, .ref m_led, .ref m_newAt, .ref m_knowing, .ref m_firsts, .int 0, .ref m_secrets, .ref m_tried, .ref m_lanes, .ref m_lengths, .ref m_cells])), (m_actMany, .inl (E.2.1 1, 25, .inl (fun _ => 0))), (m_afters, .inl (E.2.1 1, 9, .inl (fun _ => 0)))]) ?_ rfl rfl rfl
    refine ww_aload_n C dL_law_515 1 rfl rfl ?_
    refine ww_aload_n C dL_law_516 3 rfl rfl ?_
    refine ww_iload_n C dL_law_517 0 rfl rfl ?_
    refine ww_iconst (v := 1) C dL_law_518 rfl ?_
    refine ww_iadd (v := 1) C dL_law_519 (by decide) ?_
    refine ww_sld (v := a1) C hs (vin rfl) ea1 dL_law_520 ?_
    refine ww_ci (wr := []) (k' := 168) (n' := 11526) C (run_V (As := [.int a1]) (rest := [.int (-1)]) C (y_say X.2.1 E hm a1 m_manys m_reals m_factsOf m_possible m_tape m_ends m_letters m_actOf m_whom m_actMany m_tokens m_afters m_afterOf m_pile m_caseMany m_happen m_hasIf m_becomes m_goneOf m_heard m_pairs m_heaps m_led m_newAt m_knowing m_firsts m_secrets m_tried m_lanes m_lengths m_cells) mi_X12_say wl_L_54 rfl 0 12 rfl rfl rfl rfl rfl dL_law_521) [0, 1, 2] [] rfl rfl rfl rfl (fun r u hw => ?_)
    rcases hw with ⟨rfl, rfl, h_4⟩ | ⟨rfl, rfl, h_5, h_6⟩
    · refine ww_eq (ws' := []) ?_ rfl rfl rfl
      refine ww_icmp_eq_t (tgt := 1452) C dL_law_524 (by decide) (rfl) ?_
      exact ww_sub [] rfl rfl kk
    · refine ww_eq (ws' := []) ?_ rfl rfl rfl
      omega
  · refine ww_eq (ws' := [(hm, .inr (12, [.ref m_manys, .ref m_reals, .ref m_factsOf, .ref m_possible, .int 0, .int 0, .ref m_tape, .int 0, .int 0, .int 0, .int 0, .int 0, .int 0, .int 0, .int 0, .ref m_ends, .ref m_letters, .ref m_actOf, .ref m_whom, .ref m_actMany, .ref m_tokens, .ref m_afters, .ref m_afterOf, .int 0, .ref m_pile, .ref m_caseMany, .ref m_happen, .ref m_hasIf, .ref m_becomes, .ref m_goneOf, .ref m_heard, .ref m_pairs, .ref m_heaps, .int 0, .int 0, .ref m_led, .ref m_newAt, .ref m_knowing, .ref m_firsts, .int 0, .ref m_secrets, .ref m_tried, .ref m_lanes, .ref m_lengths, .ref m_cells])), (m_actMany, .inl (E.2.1 1, 25, .inl (fun _ => 0))), (m_afters, .inl (E.2.1 1, 9, .inl (fun _ => 0)))]) ?_ rfl rfl rfl
    refine ww_aload_n C dL_law_515 1 rfl rfl ?_
    refine ww_aload_n C dL_law_516 3 rfl rfl ?_
    refine ww_iload_n C dL_law_517 0 rfl rfl ?_
    refine ww_iconst (v := 1) C dL_law_518 rfl ?_
    refine ww_iadd (v := 1) C dL_law_519 (by decide) ?_
    refine ww_sld (v := a1) C hs (vin rfl) ea1 dL_law_520 ?_
    refine ww_ci (wr := []) (k' := 168) (n' := 11526) C (run_V (As := [.int a1]) (rest := [.int (-10)]) C (y_say X.2.1 E hm a1 m_manys m_reals m_factsOf m_possible m_tape m_ends m_letters m_actOf m_whom m_actMany m_tokens m_afters m_afterOf m_pile m_caseMany m_happen m_hasIf m_becomes m_goneOf m_heard m_pairs m_heaps m_led m_newAt m_knowing m_firsts m_secrets m_tried m_lanes m_lengths m_cells) mi_X12_say wl_L_54 rfl 0 12 rfl rfl rfl rfl rfl dL_law_521) [0, 1, 2] [] rfl rfl rfl rfl (fun r u hw => ?_)
    rcases hw with ⟨rfl, rfl, h_7⟩ | ⟨rfl, rfl, h_8, h_9⟩
    · refine ww_eq (ws' := []) ?_ rfl rfl rfl
      omega
    · refine ww_eq (ws' := []) ?_ rfl rfl rfl
      refine ww_icmp_eq_t (tgt := 1452) C dL_law_524 (by decide) (rfl) ?_
      exact ww_sub [] rfl rfl kk
theorem dL_law_529 : decode cL_law 529 = .ok (.aload_n 1, 1) := by decide +kernel
theorem dL_law_530 : decode cL_law 530 = .ok (.invokevirtual 55, 3) := by decide +kernel
theorem wl_L_55 : Cond.methodLink RL 55 yX11_fault ∈ TB := tbm (tq3 (List.mem_of_getElem? (i := 195) (by decide +kernel))) (by decide +kernel)
theorem wc_X11_fault : Cond.code yX11_fault cX11_fault 1 (some .int) ∈ TB := tbm (tq3 (List.mem_of_getElem? (i := 198) (rfl))) (by decide +kernel)
theorem wi_X11_fault : Cond.instanceMethod yX11_fault ∈ TB := tbm (tq3 (List.mem_of_getElem? (i := 196) (by decide +kernel))) (by decide +kernel)
theorem ws_X11_fault : Cond.selects RX11 yX11_fault yX11_fault ∈ TB := tbm (tq3 (List.mem_of_getElem? (i := 197) (by decide +kernel))) (by decide +kernel)
theorem mi_X11_fault : MI yX11_fault cX11_fault 1 (some .int) 0 := ⟨wc_X11_fault, wn_X11, ⟨by decide +kernel, by decide +kernel, by decide +kernel⟩, wi_X11_fault, ws_X11_fault⟩
theorem dL_law_533 : decode cL_law 533 = .ok (.aload_n 2, 1) := by decide +kernel
theorem dL_law_534 : decode cL_law 534 = .ok (.invokevirtual 59, 3) := by decide +kernel
theorem wl_L_59 : Cond.methodLink RL 59 yX12_fault ∈ TB := tbm (tq6 (List.mem_of_getElem? (i := 97) (by decide +kernel))) (by decide +kernel)
theorem wc_X12_fault : Cond.code yX12_fault cX12_fault 1 (some .int) ∈ TB := tbm (tq6 (List.mem_of_getElem? (i := 100) (rfl))) (by decide +kernel)
theorem wi_X12_fault : Cond.instanceMethod yX12_fault ∈ TB := tbm (tq6 (List.mem_of_getElem? (i := 98) (by decide +kernel))) (by decide +kernel)
theorem ws_X12_fault : Cond.selects RX12 yX12_fault yX12_fault ∈ TB := tbm (tq6 (List.mem_of_getElem? (i := 99) (by decide +kernel))) (by decide +kernel)
theorem mi_X12_fault : MI yX12_fault cX12_fault 1 (some .int) 0 := ⟨wc_X12_fault, wn_X12, ⟨by decide +kernel, by decide +kernel, by decide +kernel⟩, wi_X12_fault, ws_X12_fault⟩
theorem dL_law_537 : decode cL_law 537 = .ok (.if_icmp .eq 915, 3) := by decide +kernel
set_option maxRecDepth 100000 in
set_option maxHeartbeats 4000000 in
theorem lawc_fault {X : XT} {E : EV} {xs : Nat → Int32} (bb : Nat) (hx : Nat) (hm : Nat) (qn : Nat) (qp : Nat) (qs : Nat) (qj : Nat) (ql : Nat) (qh : Nat) (qk : Nat) (qr : Nat) (qg : Nat) (qsh : Nat) (qt : Nat) (sa : Nat) (sb : Nat) (sc : Nat) (sd : Nat) (tb : Nat) (m_manys : Nat) (m_reals : Nat) (m_factsOf : Nat) (m_possible : Nat) (m_tape : Nat) (m_ends : Nat) (m_letters : Nat) (m_actOf : Nat) (m_whom : Nat) (m_actMany : Nat) (m_tokens : Nat) (m_afters : Nat) (m_afterOf : Nat) (m_pile : Nat) (m_caseMany : Nat) (m_happen : Nat) (m_hasIf : Nat) (m_becomes : Nat) (m_goneOf : Nat) (m_heard : Nat) (m_pairs : Nat) (m_heaps : Nat) (m_led : Nat) (m_newAt : Nat) (m_knowing : Nat) (m_firsts : Nat) (m_secrets : Nat) (m_tried : Nat) (m_lanes : Nat) (m_lengths : Nat) (m_cells : Nat) (C : CX X room_1 cL_law 4 RL ret E) (hs : SX X bb 6 xs)  (a0 : Int32) (a1 : Int32) (a2 : Int32) (a3 : Int32) (a4 : Int32) (a5 : Int32) (ea0 : xs 0 = a0) (ea1 : xs 1 = a1) (ea2 : xs 2 = a2) (ea3 : xs 3 = a3) (ea4 : xs 4 = a4) (ea5 : xs 5 = a5) (kk : WW X 4 E 1452 [(3, .int 0), (2, .ref hm), (1, .ref hx), (0, .ref bb)] [] [] 168 11526) : WW X 4 E 529 [(3, .int 0), (2, .ref hm), (1, .ref hx), (0, .ref bb)] [] [(hx, .inr (11, [.ref qn, .ref qp, .int 0, .int 0, .ref qs, .ref qj, .ref ql, .ref qh, .ref qk, .int 0, .ref qr, .ref qg, .int 0, .int 0, .ref qsh])), (qs, .inr (5, [.ref qt, .ref sa, .ref sb, .ref sc, .ref sd, .int 0, .int 0, .int 0, .int 0, .int 0])), (qt, .inr (10, [.ref tb, .int 0, .int 0, .int 0, .int 0])), (tb, .inl (E.2.1 0, 160, .inl (fun _ => 0))), (hm, .inr (12, [.ref m_manys, .ref m_reals, .ref m_factsOf, .ref m_possible, .int 0, .int 0, .ref m_tape, .int 0, .int 0, .int 0, .int 0, .int 0, .int 0, .int 0, .int 0, .ref m_ends, .ref m_letters, .ref m_actOf, .ref m_whom, .ref m_actMany, .ref m_tokens, .ref m_afters, .ref m_afterOf, .int 0, .ref m_pile, .ref m_caseMany, .ref m_happen, .ref m_hasIf, .ref m_becomes, .ref m_goneOf, .ref m_heard, .ref m_pairs, .ref m_heaps, .int 0, .int 0, .ref m_led, .ref m_newAt, .ref m_knowing, .ref m_firsts, .int 0, .ref m_secrets, .ref m_tried, .ref m_lanes, .ref m_lengths, .ref m_cells]))] 168 11526 := by
  refine ww_aload_n C dL_law_529 2 rfl rfl ?_
  refine ww_ci (wr := [(hm, .inr (12, [.ref m_manys, .ref m_reals, .ref m_factsOf, .ref m_possible, .int 0, .int 0, .ref m_tape, .int 0, .int 0, .int 0, .int 0, .int 0, .int 0, .int 0, .int 0, .ref m_ends, .ref m_letters, .ref m_actOf, .ref m_whom, .ref m_actMany, .ref m_tokens, .ref m_afters, .ref m_afterOf, .int 0, .ref m_pile, .ref m_caseMany, .ref m_happen, .ref m_hasIf, .ref m_becomes, .ref m_goneOf, .ref m_heard, .ref m_pairs, .ref m_heaps, .int 0, .int 0, .ref m_led, .ref m_newAt, .ref m_knowing, .ref m_firsts, .int 0, .ref m_secrets, .ref m_tried, .ref m_lanes, .ref m_lengths, .ref m_cells]))]) (k' := 168) (n' := 11526) C (run_V (As := []) (rest := []) C (x_fault X.2.1 E hx qn qp qs qj ql qh qk qr qg qsh qt sa sb sc sd tb) mi_X11_fault wl_L_55 rfl 0 11 rfl rfl rfl rfl rfl dL_law_530) [0, 1, 2, 3] [4] rfl rfl rfl rfl (fun r u hw => ?_)
  obtain ⟨rfl, rfl⟩ := hw
  refine ww_eq (ws' := [(hm, .inr (12, [.ref m_manys, .ref m_reals, .ref m_factsOf, .ref m_possible, .int 0, .int 0, .ref m_tape, .int 0, .int 0, .int 0, .int 0, .int 0, .int 0, .int 0, .int 0, .ref m_ends, .ref m_letters, .ref m_actOf, .ref m_whom, .ref m_actMany, .ref m_tokens, .ref m_afters, .ref m_afterOf, .int 0, .ref m_pile, .ref m_caseMany, .ref m_happen, .ref m_hasIf, .ref m_becomes, .ref m_goneOf, .ref m_heard, .ref m_pairs, .ref m_heaps, .int 0, .int 0, .ref m_led, .ref m_newAt, .ref m_knowing, .ref m_firsts, .int 0, .ref m_secrets, .ref m_tried, .ref m_lanes, .ref m_lengths, .ref m_cells]))]) ?_ rfl rfl rfl
  refine ww_aload_n C dL_law_533 1 rfl rfl ?_
  refine ww_ci (wr := []) (k' := 168) (n' := 11526) C (run_V (As := []) (rest := [.int 0]) C (y_fault X.2.1 E hm m_manys m_reals m_factsOf m_possible m_tape m_ends m_letters m_actOf m_whom m_actMany m_tokens m_afters m_afterOf m_pile m_caseMany m_happen m_hasIf m_becomes m_goneOf m_heard m_pairs m_heaps m_led m_newAt m_knowing m_firsts m_secrets m_tried m_lanes m_lengths m_cells) mi_X12_fault wl_L_59 rfl 0 12 rfl rfl rfl rfl rfl dL_law_534) [0] [] rfl rfl rfl rfl (fun r u hw => ?_)
  obtain ⟨rfl, rfl⟩ := hw
  refine ww_eq (ws' := []) ?_ rfl rfl rfl
  refine ww_icmp_eq_t (tgt := 1452) C dL_law_537 (by decide) (rfl) ?_
  exact ww_sub [] rfl rfl kk
theorem dL_law_542 : decode cL_law 542 = .ok (.aload_n 1, 1) := by decide +kernel
theorem dL_law_543 : decode cL_law 543 = .ok (.aload_n 0, 1) := by decide +kernel
theorem dL_law_544 : decode cL_law 544 = .ok (.iload_n 3, 1) := by decide +kernel
theorem dL_law_545 : decode cL_law 545 = .ok (.iconst 1, 1) := by decide +kernel
theorem dL_law_546 : decode cL_law 546 = .ok (.iadd, 1) := by decide +kernel
theorem dL_law_547 : decode cL_law 547 = .ok (.iaload, 1) := by decide +kernel
theorem dL_law_548 : decode cL_law 548 = .ok (.aload_n 0, 1) := by decide +kernel
theorem dL_law_549 : decode cL_law 549 = .ok (.iload_n 3, 1) := by decide +kernel
theorem dL_law_550 : decode cL_law 550 = .ok (.iconst 2, 1) := by decide +kernel
theorem dL_law_551 : decode cL_law 551 = .ok (.iadd, 1) := by decide +kernel
theorem dL_law_552 : decode cL_law 552 = .ok (.iaload, 1) := by decide +kernel
theorem dL_law_553 : decode cL_law 553 = .ok (.invokevirtual 60, 3) := by decide +kernel
theorem wl_L_60 : Cond.methodLink RL 60 yX11_saying ∈ TB := tbm (tq3 (List.mem_of_getElem? (i := 199) (by decide +kernel))) (by decide +kernel)
theorem wc_X11_saying : Cond.code yX11_saying cX11_saying 3 (some .int) ∈ TB := tbm (tq3 (List.mem_of_getElem? (i := 202) (rfl))) (by decide +kernel)
theorem wi_X11_saying : Cond.instanceMethod yX11_saying ∈ TB := tbm (tq3 (List.mem_of_getElem? (i := 200) (by decide +kernel))) (by decide +kernel)
theorem ws_X11_saying : Cond.selects RX11 yX11_saying yX11_saying ∈ TB := tbm (tq3 (List.mem_of_getElem? (i := 201) (by decide +kernel))) (by decide +kernel)
theorem mi_X11_saying : MI yX11_saying cX11_saying 3 (some .int) 2 := ⟨wc_X11_saying, wn_X11, ⟨by decide +kernel, by decide +kernel, by decide +kernel⟩, wi_X11_saying, ws_X11_saying⟩
theorem dL_law_556 : decode cL_law 556 = .ok (.aload_n 2, 1) := by decide +kernel
theorem dL_law_557 : decode cL_law 557 = .ok (.aload_n 0, 1) := by decide +kernel
theorem dL_law_558 : decode cL_law 558 = .ok (.iload_n 3, 1) := by decide +kernel
theorem dL_law_559 : decode cL_law 559 = .ok (.iconst 1, 1) := by decide +kernel
theorem dL_law_560 : decode cL_law 560 = .ok (.iadd, 1) := by decide +kernel
theorem dL_law_561 : decode cL_law 561 = .ok (.iaload, 1) := by decide +kernel
theorem dL_law_562 : decode cL_law 562 = .ok (.aload_n 0, 1) := by decide +kernel
theorem dL_law_563 : decode cL_law 563 = .ok (.iload_n 3, 1) := by decide +kernel
theorem dL_law_564 : decode cL_law 564 = .ok (.iconst 2, 1) := by decide +kernel
theorem dL_law_565 : decode cL_law 565 = .ok (.iadd, 1) := by decide +kernel
theorem dL_law_566 : decode cL_law 566 = .ok (.iaload, 1) := by decide +kernel
theorem dL_law_567 : decode cL_law 567 = .ok (.invokevirtual 63, 3) := by decide +kernel
theorem wl_L_63 : Cond.methodLink RL 63 yX12_saying ∈ TB := tbm (tq6 (List.mem_of_getElem? (i := 101) (by decide +kernel))) (by decide +kernel)
theorem wc_X12_saying : Cond.code yX12_saying cX12_saying 6 (some .int) ∈ TB := tbm (tq6 (List.mem_of_getElem? (i := 104) (rfl))) (by decide +kernel)
theorem wi_X12_saying : Cond.instanceMethod yX12_saying ∈ TB := tbm (tq6 (List.mem_of_getElem? (i := 102) (by decide +kernel))) (by decide +kernel)
theorem ws_X12_saying : Cond.selects RX12 yX12_saying yX12_saying ∈ TB := tbm (tq6 (List.mem_of_getElem? (i := 103) (by decide +kernel))) (by decide +kernel)
theorem mi_X12_saying : MI yX12_saying cX12_saying 6 (some .int) 2 := ⟨wc_X12_saying, wn_X12, ⟨by decide +kernel, by decide +kernel, by decide +kernel⟩, wi_X12_saying, ws_X12_saying⟩
theorem dL_law_570 : decode cL_law 570 = .ok (.if_icmp .eq 882, 3) := by decide +kernel
set_option maxRecDepth 100000 in
set_option maxHeartbeats 4000000 in
theorem lawc_saying {X : XT} {E : EV} {xs : Nat → Int32} (bb : Nat) (hx : Nat) (hm : Nat) (qn : Nat) (qp : Nat) (qs : Nat) (qj : Nat) (ql : Nat) (qh : Nat) (qk : Nat) (qr : Nat) (qg : Nat) (qsh : Nat) (jt : Nat) (je : Nat) (ju : Nat) (ja : Nat) (m_manys : Nat) (m_reals : Nat) (m_factsOf : Nat) (m_possible : Nat) (m_tape : Nat) (m_ends : Nat) (m_letters : Nat) (m_actOf : Nat) (m_whom : Nat) (m_actMany : Nat) (m_tokens : Nat) (m_afters : Nat) (m_afterOf : Nat) (m_pile : Nat) (m_caseMany : Nat) (m_happen : Nat) (m_hasIf : Nat) (m_becomes : Nat) (m_goneOf : Nat) (m_heard : Nat) (m_pairs : Nat) (m_heaps : Nat) (m_led : Nat) (m_newAt : Nat) (m_knowing : Nat) (m_firsts : Nat) (m_secrets : Nat) (m_tried : Nat) (m_lanes : Nat) (m_lengths : Nat) (m_cells : Nat) (C : CX X room_1 cL_law 4 RL ret E) (hs : SX X bb 6 xs)  (a0 : Int32) (a1 : Int32) (a2 : Int32) (a3 : Int32) (a4 : Int32) (a5 : Int32) (ea0 : xs 0 = a0) (ea1 : xs 1 = a1) (ea2 : xs 2 = a2) (ea3 : xs 3 = a3) (ea4 : xs 4 = a4) (ea5 : xs 5 = a5) (kk : WW X 4 E 1452 [(3, .int 0), (2, .ref hm), (1, .ref hx), (0, .ref bb)] [] [] 168 11526) : WW X 4 E 542 [(3, .int 0), (2, .ref hm), (1, .ref hx), (0, .ref bb)] [] [(hx, .inr (11, [.ref qn, .ref qp, .int 0, .int 0, .ref qs, .ref qj, .ref ql, .ref qh, .ref qk, .int 0, .ref qr, .ref qg, .int 0, .int 0, .ref qsh])), (qj, .inr (2, [.ref jt, .ref je, .ref ju, .ref ja])), (jt, .inl (E.2.1 7, 8, .inr (.inr (.inr (.inr (fun _ => none)))))), (hm, .inr (12, [.ref m_manys, .ref m_reals, .ref m_factsOf, .ref m_possible, .int 0, .int 0, .ref m_tape, .int 0, .int 0, .int 0, .int 0, .int 0, .int 0, .int 0, .int 0, .ref m_ends, .ref m_letters, .ref m_actOf, .ref m_whom, .ref m_actMany, .ref m_tokens, .ref m_afters, .ref m_afterOf, .int 0, .ref m_pile, .ref m_caseMany, .ref m_happen, .ref m_hasIf, .ref m_becomes, .ref m_goneOf, .ref m_heard, .ref m_pairs, .ref m_heaps, .int 0, .int 0, .ref m_led, .ref m_newAt, .ref m_knowing, .ref m_firsts, .int 0, .ref m_secrets, .ref m_tried, .ref m_lanes, .ref m_lengths, .ref m_cells])), (m_tokens, .inl (E.2.1 1, 9, .inl (fun _ => 0)))] 168 11526 := by
  refine ww_aload_n C dL_law_542 2 rfl rfl ?_
  refine ww_aload_n C dL_law_543 3 rfl rfl ?_
  refine ww_iload_n C dL_law_544 0 rfl rfl ?_
  refine ww_iconst (v := 1) C dL_law_545 rfl ?_
  refine ww_iadd (v := 1) C dL_law_546 (by decide) ?_
  refine ww_sld (v := a1) C hs (vin rfl) ea1 dL_law_547 ?_
  refine ww_aload_n C dL_law_548 3 rfl rfl ?_
  refine ww_iload_n C dL_law_549 0 rfl rfl ?_
  refine ww_iconst (v := 2) C dL_law_550 rfl ?_
  refine ww_iadd (v := 2) C dL_law_551 (by decide) ?_
  refine ww_sld (v := a2) C hs (vin rfl) ea2 dL_law_552 ?_
  refine ww_ci (wr := [(hm, .inr (12, [.ref m_manys, .ref m_reals, .ref m_factsOf, .ref m_possible, .int 0, .int 0, .ref m_tape, .int 0, .int 0, .int 0, .int 0, .int 0, .int 0, .int 0, .int 0, .ref m_ends, .ref m_letters, .ref m_actOf, .ref m_whom, .ref m_actMany, .ref m_tokens, .ref m_afters, .ref m_afterOf, .int 0, .ref m_pile, .ref m_caseMany, .ref m_happen, .ref m_hasIf, .ref m_becomes, .ref m_goneOf, .ref m_heard, .ref m_pairs, .ref m_heaps, .int 0, .int 0, .ref m_led, .ref m_newAt, .ref m_knowing, .ref m_firsts, .int 0, .ref m_secrets, .ref m_tried, .ref m_lanes, .ref m_lengths, .ref m_cells])), (m_tokens, .inl (E.2.1 1, 9, .inl (fun _ => 0)))]) (k' := 168) (n' := 11526) C (run_V (As := [.int a1, .int a2]) (rest := []) C (x_saying X.2.1 E hx a1 a2 qn qp qs qj ql qh qk qr qg qsh jt je ju ja) mi_X11_saying wl_L_60 rfl 0 11 rfl rfl rfl rfl rfl dL_law_553) [0, 1, 2] [3, 4] rfl rfl rfl rfl (fun r u hw => ?_)
  obtain ⟨rfl, rfl⟩ := hw
  refine ww_eq (ws' := [(hm, .inr (12, [.ref m_manys, .ref m_reals, .ref m_factsOf, .ref m_possible, .int 0, .int 0, .ref m_tape, .int 0, .int 0, .int 0, .int 0, .int 0, .int 0, .int 0, .int 0, .ref m_ends, .ref m_letters, .ref m_actOf, .ref m_whom, .ref m_actMany, .ref m_tokens, .ref m_afters, .ref m_afterOf, .int 0, .ref m_pile, .ref m_caseMany, .ref m_happen, .ref m_hasIf, .ref m_becomes, .ref m_goneOf, .ref m_heard, .ref m_pairs, .ref m_heaps, .int 0, .int 0, .ref m_led, .ref m_newAt, .ref m_knowing, .ref m_firsts, .int 0, .ref m_secrets, .ref m_tried, .ref m_lanes, .ref m_lengths, .ref m_cells])), (m_tokens, .inl (E.2.1 1, 9, .inl (fun _ => 0)))]) ?_ rfl rfl rfl
  refine ww_aload_n C dL_law_556 1 rfl rfl ?_
  refine ww_aload_n C dL_law_557 3 rfl rfl ?_
  refine ww_iload_n C dL_law_558 0 rfl rfl ?_
  refine ww_iconst (v := 1) C dL_law_559 rfl ?_
  refine ww_iadd (v := 1) C dL_law_560 (by decide) ?_
  refine ww_sld (v := a1) C hs (vin rfl) ea1 dL_law_561 ?_
  refine ww_aload_n C dL_law_562 3 rfl rfl ?_
  refine ww_iload_n C dL_law_563 0 rfl rfl ?_
  refine ww_iconst (v := 2) C dL_law_564 rfl ?_
  refine ww_iadd (v := 2) C dL_law_565 (by decide) ?_
  refine ww_sld (v := a2) C hs (vin rfl) ea2 dL_law_566 ?_
  refine ww_ci (wr := []) (k' := 168) (n' := 11526) C (run_V (As := [.int a1, .int a2]) (rest := [.int (-1)]) C (y_saying X.2.1 E hm a1 a2 m_manys m_reals m_factsOf m_possible m_tape m_ends m_letters m_actOf m_whom m_actMany m_tokens m_afters m_afterOf m_pile m_caseMany m_happen m_hasIf m_becomes m_goneOf m_heard m_pairs m_heaps m_led m_newAt m_knowing m_firsts m_secrets m_tried m_lanes m_lengths m_cells) mi_X12_saying wl_L_63 rfl 0 12 rfl rfl rfl rfl rfl dL_law_567) [0, 1] [] rfl rfl rfl rfl (fun r u hw => ?_)
  obtain ⟨rfl, rfl⟩ := hw
  refine ww_eq (ws' := []) ?_ rfl rfl rfl
  refine ww_icmp_eq_t (tgt := 1452) C dL_law_570 (by decide) (rfl) ?_
  exact ww_sub [] rfl rfl kk
theorem dL_law_575 : decode cL_law 575 = .ok (.aload_n 1, 1) := by decide +kernel
theorem dL_law_576 : decode cL_law 576 = .ok (.aload_n 0, 1) := by decide +kernel
theorem dL_law_577 : decode cL_law 577 = .ok (.iload_n 3, 1) := by decide +kernel
theorem dL_law_578 : decode cL_law 578 = .ok (.iconst 1, 1) := by decide +kernel
theorem dL_law_579 : decode cL_law 579 = .ok (.iadd, 1) := by decide +kernel
theorem dL_law_580 : decode cL_law 580 = .ok (.iaload, 1) := by decide +kernel
theorem dL_law_581 : decode cL_law 581 = .ok (.invokevirtual 64, 3) := by decide +kernel
theorem wl_L_64 : Cond.methodLink RL 64 yX11_truth ∈ TB := tbm (tq3 (List.mem_of_getElem? (i := 207) (by decide +kernel))) (by decide +kernel)
theorem wc_X11_truth : Cond.code yX11_truth cX11_truth 2 (some .int) ∈ TB := tbm (tq3 (List.mem_of_getElem? (i := 210) (rfl))) (by decide +kernel)
theorem wi_X11_truth : Cond.instanceMethod yX11_truth ∈ TB := tbm (tq3 (List.mem_of_getElem? (i := 208) (by decide +kernel))) (by decide +kernel)
theorem ws_X11_truth : Cond.selects RX11 yX11_truth yX11_truth ∈ TB := tbm (tq3 (List.mem_of_getElem? (i := 209) (by decide +kernel))) (by decide +kernel)
theorem mi_X11_truth : MI yX11_truth cX11_truth 2 (some .int) 1 := ⟨wc_X11_truth, wn_X11, ⟨by decide +kernel, by decide +kernel, by decide +kernel⟩, wi_X11_truth, ws_X11_truth⟩
theorem dL_law_584 : decode cL_law 584 = .ok (.aload_n 2, 1) := by decide +kernel
theorem dL_law_585 : decode cL_law 585 = .ok (.aload_n 0, 1) := by decide +kernel
theorem dL_law_586 : decode cL_law 586 = .ok (.iload_n 3, 1) := by decide +kernel
theorem dL_law_587 : decode cL_law 587 = .ok (.iconst 1, 1) := by decide +kernel
theorem dL_law_588 : decode cL_law 588 = .ok (.iadd, 1) := by decide +kernel
theorem dL_law_589 : decode cL_law 589 = .ok (.iaload, 1) := by decide +kernel
theorem dL_law_590 : decode cL_law 590 = .ok (.invokevirtual 67, 3) := by decide +kernel
theorem wl_L_67 : Cond.methodLink RL 67 yX12_truth ∈ TB := tbm (tq6 (List.mem_of_getElem? (i := 154) (by decide +kernel))) (by decide +kernel)
theorem wc_X12_truth : Cond.code yX12_truth cX12_truth 2 (some .int) ∈ TB := tbm (tq6 (List.mem_of_getElem? (i := 157) (rfl))) (by decide +kernel)
theorem wi_X12_truth : Cond.instanceMethod yX12_truth ∈ TB := tbm (tq6 (List.mem_of_getElem? (i := 155) (by decide +kernel))) (by decide +kernel)
theorem ws_X12_truth : Cond.selects RX12 yX12_truth yX12_truth ∈ TB := tbm (tq6 (List.mem_of_getElem? (i := 156) (by decide +kernel))) (by decide +kernel)
theorem mi_X12_truth : MI yX12_truth cX12_truth 2 (some .int) 1 := ⟨wc_X12_truth, wn_X12, ⟨by decide +kernel, by decide +kernel, by decide +kernel⟩, wi_X12_truth, ws_X12_truth⟩
theorem dL_law_593 : decode cL_law 593 = .ok (.if_icmp .eq 859, 3) := by decide +kernel
set_option maxRecDepth 100000 in
set_option maxHeartbeats 4000000 in
theorem lawc_truth {X : XT} {E : EV} {xs : Nat → Int32} (bb : Nat) (hx : Nat) (hm : Nat) (qn : Nat) (qp : Nat) (qs : Nat) (qj : Nat) (ql : Nat) (qh : Nat) (qk : Nat) (qr : Nat) (qg : Nat) (qsh : Nat) (jt : Nat) (je : Nat) (ju : Nat) (ja : Nat) (m_manys : Nat) (m_reals : Nat) (m_factsOf : Nat) (m_possible : Nat) (m_tape : Nat) (m_ends : Nat) (m_letters : Nat) (m_actOf : Nat) (m_whom : Nat) (m_actMany : Nat) (m_tokens : Nat) (m_afters : Nat) (m_afterOf : Nat) (m_pile : Nat) (m_caseMany : Nat) (m_happen : Nat) (m_hasIf : Nat) (m_becomes : Nat) (m_goneOf : Nat) (m_heard : Nat) (m_pairs : Nat) (m_heaps : Nat) (m_led : Nat) (m_newAt : Nat) (m_knowing : Nat) (m_firsts : Nat) (m_secrets : Nat) (m_tried : Nat) (m_lanes : Nat) (m_lengths : Nat) (m_cells : Nat) (C : CX X room_1 cL_law 4 RL ret E) (hs : SX X bb 6 xs)  (a0 : Int32) (a1 : Int32) (a2 : Int32) (a3 : Int32) (a4 : Int32) (a5 : Int32) (ea0 : xs 0 = a0) (ea1 : xs 1 = a1) (ea2 : xs 2 = a2) (ea3 : xs 3 = a3) (ea4 : xs 4 = a4) (ea5 : xs 5 = a5) (kk : WW X 4 E 1452 [(3, .int 0), (2, .ref hm), (1, .ref hx), (0, .ref bb)] [] [] 168 11526) : WW X 4 E 575 [(3, .int 0), (2, .ref hm), (1, .ref hx), (0, .ref bb)] [] [(hx, .inr (11, [.ref qn, .ref qp, .int 0, .int 0, .ref qs, .ref qj, .ref ql, .ref qh, .ref qk, .int 0, .ref qr, .ref qg, .int 0, .int 0, .ref qsh])), (qj, .inr (2, [.ref jt, .ref je, .ref ju, .ref ja])), (jt, .inl (E.2.1 7, 8, .inr (.inr (.inr (.inr (fun _ => none)))))), (hm, .inr (12, [.ref m_manys, .ref m_reals, .ref m_factsOf, .ref m_possible, .int 0, .int 0, .ref m_tape, .int 0, .int 0, .int 0, .int 0, .int 0, .int 0, .int 0, .int 0, .ref m_ends, .ref m_letters, .ref m_actOf, .ref m_whom, .ref m_actMany, .ref m_tokens, .ref m_afters, .ref m_afterOf, .int 0, .ref m_pile, .ref m_caseMany, .ref m_happen, .ref m_hasIf, .ref m_becomes, .ref m_goneOf, .ref m_heard, .ref m_pairs, .ref m_heaps, .int 0, .int 0, .ref m_led, .ref m_newAt, .ref m_knowing, .ref m_firsts, .int 0, .ref m_secrets, .ref m_tried, .ref m_lanes, .ref m_lengths, .ref m_cells])), (m_tokens, .inl (E.2.1 1, 9, .inl (fun _ => 0)))] 168 11526 := by
  refine ww_aload_n C dL_law_575 2 rfl rfl ?_
  refine ww_aload_n C dL_law_576 3 rfl rfl ?_
  refine ww_iload_n C dL_law_577 0 rfl rfl ?_
  refine ww_iconst (v := 1) C dL_law_578 rfl ?_
  refine ww_iadd (v := 1) C dL_law_579 (by decide) ?_
  refine ww_sld (v := a1) C hs (vin rfl) ea1 dL_law_580 ?_
  refine ww_ci (wr := [(hm, .inr (12, [.ref m_manys, .ref m_reals, .ref m_factsOf, .ref m_possible, .int 0, .int 0, .ref m_tape, .int 0, .int 0, .int 0, .int 0, .int 0, .int 0, .int 0, .int 0, .ref m_ends, .ref m_letters, .ref m_actOf, .ref m_whom, .ref m_actMany, .ref m_tokens, .ref m_afters, .ref m_afterOf, .int 0, .ref m_pile, .ref m_caseMany, .ref m_happen, .ref m_hasIf, .ref m_becomes, .ref m_goneOf, .ref m_heard, .ref m_pairs, .ref m_heaps, .int 0, .int 0, .ref m_led, .ref m_newAt, .ref m_knowing, .ref m_firsts, .int 0, .ref m_secrets, .ref m_tried, .ref m_lanes, .ref m_lengths, .ref m_cells])), (m_tokens, .inl (E.2.1 1, 9, .inl (fun _ => 0)))]) (k' := 168) (n' := 11526) C (run_V (As := [.int a1]) (rest := []) C (x_truth X.2.1 E hx a1 qn qp qs qj ql qh qk qr qg qsh jt je ju ja) mi_X11_truth wl_L_64 rfl 0 11 rfl rfl rfl rfl rfl dL_law_581) [0, 1, 2] [3, 4] rfl rfl rfl rfl (fun r u hw => ?_)
  obtain ⟨rfl, rfl⟩ := hw
  refine ww_eq (ws' := [(hm, .inr (12, [.ref m_manys, .ref m_reals, .ref m_factsOf, .ref m_possible, .int 0, .int 0, .ref m_tape, .int 0, .int 0, .int 0, .int 0, .int 0, .int 0, .int 0, .int 0, .ref m_ends, .ref m_letters, .ref m_actOf, .ref m_whom, .ref m_actMany, .ref m_tokens, .ref m_afters, .ref m_afterOf, .int 0, .ref m_pile, .ref m_caseMany, .ref m_happen, .ref m_hasIf, .ref m_becomes, .ref m_goneOf, .ref m_heard, .ref m_pairs, .ref m_heaps, .int 0, .int 0, .ref m_led, .ref m_newAt, .ref m_knowing, .ref m_firsts, .int 0, .ref m_secrets, .ref m_tried, .ref m_lanes, .ref m_lengths, .ref m_cells])), (m_tokens, .inl (E.2.1 1, 9, .inl (fun _ => 0)))]) ?_ rfl rfl rfl
  refine ww_aload_n C dL_law_584 1 rfl rfl ?_
  refine ww_aload_n C dL_law_585 3 rfl rfl ?_
  refine ww_iload_n C dL_law_586 0 rfl rfl ?_
  refine ww_iconst (v := 1) C dL_law_587 rfl ?_
  refine ww_iadd (v := 1) C dL_law_588 (by decide) ?_
  refine ww_sld (v := a1) C hs (vin rfl) ea1 dL_law_589 ?_
  refine ww_ci (wr := []) (k' := 168) (n' := 11526) C (run_V (As := [.int a1]) (rest := [.int (-1)]) C (y_truth X.2.1 E hm a1 m_manys m_reals m_factsOf m_possible m_tape m_ends m_letters m_actOf m_whom m_actMany m_tokens m_afters m_afterOf m_pile m_caseMany m_happen m_hasIf m_becomes m_goneOf m_heard m_pairs m_heaps m_led m_newAt m_knowing m_firsts m_secrets m_tried m_lanes m_lengths m_cells) mi_X12_truth wl_L_67 rfl 0 12 rfl rfl rfl rfl rfl dL_law_590) [0, 1] [] rfl rfl rfl rfl (fun r u hw => ?_)
  obtain ⟨rfl, rfl⟩ := hw
  refine ww_eq (ws' := []) ?_ rfl rfl rfl
  refine ww_icmp_eq_t (tgt := 1452) C dL_law_593 (by decide) (rfl) ?_
  exact ww_sub [] rfl rfl kk
theorem dL_law_598 : decode cL_law 598 = .ok (.aload_n 1, 1) := by decide +kernel
theorem dL_law_599 : decode cL_law 599 = .ok (.aload_n 0, 1) := by decide +kernel
theorem dL_law_600 : decode cL_law 600 = .ok (.iload_n 3, 1) := by decide +kernel
theorem dL_law_601 : decode cL_law 601 = .ok (.iconst 1, 1) := by decide +kernel
theorem dL_law_602 : decode cL_law 602 = .ok (.iadd, 1) := by decide +kernel
theorem dL_law_603 : decode cL_law 603 = .ok (.iaload, 1) := by decide +kernel
theorem dL_law_604 : decode cL_law 604 = .ok (.invokevirtual 68, 3) := by decide +kernel
theorem wl_L_68 : Cond.methodLink RL 68 yX11_holds ∈ TB := tbm (tq4 (List.mem_of_getElem? (i := 47) (by decide +kernel))) (by decide +kernel)
theorem wc_X11_holds : Cond.code yX11_holds cX11_holds 2 (some .int) ∈ TB := tbm (tq4 (List.mem_of_getElem? (i := 50) (rfl))) (by decide +kernel)
theorem wi_X11_holds : Cond.instanceMethod yX11_holds ∈ TB := tbm (tq4 (List.mem_of_getElem? (i := 48) (by decide +kernel))) (by decide +kernel)
theorem ws_X11_holds : Cond.selects RX11 yX11_holds yX11_holds ∈ TB := tbm (tq4 (List.mem_of_getElem? (i := 49) (by decide +kernel))) (by decide +kernel)
theorem mi_X11_holds : MI yX11_holds cX11_holds 2 (some .int) 1 := ⟨wc_X11_holds, wn_X11, ⟨by decide +kernel, by decide +kernel, by decide +kernel⟩, wi_X11_holds, ws_X11_holds⟩
theorem dL_law_607 : decode cL_law 607 = .ok (.aload_n 2, 1) := by decide +kernel
theorem dL_law_608 : decode cL_law 608 = .ok (.aload_n 0, 1) := by decide +kernel
theorem dL_law_609 : decode cL_law 609 = .ok (.iload_n 3, 1) := by decide +kernel
theorem dL_law_610 : decode cL_law 610 = .ok (.iconst 1, 1) := by decide +kernel
theorem dL_law_611 : decode cL_law 611 = .ok (.iadd, 1) := by decide +kernel
theorem dL_law_612 : decode cL_law 612 = .ok (.iaload, 1) := by decide +kernel
theorem dL_law_613 : decode cL_law 613 = .ok (.invokevirtual 71, 3) := by decide +kernel
theorem wl_L_71 : Cond.methodLink RL 71 yX12_holds ∈ TB := tbm (tq6 (List.mem_of_getElem? (i := 189) (by decide +kernel))) (by decide +kernel)
theorem wc_X12_holds : Cond.code yX12_holds cX12_holds 2 (some .int) ∈ TB := tbm (tq6 (List.mem_of_getElem? (i := 192) (rfl))) (by decide +kernel)
theorem wi_X12_holds : Cond.instanceMethod yX12_holds ∈ TB := tbm (tq6 (List.mem_of_getElem? (i := 190) (by decide +kernel))) (by decide +kernel)
theorem ws_X12_holds : Cond.selects RX12 yX12_holds yX12_holds ∈ TB := tbm (tq6 (List.mem_of_getElem? (i := 191) (by decide +kernel))) (by decide +kernel)
theorem mi_X12_holds : MI yX12_holds cX12_holds 2 (some .int) 1 := ⟨wc_X12_holds, wn_X12, ⟨by decide +kernel, by decide +kernel, by decide +kernel⟩, wi_X12_holds, ws_X12_holds⟩
theorem dL_law_616 : decode cL_law 616 = .ok (.if_icmp .eq 836, 3) := by decide +kernel
set_option maxRecDepth 100000 in
set_option maxHeartbeats 4000000 in
theorem lawc_holds {X : XT} {E : EV} {xs : Nat → Int32} (bb : Nat) (hx : Nat) (hm : Nat) (qn : Nat) (qp : Nat) (qs : Nat) (qj : Nat) (ql : Nat) (qh : Nat) (qk : Nat) (qr : Nat) (qg : Nat) (qsh : Nat) (jt : Nat) (je : Nat) (ju : Nat) (ja : Nat) (m_manys : Nat) (m_reals : Nat) (m_factsOf : Nat) (m_possible : Nat) (m_tape : Nat) (m_ends : Nat) (m_letters : Nat) (m_actOf : Nat) (m_whom : Nat) (m_actMany : Nat) (m_tokens : Nat) (m_afters : Nat) (m_afterOf : Nat) (m_pile : Nat) (m_caseMany : Nat) (m_happen : Nat) (m_hasIf : Nat) (m_becomes : Nat) (m_goneOf : Nat) (m_heard : Nat) (m_pairs : Nat) (m_heaps : Nat) (m_led : Nat) (m_newAt : Nat) (m_knowing : Nat) (m_firsts : Nat) (m_secrets : Nat) (m_tried : Nat) (m_lanes : Nat) (m_lengths : Nat) (m_cells : Nat) (C : CX X room_1 cL_law 4 RL ret E) (hs : SX X bb 6 xs)  (a0 : Int32) (a1 : Int32) (a2 : Int32) (a3 : Int32) (a4 : Int32) (a5 : Int32) (ea0 : xs 0 = a0) (ea1 : xs 1 = a1) (ea2 : xs 2 = a2) (ea3 : xs 3 = a3) (ea4 : xs 4 = a4) (ea5 : xs 5 = a5) (kk : WW X 4 E 1452 [(3, .int 0), (2, .ref hm), (1, .ref hx), (0, .ref bb)] [] [] 168 11526) : WW X 4 E 598 [(3, .int 0), (2, .ref hm), (1, .ref hx), (0, .ref bb)] [] [(hx, .inr (11, [.ref qn, .ref qp, .int 0, .int 0, .ref qs, .ref qj, .ref ql, .ref qh, .ref qk, .int 0, .ref qr, .ref qg, .int 0, .int 0, .ref qsh])), (qj, .inr (2, [.ref jt, .ref je, .ref ju, .ref ja])), (jt, .inl (E.2.1 7, 8, .inr (.inr (.inr (.inr (fun _ => none)))))), (hm, .inr (12, [.ref m_manys, .ref m_reals, .ref m_factsOf, .ref m_possible, .int 0, .int 0, .ref m_tape, .int 0, .int 0, .int 0, .int 0, .int 0, .int 0, .int 0, .int 0, .ref m_ends, .ref m_letters, .ref m_actOf, .ref m_whom, .ref m_actMany, .ref m_tokens, .ref m_afters, .ref m_afterOf, .int 0, .ref m_pile, .ref m_caseMany, .ref m_happen, .ref m_hasIf, .ref m_becomes, .ref m_goneOf, .ref m_heard, .ref m_pairs, .ref m_heaps, .int 0, .int 0, .ref m_led, .ref m_newAt, .ref m_knowing, .ref m_firsts, .int 0, .ref m_secrets, .ref m_tried, .ref m_lanes, .ref m_lengths, .ref m_cells])), (m_tokens, .inl (E.2.1 1, 9, .inl (fun _ => 0)))] 168 11526 := by
  refine ww_aload_n C dL_law_598 2 rfl rfl ?_
  refine ww_aload_n C dL_law_599 3 rfl rfl ?_
  refine ww_iload_n C dL_law_600 0 rfl rfl ?_
  refine ww_iconst (v := 1) C dL_law_601 rfl ?_
  refine ww_iadd (v := 1) C dL_law_602 (by decide) ?_
  refine ww_sld (v := a1) C hs (vin rfl) ea1 dL_law_603 ?_
  refine ww_ci (wr := [(hm, .inr (12, [.ref m_manys, .ref m_reals, .ref m_factsOf, .ref m_possible, .int 0, .int 0, .ref m_tape, .int 0, .int 0, .int 0, .int 0, .int 0, .int 0, .int 0, .int 0, .ref m_ends, .ref m_letters, .ref m_actOf, .ref m_whom, .ref m_actMany, .ref m_tokens, .ref m_afters, .ref m_afterOf, .int 0, .ref m_pile, .ref m_caseMany, .ref m_happen, .ref m_hasIf, .ref m_becomes, .ref m_goneOf, .ref m_heard, .ref m_pairs, .ref m_heaps, .int 0, .int 0, .ref m_led, .ref m_newAt, .ref m_knowing, .ref m_firsts, .int 0, .ref m_secrets, .ref m_tried, .ref m_lanes, .ref m_lengths, .ref m_cells])), (m_tokens, .inl (E.2.1 1, 9, .inl (fun _ => 0)))]) (k' := 168) (n' := 11526) C (run_V (As := [.int a1]) (rest := []) C (x_holds X.2.1 E hx a1 qn qp qs qj ql qh qk qr qg qsh jt je ju ja) mi_X11_holds wl_L_68 rfl 0 11 rfl rfl rfl rfl rfl dL_law_604) [0, 1, 2] [3, 4] rfl rfl rfl rfl (fun r u hw => ?_)
  obtain ⟨rfl, rfl⟩ := hw
  refine ww_eq (ws' := [(hm, .inr (12, [.ref m_manys, .ref m_reals, .ref m_factsOf, .ref m_possible, .int 0, .int 0, .ref m_tape, .int 0, .int 0, .int 0, .int 0, .int 0, .int 0, .int 0, .int 0, .ref m_ends, .ref m_letters, .ref m_actOf, .ref m_whom, .ref m_actMany, .ref m_tokens, .ref m_afters, .ref m_afterOf, .int 0, .ref m_pile, .ref m_caseMany, .ref m_happen, .ref m_hasIf, .ref m_becomes, .ref m_goneOf, .ref m_heard, .ref m_pairs, .ref m_heaps, .int 0, .int 0, .ref m_led, .ref m_newAt, .ref m_knowing, .ref m_firsts, .int 0, .ref m_secrets, .ref m_tried, .ref m_lanes, .ref m_lengths, .ref m_cells])), (m_tokens, .inl (E.2.1 1, 9, .inl (fun _ => 0)))]) ?_ rfl rfl rfl
  refine ww_aload_n C dL_law_607 1 rfl rfl ?_
  refine ww_aload_n C dL_law_608 3 rfl rfl ?_
  refine ww_iload_n C dL_law_609 0 rfl rfl ?_
  refine ww_iconst (v := 1) C dL_law_610 rfl ?_
  refine ww_iadd (v := 1) C dL_law_611 (by decide) ?_
  refine ww_sld (v := a1) C hs (vin rfl) ea1 dL_law_612 ?_
  refine ww_ci (wr := []) (k' := 168) (n' := 11526) C (run_V (As := [.int a1]) (rest := [.int (-1)]) C (y_holds X.2.1 E hm a1 m_manys m_reals m_factsOf m_possible m_tape m_ends m_letters m_actOf m_whom m_actMany m_tokens m_afters m_afterOf m_pile m_caseMany m_happen m_hasIf m_becomes m_goneOf m_heard m_pairs m_heaps m_led m_newAt m_knowing m_firsts m_secrets m_tried m_lanes m_lengths m_cells) mi_X12_holds wl_L_71 rfl 0 12 rfl rfl rfl rfl rfl dL_law_613) [0, 1] [] rfl rfl rfl rfl (fun r u hw => ?_)
  obtain ⟨rfl, rfl⟩ := hw
  refine ww_eq (ws' := []) ?_ rfl rfl rfl
  refine ww_icmp_eq_t (tgt := 1452) C dL_law_616 (by decide) (rfl) ?_
  exact ww_sub [] rfl rfl kk
