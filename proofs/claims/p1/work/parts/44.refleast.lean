theorem dX12_layHeaps_0 : decode cX12_layHeaps 0 = .ok (.aload_n 0, 1) := by decide +kernel
theorem dX12_layHeaps_1 : decode cX12_layHeaps 1 = .ok (.aload_n 0, 1) := by decide +kernel
theorem dX12_layHeaps_2 : decode cX12_layHeaps 2 = .ok (.getfield 7, 3) := by decide +kernel
theorem dX12_layHeaps_5 : decode cX12_layHeaps 5 = .ok (.iload_n 1, 1) := by decide +kernel
theorem dX12_layHeaps_6 : decode cX12_layHeaps 6 = .ok (.iaload, 1) := by decide +kernel
theorem dX12_layHeaps_7 : decode cX12_layHeaps 7 = .ok (.iload_n 2, 1) := by decide +kernel
theorem dX12_layHeaps_8 : decode cX12_layHeaps 8 = .ok (.bipush (-4), 2) := by decide +kernel
theorem dX12_layHeaps_10 : decode cX12_layHeaps 10 = .ok (.if_icmp .ne 7, 3) := by decide +kernel
theorem dX12_layHeaps_13 : decode cX12_layHeaps 13 = .ok (.iconst 0, 1) := by decide +kernel
theorem dX12_layHeaps_14 : decode cX12_layHeaps 14 = .ok (.goto 9, 3) := by decide +kernel
theorem dX12_layHeaps_23 : decode cX12_layHeaps 23 = .ok (.iadd, 1) := by decide +kernel
theorem dX12_layHeaps_24 : decode cX12_layHeaps 24 = .ok (.putfield 282, 3) := by decide +kernel
theorem wf_X12_282 : Cond.fieldLink RX12 282 RX12 "heapMany" "I" ∈ TB := tbm (tq5 (List.mem_of_getElem? (i := 112) (by decide +kernel))) (by decide +kernel)
theorem fp_X12_282 : FP RX12 282 12 34 .int false := ⟨RX12, TX12, 45, tyX12, uw_X12, wf_X12_282, rfl, by decide, rfl, tyX12_ok, nmX12, rfl, by decide +kernel⟩
theorem dX12_layHeaps_27 : decode cX12_layHeaps 27 = .ok (.iconst 0, 1) := by decide +kernel
theorem dX12_layHeaps_28 : decode cX12_layHeaps 28 = .ok (.istore_n 3, 1) := by decide +kernel
theorem dX12_layHeaps_29 : decode cX12_layHeaps 29 = .ok (.iload_n 3, 1) := by decide +kernel
theorem dX12_layHeaps_30 : decode cX12_layHeaps 30 = .ok (.aload_n 0, 1) := by decide +kernel
theorem dX12_layHeaps_31 : decode cX12_layHeaps 31 = .ok (.getfield 282, 3) := by decide +kernel
theorem fg_X12_282 : FG RX12 282 12 34 := ⟨RX12, TX12, 45, uw_X12, wf_X12_282, rfl, by decide, rfl⟩
theorem dX12_layHeaps_34 : decode cX12_layHeaps 34 = .ok (.if_icmp .ge 44, 3) := by decide +kernel
theorem dX12_layHeaps_78 : decode cX12_layHeaps 78 = .ok (.aload_n 0, 1) := by decide +kernel
theorem dX12_layHeaps_79 : decode cX12_layHeaps 79 = .ok (.iconst 0, 1) := by decide +kernel
theorem dX12_layHeaps_80 : decode cX12_layHeaps 80 = .ok (.putfield 288, 3) := by decide +kernel
theorem wf_X12_288 : Cond.fieldLink RX12 288 RX12 "rounds" "I" ∈ TB := tbm (tq5 (List.mem_of_getElem? (i := 111) (by decide +kernel))) (by decide +kernel)
theorem fp_X12_288 : FP RX12 288 12 33 .int false := ⟨RX12, TX12, 45, tyX12, uw_X12, wf_X12_288, rfl, by decide, rfl, tyX12_ok, nmX12, rfl, by decide +kernel⟩
theorem dX12_layHeaps_83 : decode cX12_layHeaps 83 = .ok (.iconst 1, 1) := by decide +kernel
theorem dX12_layHeaps_84 : decode cX12_layHeaps 84 = .ok (.istore_n 3, 1) := by decide +kernel
theorem dX12_layHeaps_85 : decode cX12_layHeaps 85 = .ok (.iload_n 3, 1) := by decide +kernel
theorem dX12_layHeaps_86 : decode cX12_layHeaps 86 = .ok (.ifCond .eq 164, 3) := by decide +kernel
theorem dX12_layHeaps_89 : decode cX12_layHeaps 89 = .ok (.iconst 0, 1) := by decide +kernel
theorem dX12_layHeaps_90 : decode cX12_layHeaps 90 = .ok (.istore_n 3, 1) := by decide +kernel
theorem dX12_layHeaps_91 : decode cX12_layHeaps 91 = .ok (.iconst 0, 1) := by decide +kernel
theorem dX12_layHeaps_92 : decode cX12_layHeaps 92 = .ok (.istore 4, 2) := by decide +kernel
theorem dX12_layHeaps_94 : decode cX12_layHeaps 94 = .ok (.iload 4, 2) := by decide +kernel
theorem dX12_layHeaps_96 : decode cX12_layHeaps 96 = .ok (.aload_n 0, 1) := by decide +kernel
theorem dX12_layHeaps_97 : decode cX12_layHeaps 97 = .ok (.getfield 282, 3) := by decide +kernel
theorem dX12_layHeaps_100 : decode cX12_layHeaps 100 = .ok (.if_icmp .ge 50, 3) := by decide +kernel
theorem dX12_layHeaps_150 : decode cX12_layHeaps 150 = .ok (.iconst 0, 1) := by decide +kernel
theorem dX12_layHeaps_151 : decode cX12_layHeaps 151 = .ok (.istore 4, 2) := by decide +kernel
theorem dX12_layHeaps_153 : decode cX12_layHeaps 153 = .ok (.iload 4, 2) := by decide +kernel
theorem dX12_layHeaps_155 : decode cX12_layHeaps 155 = .ok (.aload_n 0, 1) := by decide +kernel
theorem dX12_layHeaps_156 : decode cX12_layHeaps 156 = .ok (.getfield 282, 3) := by decide +kernel
theorem dX12_layHeaps_159 : decode cX12_layHeaps 159 = .ok (.if_icmp .ge 78, 3) := by decide +kernel
theorem dX12_layHeaps_237 : decode cX12_layHeaps 237 = .ok (.aload_n 0, 1) := by decide +kernel
theorem dX12_layHeaps_238 : decode cX12_layHeaps 238 = .ok (.dup, 1) := by decide +kernel
theorem dX12_layHeaps_239 : decode cX12_layHeaps 239 = .ok (.getfield 288, 3) := by decide +kernel
theorem fg_X12_288 : FG RX12 288 12 33 := ⟨RX12, TX12, 45, uw_X12, wf_X12_288, rfl, by decide, rfl⟩
theorem dX12_layHeaps_242 : decode cX12_layHeaps 242 = .ok (.iconst 1, 1) := by decide +kernel
theorem dX12_layHeaps_243 : decode cX12_layHeaps 243 = .ok (.iadd, 1) := by decide +kernel
theorem dX12_layHeaps_244 : decode cX12_layHeaps 244 = .ok (.putfield 288, 3) := by decide +kernel
theorem dX12_layHeaps_247 : decode cX12_layHeaps 247 = .ok (.goto (-162), 3) := by decide +kernel
theorem dX12_layHeaps_250 : decode cX12_layHeaps 250 = .ok (.return_, 1) := by decide +kernel
set_option maxRecDepth 100000 in
set_option maxHeartbeats 4000000 in
theorem r_layHeaps (l : Launch) (E : EV) (hm : Nat) (m_manys : Nat) (m_reals : Nat) (m_factsOf : Nat) (m_possible : Nat) (m_tape : Nat) (m_ends : Nat) (m_letters : Nat) (m_actOf : Nat) (m_whom : Nat) (m_actMany : Nat) (m_tokens : Nat) (m_afters : Nat) (m_afterOf : Nat) (m_pile : Nat) (m_caseMany : Nat) (m_happen : Nat) (m_hasIf : Nat) (m_becomes : Nat) (m_goneOf : Nat) (m_heard : Nat) (m_pairs : Nat) (m_heaps : Nat) (m_led : Nat) (m_newAt : Nat) (m_knowing : Nat) (m_firsts : Nat) (m_secrets : Nat) (m_tried : Nat) (m_lanes : Nat) (m_lengths : Nat) (m_cells : Nat)  : CT l yX12_layHeaps (Cond.code yX12_layHeaps cX12_layHeaps 6 none :: TB) ({ frames := 0, cells := 0, slots := 0, locals := 0 }) E [.ref hm, .int 0, .int (-4)] [(hm, .inr (12, [.ref m_manys, .ref m_reals, .ref m_factsOf, .ref m_possible, .int 0, .int 0, .ref m_tape, .int 0, .int 0, .int 0, .int 0, .int 0, .int 0, .int 0, .int 0, .ref m_ends, .ref m_letters, .ref m_actOf, .ref m_whom, .ref m_actMany, .ref m_tokens, .ref m_afters, .ref m_afterOf, .int 0, .ref m_pile, .ref m_caseMany, .ref m_happen, .ref m_hasIf, .ref m_becomes, .ref m_goneOf, .ref m_heard, .ref m_pairs, .ref m_heaps, .int 0, .int 0, .ref m_led, .ref m_newAt, .ref m_knowing, .ref m_firsts, .int 0, .ref m_secrets, .ref m_tried, .ref m_lanes, .ref m_lengths, .ref m_cells])), (m_manys, .inl (E.2.1 1, 18, .inl (fun _ => 0)))] (Qv E (fun u => (u = [(hm, .inr (12, [.ref m_manys, .ref m_reals, .ref m_factsOf, .ref m_possible, .int 0, .int 0, .ref m_tape, .int 0, .int 0, .int 0, .int 0, .int 0, .int 0, .int 0, .int 0, .ref m_ends, .ref m_letters, .ref m_actOf, .ref m_whom, .ref m_actMany, .ref m_tokens, .ref m_afters, .ref m_afterOf, .int 0, .ref m_pile, .ref m_caseMany, .ref m_happen, .ref m_hasIf, .ref m_becomes, .ref m_goneOf, .ref m_heard, .ref m_pairs, .ref m_heaps, .int 1, .int 0, .ref m_led, .ref m_newAt, .ref m_knowing, .ref m_firsts, .int 0, .ref m_secrets, .ref m_tried, .ref m_lanes, .ref m_lengths, .ref m_cells]))]))) 0 0 := by
  refine ct_of rfl rfl ?_
  intro X C hT hin
  show WW X 6 E 0 [(0, .ref hm), (1, .int 0), (2, .int (-4))] [] [(hm, .inr (12, [.ref m_manys, .ref m_reals, .ref m_factsOf, .ref m_possible, .int 0, .int 0, .ref m_tape, .int 0, .int 0, .int 0, .int 0, .int 0, .int 0, .int 0, .int 0, .ref m_ends, .ref m_letters, .ref m_actOf, .ref m_whom, .ref m_actMany, .ref m_tokens, .ref m_afters, .ref m_afterOf, .int 0, .ref m_pile, .ref m_caseMany, .ref m_happen, .ref m_hasIf, .ref m_becomes, .ref m_goneOf, .ref m_heard, .ref m_pairs, .ref m_heaps, .int 0, .int 0, .ref m_led, .ref m_newAt, .ref m_knowing, .ref m_firsts, .int 0, .ref m_secrets, .ref m_tried, .ref m_lanes, .ref m_lengths, .ref m_cells])), (m_manys, .inl (E.2.1 1, 18, .inl (fun _ => 0)))] 0 0
  refine ww_aload_n C dX12_layHeaps_0 0 rfl rfl ?_
  refine ww_aload_n C dX12_layHeaps_1 0 rfl rfl ?_
  refine ww_get C fg_X12_7 0 rfl rfl dX12_layHeaps_2 ?_
  refine ww_iload_n C dX12_layHeaps_5 1 rfl rfl ?_
  refine ww_iald (v := 0) C 1 rfl (vin rfl) rfl dX12_layHeaps_6 ?_
  refine ww_iload_n C dX12_layHeaps_7 2 rfl rfl ?_
  refine ww_bipush (v := (-4)) C dX12_layHeaps_8 rfl ?_
  refine ww_icmp_ne_f (tgt := 17) C dX12_layHeaps_10 (by decide) (rfl) ?_
  refine ww_iconst (v := 0) C dX12_layHeaps_13 rfl ?_
  refine ww_goto (tgt := 23) C dX12_layHeaps_14 (by decide) ?_
  refine ww_iadd (v := 0) C dX12_layHeaps_23 (by decide) ?_
  refine ww_put (ws' := [(hm, .inr (12, [.ref m_manys, .ref m_reals, .ref m_factsOf, .ref m_possible, .int 0, .int 0, .ref m_tape, .int 0, .int 0, .int 0, .int 0, .int 0, .int 0, .int 0, .int 0, .ref m_ends, .ref m_letters, .ref m_actOf, .ref m_whom, .ref m_actMany, .ref m_tokens, .ref m_afters, .ref m_afterOf, .int 0, .ref m_pile, .ref m_caseMany, .ref m_happen, .ref m_hasIf, .ref m_becomes, .ref m_goneOf, .ref m_heard, .ref m_pairs, .ref m_heaps, .int 0, .int 0, .ref m_led, .ref m_newAt, .ref m_knowing, .ref m_firsts, .int 0, .ref m_secrets, .ref m_tried, .ref m_lanes, .ref m_lengths, .ref m_cells])), (m_manys, .inl (E.2.1 1, 18, .inl (fun _ => 0)))]) C fp_X12_282 0 rfl rfl rfl rfl rfl dX12_layHeaps_24 ?_
  refine ww_iconst (v := 0) C dX12_layHeaps_27 rfl ?_
  refine ww_istore_n (lv' := [(3, .int 0), (0, .ref hm), (1, .int 0), (2, .int (-4))]) C dX12_layHeaps_28 rfl rfl rfl ?_
  refine ww_iload_n C dX12_layHeaps_29 0 rfl rfl ?_
  refine ww_aload_n C dX12_layHeaps_30 1 rfl rfl ?_
  refine ww_get C fg_X12_282 0 rfl rfl dX12_layHeaps_31 ?_
  refine ww_icmp_ge_t (tgt := 78) C dX12_layHeaps_34 (by decide) (by decide) ?_
  refine ww_aload_n C dX12_layHeaps_78 1 rfl rfl ?_
  refine ww_iconst (v := 0) C dX12_layHeaps_79 rfl ?_
  refine ww_put (ws' := [(hm, .inr (12, [.ref m_manys, .ref m_reals, .ref m_factsOf, .ref m_possible, .int 0, .int 0, .ref m_tape, .int 0, .int 0, .int 0, .int 0, .int 0, .int 0, .int 0, .int 0, .ref m_ends, .ref m_letters, .ref m_actOf, .ref m_whom, .ref m_actMany, .ref m_tokens, .ref m_afters, .ref m_afterOf, .int 0, .ref m_pile, .ref m_caseMany, .ref m_happen, .ref m_hasIf, .ref m_becomes, .ref m_goneOf, .ref m_heard, .ref m_pairs, .ref m_heaps, .int 0, .int 0, .ref m_led, .ref m_newAt, .ref m_knowing, .ref m_firsts, .int 0, .ref m_secrets, .ref m_tried, .ref m_lanes, .ref m_lengths, .ref m_cells])), (m_manys, .inl (E.2.1 1, 18, .inl (fun _ => 0)))]) C fp_X12_288 0 rfl rfl rfl rfl rfl dX12_layHeaps_80 ?_
  refine ww_iconst (v := 1) C dX12_layHeaps_83 rfl ?_
  refine ww_istore_n (lv' := [(3, .int 1), (0, .ref hm), (1, .int 0), (2, .int (-4))]) C dX12_layHeaps_84 rfl rfl rfl ?_
  refine ww_iload_n C dX12_layHeaps_85 0 rfl rfl ?_
  refine ww_if_eq_f (tgt := 250) C dX12_layHeaps_86 (by decide) (by decide) ?_
  refine ww_iconst (v := 0) C dX12_layHeaps_89 rfl ?_
  refine ww_istore_n (lv' := [(3, .int 0), (0, .ref hm), (1, .int 0), (2, .int (-4))]) C dX12_layHeaps_90 rfl rfl rfl ?_
  refine ww_iconst (v := 0) C dX12_layHeaps_91 rfl ?_
  refine ww_istore (lv' := [(4, .int 0), (3, .int 0), (0, .ref hm), (1, .int 0), (2, .int (-4))]) C dX12_layHeaps_92 rfl rfl ?_
  refine ww_iload C dX12_layHeaps_94 0 rfl ?_
  refine ww_aload_n C dX12_layHeaps_96 2 rfl rfl ?_
  refine ww_get C fg_X12_282 0 rfl rfl dX12_layHeaps_97 ?_
  refine ww_icmp_ge_t (tgt := 150) C dX12_layHeaps_100 (by decide) (by decide) ?_
  refine ww_iconst (v := 0) C dX12_layHeaps_150 rfl ?_
  refine ww_istore (lv' := [(4, .int 0), (3, .int 0), (0, .ref hm), (1, .int 0), (2, .int (-4))]) C dX12_layHeaps_151 rfl rfl ?_
  refine ww_iload C dX12_layHeaps_153 0 rfl ?_
  refine ww_aload_n C dX12_layHeaps_155 2 rfl rfl ?_
  refine ww_get C fg_X12_282 0 rfl rfl dX12_layHeaps_156 ?_
  refine ww_icmp_ge_t (tgt := 237) C dX12_layHeaps_159 (by decide) (by decide) ?_
  refine ww_aload_n C dX12_layHeaps_237 2 rfl rfl ?_
  refine ww_dup C dX12_layHeaps_238 rfl ?_
  refine ww_get C fg_X12_288 0 rfl rfl dX12_layHeaps_239 ?_
  refine ww_iconst (v := 1) C dX12_layHeaps_242 rfl ?_
  refine ww_iadd (v := 1) C dX12_layHeaps_243 (by decide) ?_
  refine ww_put (ws' := [(hm, .inr (12, [.ref m_manys, .ref m_reals, .ref m_factsOf, .ref m_possible, .int 0, .int 0, .ref m_tape, .int 0, .int 0, .int 0, .int 0, .int 0, .int 0, .int 0, .int 0, .ref m_ends, .ref m_letters, .ref m_actOf, .ref m_whom, .ref m_actMany, .ref m_tokens, .ref m_afters, .ref m_afterOf, .int 0, .ref m_pile, .ref m_caseMany, .ref m_happen, .ref m_hasIf, .ref m_becomes, .ref m_goneOf, .ref m_heard, .ref m_pairs, .ref m_heaps, .int 1, .int 0, .ref m_led, .ref m_newAt, .ref m_knowing, .ref m_firsts, .int 0, .ref m_secrets, .ref m_tried, .ref m_lanes, .ref m_lengths, .ref m_cells])), (m_manys, .inl (E.2.1 1, 18, .inl (fun _ => 0)))]) C fp_X12_288 0 rfl rfl rfl rfl rfl dX12_layHeaps_244 ?_
  refine ww_goto (tgt := 85) C dX12_layHeaps_247 (by decide) ?_
  refine ww_iload_n C dX12_layHeaps_85 1 rfl rfl ?_
  refine ww_if_eq_t (tgt := 250) C dX12_layHeaps_86 (by decide) (rfl) ?_
  exact ww_vret (u := [(hm, .inr (12, [.ref m_manys, .ref m_reals, .ref m_factsOf, .ref m_possible, .int 0, .int 0, .ref m_tape, .int 0, .int 0, .int 0, .int 0, .int 0, .int 0, .int 0, .int 0, .ref m_ends, .ref m_letters, .ref m_actOf, .ref m_whom, .ref m_actMany, .ref m_tokens, .ref m_afters, .ref m_afterOf, .int 0, .ref m_pile, .ref m_caseMany, .ref m_happen, .ref m_hasIf, .ref m_becomes, .ref m_goneOf, .ref m_heard, .ref m_pairs, .ref m_heaps, .int 1, .int 0, .ref m_led, .ref m_newAt, .ref m_knowing, .ref m_firsts, .int 0, .ref m_secrets, .ref m_tried, .ref m_lanes, .ref m_lengths, .ref m_cells]))]) C hT [0] rfl rfl rfl rfl dX12_layHeaps_250 (rfl)
theorem dX12_classes_0 : decode cX12_classes 0 = .ok (.aload_n 0, 1) := by decide +kernel
theorem dX12_classes_1 : decode cX12_classes 1 = .ok (.iconst 0, 1) := by decide +kernel
theorem dX12_classes_2 : decode cX12_classes 2 = .ok (.bipush (-4), 2) := by decide +kernel
theorem dX12_classes_4 : decode cX12_classes 4 = .ok (.invokevirtual 298, 3) := by decide +kernel
theorem wl_X12_298 : Cond.methodLink RX12 298 yX12_layHeaps ∈ TB := tbm (tq6 (List.mem_of_getElem? (i := 209) (by decide +kernel))) (by decide +kernel)
theorem wc_X12_layHeaps : Cond.code yX12_layHeaps cX12_layHeaps 6 none ∈ TB := tbm (tq6 (List.mem_of_getElem? (i := 212) (rfl))) (by decide +kernel)
theorem wi_X12_layHeaps : Cond.instanceMethod yX12_layHeaps ∈ TB := tbm (tq6 (List.mem_of_getElem? (i := 211) (by decide +kernel))) (by decide +kernel)
theorem ws_X12_layHeaps : Cond.selects RX12 yX12_layHeaps yX12_layHeaps ∈ TB := tbm (tq0 (List.mem_of_getElem? (i := 68) (by decide +kernel))) (by decide +kernel)
theorem mi_X12_layHeaps : MI yX12_layHeaps cX12_layHeaps 6 none 2 := ⟨wc_X12_layHeaps, wn_X12, ⟨by decide +kernel, by decide +kernel, by decide +kernel⟩, wi_X12_layHeaps, ws_X12_layHeaps⟩
theorem dX12_classes_7 : decode cX12_classes 7 = .ok (.iconst 0, 1) := by decide +kernel
theorem dX12_classes_8 : decode cX12_classes 8 = .ok (.istore_n 1, 1) := by decide +kernel
theorem dX12_classes_9 : decode cX12_classes 9 = .ok (.iconst 0, 1) := by decide +kernel
theorem dX12_classes_10 : decode cX12_classes 10 = .ok (.istore_n 2, 1) := by decide +kernel
theorem dX12_classes_11 : decode cX12_classes 11 = .ok (.iload_n 2, 1) := by decide +kernel
theorem dX12_classes_12 : decode cX12_classes 12 = .ok (.aload_n 0, 1) := by decide +kernel
theorem dX12_classes_13 : decode cX12_classes 13 = .ok (.getfield 282, 3) := by decide +kernel
theorem dX12_classes_16 : decode cX12_classes 16 = .ok (.if_icmp .ge 26, 3) := by decide +kernel
theorem dX12_classes_42 : decode cX12_classes 42 = .ok (.iload_n 1, 1) := by decide +kernel
theorem dX12_classes_43 : decode cX12_classes 43 = .ok (.ireturn, 1) := by decide +kernel
set_option maxRecDepth 100000 in
set_option maxHeartbeats 4000000 in
theorem y_classes (l : Launch) (E : EV) (hm : Nat) (m_manys : Nat) (m_reals : Nat) (m_factsOf : Nat) (m_possible : Nat) (m_tape : Nat) (m_ends : Nat) (m_letters : Nat) (m_actOf : Nat) (m_whom : Nat) (m_actMany : Nat) (m_tokens : Nat) (m_afters : Nat) (m_afterOf : Nat) (m_pile : Nat) (m_caseMany : Nat) (m_happen : Nat) (m_hasIf : Nat) (m_becomes : Nat) (m_goneOf : Nat) (m_heard : Nat) (m_pairs : Nat) (m_heaps : Nat) (m_led : Nat) (m_newAt : Nat) (m_knowing : Nat) (m_firsts : Nat) (m_secrets : Nat) (m_tried : Nat) (m_lanes : Nat) (m_lengths : Nat) (m_cells : Nat)  : CT l yX12_classes (Cond.code yX12_classes cX12_classes 3 (some .int) :: TB) ({ frames := 1, cells := 0, slots := 0, locals := 25 }) E [.ref hm] [(hm, .inr (12, [.ref m_manys, .ref m_reals, .ref m_factsOf, .ref m_possible, .int 0, .int 0, .ref m_tape, .int 0, .int 0, .int 0, .int 0, .int 0, .int 0, .int 0, .int 0, .ref m_ends, .ref m_letters, .ref m_actOf, .ref m_whom, .ref m_actMany, .ref m_tokens, .ref m_afters, .ref m_afterOf, .int 0, .ref m_pile, .ref m_caseMany, .ref m_happen, .ref m_hasIf, .ref m_becomes, .ref m_goneOf, .ref m_heard, .ref m_pairs, .ref m_heaps, .int 0, .int 0, .ref m_led, .ref m_newAt, .ref m_knowing, .ref m_firsts, .int 0, .ref m_secrets, .ref m_tried, .ref m_lanes, .ref m_lengths, .ref m_cells])), (m_manys, .inl (E.2.1 1, 18, .inl (fun _ => 0)))] (Qi E (fun (r : Int32) u => (r = 0 ∧ u = []))) 0 0 := by
  refine ct_of rfl rfl ?_
  intro X C hT hin
  show WW X 3 E 0 [(0, .ref hm)] [] [(hm, .inr (12, [.ref m_manys, .ref m_reals, .ref m_factsOf, .ref m_possible, .int 0, .int 0, .ref m_tape, .int 0, .int 0, .int 0, .int 0, .int 0, .int 0, .int 0, .int 0, .ref m_ends, .ref m_letters, .ref m_actOf, .ref m_whom, .ref m_actMany, .ref m_tokens, .ref m_afters, .ref m_afterOf, .int 0, .ref m_pile, .ref m_caseMany, .ref m_happen, .ref m_hasIf, .ref m_becomes, .ref m_goneOf, .ref m_heard, .ref m_pairs, .ref m_heaps, .int 0, .int 0, .ref m_led, .ref m_newAt, .ref m_knowing, .ref m_firsts, .int 0, .ref m_secrets, .ref m_tried, .ref m_lanes, .ref m_lengths, .ref m_cells])), (m_manys, .inl (E.2.1 1, 18, .inl (fun _ => 0)))] 0 0
  refine ww_aload_n C dX12_classes_0 0 rfl rfl ?_
  refine ww_iconst (v := 0) C dX12_classes_1 rfl ?_
  refine ww_bipush (v := (-4)) C dX12_classes_2 rfl ?_
  refine ww_cv (wr := []) (k' := 0) (n' := 0) C (run_V (As := [.int 0, .int (-4)]) (rest := []) C (r_layHeaps X.2.1 E hm m_manys m_reals m_factsOf m_possible m_tape m_ends m_letters m_actOf m_whom m_actMany m_tokens m_afters m_afterOf m_pile m_caseMany m_happen m_hasIf m_becomes m_goneOf m_heard m_pairs m_heaps m_led m_newAt m_knowing m_firsts m_secrets m_tried m_lanes m_lengths m_cells) mi_X12_layHeaps wl_X12_298 rfl 0 12 rfl rfl rfl rfl rfl dX12_classes_4) [0, 1] [] rfl rfl rfl rfl (fun u hw => ?_)
  obtain ⟨rfl⟩ := hw
  refine ww_eq (ws' := [(hm, .inr (12, [.ref m_manys, .ref m_reals, .ref m_factsOf, .ref m_possible, .int 0, .int 0, .ref m_tape, .int 0, .int 0, .int 0, .int 0, .int 0, .int 0, .int 0, .int 0, .ref m_ends, .ref m_letters, .ref m_actOf, .ref m_whom, .ref m_actMany, .ref m_tokens, .ref m_afters, .ref m_afterOf, .int 0, .ref m_pile, .ref m_caseMany, .ref m_happen, .ref m_hasIf, .ref m_becomes, .ref m_goneOf, .ref m_heard, .ref m_pairs, .ref m_heaps, .int 1, .int 0, .ref m_led, .ref m_newAt, .ref m_knowing, .ref m_firsts, .int 0, .ref m_secrets, .ref m_tried, .ref m_lanes, .ref m_lengths, .ref m_cells]))]) ?_ rfl rfl rfl
  refine ww_iconst (v := 0) C dX12_classes_7 rfl ?_
  refine ww_istore_n (lv' := [(1, .int 0), (0, .ref hm)]) C dX12_classes_8 rfl rfl rfl ?_
  refine ww_iconst (v := 0) C dX12_classes_9 rfl ?_
  refine ww_istore_n (lv' := [(2, .int 0), (1, .int 0), (0, .ref hm)]) C dX12_classes_10 rfl rfl rfl ?_
  refine ww_iload_n C dX12_classes_11 0 rfl rfl ?_
  refine ww_aload_n C dX12_classes_12 2 rfl rfl ?_
  refine ww_get C fg_X12_282 0 rfl rfl dX12_classes_13 ?_
  refine ww_icmp_ge_t (tgt := 42) C dX12_classes_16 (by decide) (by decide) ?_
  refine ww_iload_n C dX12_classes_42 1 rfl rfl ?_
  exact ww_iret (u := []) C hT [] rfl rfl rfl rfl dX12_classes_43 (⟨rfl, rfl⟩)
theorem dX12_classOf_0 : decode cX12_classOf 0 = .ok (.aload_n 0, 1) := by decide +kernel
theorem dX12_classOf_1 : decode cX12_classOf 1 = .ok (.iload_n 1, 1) := by decide +kernel
theorem dX12_classOf_2 : decode cX12_classOf 2 = .ok (.invokevirtual 132, 3) := by decide +kernel
theorem dX12_classOf_5 : decode cX12_classOf 5 = .ok (.ifCond .ne 5, 3) := by decide +kernel
theorem dX12_classOf_8 : decode cX12_classOf 8 = .ok (.iconst (-1), 1) := by decide +kernel
theorem dX12_classOf_9 : decode cX12_classOf 9 = .ok (.ireturn, 1) := by decide +kernel
set_option maxRecDepth 100000 in
set_option maxHeartbeats 4000000 in
theorem y_classOf (l : Launch) (E : EV) (hm : Nat) (p0 : Int32) (m_manys : Nat) (m_reals : Nat) (m_factsOf : Nat) (m_possible : Nat) (m_tape : Nat) (m_ends : Nat) (m_letters : Nat) (m_actOf : Nat) (m_whom : Nat) (m_actMany : Nat) (m_tokens : Nat) (m_afters : Nat) (m_afterOf : Nat) (m_pile : Nat) (m_caseMany : Nat) (m_happen : Nat) (m_hasIf : Nat) (m_becomes : Nat) (m_goneOf : Nat) (m_heard : Nat) (m_pairs : Nat) (m_heaps : Nat) (m_led : Nat) (m_newAt : Nat) (m_knowing : Nat) (m_firsts : Nat) (m_secrets : Nat) (m_tried : Nat) (m_lanes : Nat) (m_lengths : Nat) (m_cells : Nat)  : CT l yX12_classOf (Cond.code yX12_classOf cX12_classOf 2 (some .int) :: TB) ({ frames := 2, cells := 0, slots := 0, locals := 46 }) E [.ref hm, .int p0] [(hm, .inr (12, [.ref m_manys, .ref m_reals, .ref m_factsOf, .ref m_possible, .int 0, .int 0, .ref m_tape, .int 0, .int 0, .int 0, .int 0, .int 0, .int 0, .int 0, .int 0, .ref m_ends, .ref m_letters, .ref m_actOf, .ref m_whom, .ref m_actMany, .ref m_tokens, .ref m_afters, .ref m_afterOf, .int 0, .ref m_pile, .ref m_caseMany, .ref m_happen, .ref m_hasIf, .ref m_becomes, .ref m_goneOf, .ref m_heard, .ref m_pairs, .ref m_heaps, .int 0, .int 0, .ref m_led, .ref m_newAt, .ref m_knowing, .ref m_firsts, .int 0, .ref m_secrets, .ref m_tried, .ref m_lanes, .ref m_lengths, .ref m_cells])), (m_manys, .inl (E.2.1 1, 18, .inl (fun _ => 0)))] (Qi E (fun (r : Int32) u => (r = (-1) ∧ u = []))) 0 0 := by
  refine ct_of rfl rfl ?_
  intro X C hT hin
  show WW X 2 E 0 [(0, .ref hm), (1, .int p0)] [] [(hm, .inr (12, [.ref m_manys, .ref m_reals, .ref m_factsOf, .ref m_possible, .int 0, .int 0, .ref m_tape, .int 0, .int 0, .int 0, .int 0, .int 0, .int 0, .int 0, .int 0, .ref m_ends, .ref m_letters, .ref m_actOf, .ref m_whom, .ref m_actMany, .ref m_tokens, .ref m_afters, .ref m_afterOf, .int 0, .ref m_pile, .ref m_caseMany, .ref m_happen, .ref m_hasIf, .ref m_becomes, .ref m_goneOf, .ref m_heard, .ref m_pairs, .ref m_heaps, .int 0, .int 0, .ref m_led, .ref m_newAt, .ref m_knowing, .ref m_firsts, .int 0, .ref m_secrets, .ref m_tried, .ref m_lanes, .ref m_lengths, .ref m_cells])), (m_manys, .inl (E.2.1 1, 18, .inl (fun _ => 0)))] 0 0
  refine ww_aload_n C dX12_classOf_0 0 rfl rfl ?_
  refine ww_iload_n C dX12_classOf_1 1 rfl rfl ?_
  refine ww_ci (wr := []) (k' := 0) (n' := 0) C (run_V (As := [.int p0]) (rest := []) C (r_isWorld X.2.1 E hm p0 m_manys m_reals m_factsOf m_possible m_tape m_ends m_letters m_actOf m_whom m_actMany m_tokens m_afters m_afterOf m_pile m_caseMany m_happen m_hasIf m_becomes m_goneOf m_heard m_pairs m_heaps m_led m_newAt m_knowing m_firsts m_secrets m_tried m_lanes m_lengths m_cells) mi_X12_isWorld wl_X12_132 rfl 0 12 rfl rfl rfl rfl rfl dX12_classOf_2) [0, 1] [] rfl rfl rfl rfl (fun r u hw => ?_)
  obtain ⟨rfl, rfl⟩ := hw
  refine ww_eq (ws' := [(hm, .inr (12, [.ref m_manys, .ref m_reals, .ref m_factsOf, .ref m_possible, .int 0, .int 0, .ref m_tape, .int 0, .int 0, .int 0, .int 0, .int 0, .int 0, .int 0, .int 0, .ref m_ends, .ref m_letters, .ref m_actOf, .ref m_whom, .ref m_actMany, .ref m_tokens, .ref m_afters, .ref m_afterOf, .int 0, .ref m_pile, .ref m_caseMany, .ref m_happen, .ref m_hasIf, .ref m_becomes, .ref m_goneOf, .ref m_heard, .ref m_pairs, .ref m_heaps, .int 0, .int 0, .ref m_led, .ref m_newAt, .ref m_knowing, .ref m_firsts, .int 0, .ref m_secrets, .ref m_tried, .ref m_lanes, .ref m_lengths, .ref m_cells])), (m_manys, .inl (E.2.1 1, 18, .inl (fun _ => 0)))]) ?_ rfl rfl rfl
  refine ww_if_ne_f (tgt := 10) C dX12_classOf_5 (by decide) (rfl) ?_
  refine ww_iconst (v := (-1)) C dX12_classOf_8 rfl ?_
  exact ww_iret (u := []) C hT [] rfl rfl rfl rfl dX12_classOf_9 (⟨rfl, rfl⟩)
theorem dX12_depth_0 : decode cX12_depth 0 = .ok (.aload_n 0, 1) := by decide +kernel
theorem dX12_depth_1 : decode cX12_depth 1 = .ok (.iload_n 1, 1) := by decide +kernel
theorem dX12_depth_2 : decode cX12_depth 2 = .ok (.invokevirtual 132, 3) := by decide +kernel
theorem dX12_depth_5 : decode cX12_depth 5 = .ok (.ifCond .eq 11, 3) := by decide +kernel
theorem dX12_depth_16 : decode cX12_depth 16 = .ok (.iconst (-1), 1) := by decide +kernel
theorem dX12_depth_17 : decode cX12_depth 17 = .ok (.ireturn, 1) := by decide +kernel
set_option maxRecDepth 100000 in
set_option maxHeartbeats 4000000 in
theorem y_depth (l : Launch) (E : EV) (hm : Nat) (p0 : Int32) (p1 : Int32) (m_manys : Nat) (m_reals : Nat) (m_factsOf : Nat) (m_possible : Nat) (m_tape : Nat) (m_ends : Nat) (m_letters : Nat) (m_actOf : Nat) (m_whom : Nat) (m_actMany : Nat) (m_tokens : Nat) (m_afters : Nat) (m_afterOf : Nat) (m_pile : Nat) (m_caseMany : Nat) (m_happen : Nat) (m_hasIf : Nat) (m_becomes : Nat) (m_goneOf : Nat) (m_heard : Nat) (m_pairs : Nat) (m_heaps : Nat) (m_led : Nat) (m_newAt : Nat) (m_knowing : Nat) (m_firsts : Nat) (m_secrets : Nat) (m_tried : Nat) (m_lanes : Nat) (m_lengths : Nat) (m_cells : Nat)  : CT l yX12_depth (Cond.code yX12_depth cX12_depth 4 (some .int) :: TB) ({ frames := 2, cells := 0, slots := 0, locals := 46 }) E [.ref hm, .int p0, .int p1] [(hm, .inr (12, [.ref m_manys, .ref m_reals, .ref m_factsOf, .ref m_possible, .int 0, .int 0, .ref m_tape, .int 0, .int 0, .int 0, .int 0, .int 0, .int 0, .int 0, .int 0, .ref m_ends, .ref m_letters, .ref m_actOf, .ref m_whom, .ref m_actMany, .ref m_tokens, .ref m_afters, .ref m_afterOf, .int 0, .ref m_pile, .ref m_caseMany, .ref m_happen, .ref m_hasIf, .ref m_becomes, .ref m_goneOf, .ref m_heard, .ref m_pairs, .ref m_heaps, .int 0, .int 0, .ref m_led, .ref m_newAt, .ref m_knowing, .ref m_firsts, .int 0, .ref m_secrets, .ref m_tried, .ref m_lanes, .ref m_lengths, .ref m_cells])), (m_manys, .inl (E.2.1 1, 18, .inl (fun _ => 0)))] (Qi E (fun (r : Int32) u => (r = (-1) ∧ u = []))) 0 0 := by
  refine ct_of rfl rfl ?_
  intro X C hT hin
  show WW X 4 E 0 [(0, .ref hm), (1, .int p0), (2, .int p1)] [] [(hm, .inr (12, [.ref m_manys, .ref m_reals, .ref m_factsOf, .ref m_possible, .int 0, .int 0, .ref m_tape, .int 0, .int 0, .int 0, .int 0, .int 0, .int 0, .int 0, .int 0, .ref m_ends, .ref m_letters, .ref m_actOf, .ref m_whom, .ref m_actMany, .ref m_tokens, .ref m_afters, .ref m_afterOf, .int 0, .ref m_pile, .ref m_caseMany, .ref m_happen, .ref m_hasIf, .ref m_becomes, .ref m_goneOf, .ref m_heard, .ref m_pairs, .ref m_heaps, .int 0, .int 0, .ref m_led, .ref m_newAt, .ref m_knowing, .ref m_firsts, .int 0, .ref m_secrets, .ref m_tried, .ref m_lanes, .ref m_lengths, .ref m_cells])), (m_manys, .inl (E.2.1 1, 18, .inl (fun _ => 0)))] 0 0
  refine ww_aload_n C dX12_depth_0 0 rfl rfl ?_
  refine ww_iload_n C dX12_depth_1 1 rfl rfl ?_
  refine ww_ci (wr := []) (k' := 0) (n' := 0) C (run_V (As := [.int p0]) (rest := []) C (r_isWorld X.2.1 E hm p0 m_manys m_reals m_factsOf m_possible m_tape m_ends m_letters m_actOf m_whom m_actMany m_tokens m_afters m_afterOf m_pile m_caseMany m_happen m_hasIf m_becomes m_goneOf m_heard m_pairs m_heaps m_led m_newAt m_knowing m_firsts m_secrets m_tried m_lanes m_lengths m_cells) mi_X12_isWorld wl_X12_132 rfl 0 12 rfl rfl rfl rfl rfl dX12_depth_2) [0, 1] [] rfl rfl rfl rfl (fun r u hw => ?_)
  obtain ⟨rfl, rfl⟩ := hw
  refine ww_eq (ws' := [(hm, .inr (12, [.ref m_manys, .ref m_reals, .ref m_factsOf, .ref m_possible, .int 0, .int 0, .ref m_tape, .int 0, .int 0, .int 0, .int 0, .int 0, .int 0, .int 0, .int 0, .ref m_ends, .ref m_letters, .ref m_actOf, .ref m_whom, .ref m_actMany, .ref m_tokens, .ref m_afters, .ref m_afterOf, .int 0, .ref m_pile, .ref m_caseMany, .ref m_happen, .ref m_hasIf, .ref m_becomes, .ref m_goneOf, .ref m_heard, .ref m_pairs, .ref m_heaps, .int 0, .int 0, .ref m_led, .ref m_newAt, .ref m_knowing, .ref m_firsts, .int 0, .ref m_secrets, .ref m_tried, .ref m_lanes, .ref m_lengths, .ref m_cells])), (m_manys, .inl (E.2.1 1, 18, .inl (fun _ => 0)))]) ?_ rfl rfl rfl
  refine ww_if_eq_t (tgt := 16) C dX12_depth_5 (by decide) (rfl) ?_
  refine ww_iconst (v := (-1)) C dX12_depth_16 rfl ?_
  exact ww_iret (u := []) C hT [] rfl rfl rfl rfl dX12_depth_17 (⟨rfl, rfl⟩)
theorem dX12_melt_0 : decode cX12_melt 0 = .ok (.aload_n 0, 1) := by decide +kernel
theorem dX12_melt_1 : decode cX12_melt 1 = .ok (.getfield 7, 3) := by decide +kernel
theorem dX12_melt_4 : decode cX12_melt 4 = .ok (.iconst 0, 1) := by decide +kernel
theorem dX12_melt_5 : decode cX12_melt 5 = .ok (.iaload, 1) := by decide +kernel
theorem dX12_melt_6 : decode cX12_melt 6 = .ok (.ifCond .ne 6, 3) := by decide +kernel
theorem dX12_melt_9 : decode cX12_melt 9 = .ok (.bipush (-2), 2) := by decide +kernel
theorem dX12_melt_11 : decode cX12_melt 11 = .ok (.ireturn, 1) := by decide +kernel
set_option maxRecDepth 100000 in
set_option maxHeartbeats 4000000 in
theorem y_melt (l : Launch) (E : EV) (hm : Nat) (m_manys : Nat) (m_reals : Nat) (m_factsOf : Nat) (m_possible : Nat) (m_tape : Nat) (m_ends : Nat) (m_letters : Nat) (m_actOf : Nat) (m_whom : Nat) (m_actMany : Nat) (m_tokens : Nat) (m_afters : Nat) (m_afterOf : Nat) (m_pile : Nat) (m_caseMany : Nat) (m_happen : Nat) (m_hasIf : Nat) (m_becomes : Nat) (m_goneOf : Nat) (m_heard : Nat) (m_pairs : Nat) (m_heaps : Nat) (m_led : Nat) (m_newAt : Nat) (m_knowing : Nat) (m_firsts : Nat) (m_secrets : Nat) (m_tried : Nat) (m_lanes : Nat) (m_lengths : Nat) (m_cells : Nat)  : CT l yX12_melt (Cond.code yX12_melt cX12_melt 6 (some .int) :: TB) ({ frames := 0, cells := 0, slots := 0, locals := 0 }) E [.ref hm] [(hm, .inr (12, [.ref m_manys, .ref m_reals, .ref m_factsOf, .ref m_possible, .int 0, .int 0, .ref m_tape, .int 0, .int 0, .int 0, .int 0, .int 0, .int 0, .int 0, .int 0, .ref m_ends, .ref m_letters, .ref m_actOf, .ref m_whom, .ref m_actMany, .ref m_tokens, .ref m_afters, .ref m_afterOf, .int 0, .ref m_pile, .ref m_caseMany, .ref m_happen, .ref m_hasIf, .ref m_becomes, .ref m_goneOf, .ref m_heard, .ref m_pairs, .ref m_heaps, .int 0, .int 0, .ref m_led, .ref m_newAt, .ref m_knowing, .ref m_firsts, .int 0, .ref m_secrets, .ref m_tried, .ref m_lanes, .ref m_lengths, .ref m_cells])), (m_manys, .inl (E.2.1 1, 18, .inl (fun _ => 0)))] (Qi E (fun (r : Int32) u => (r = (-2) ∧ u = []))) 0 0 := by
  refine ct_of rfl rfl ?_
  intro X C hT hin
  show WW X 6 E 0 [(0, .ref hm)] [] [(hm, .inr (12, [.ref m_manys, .ref m_reals, .ref m_factsOf, .ref m_possible, .int 0, .int 0, .ref m_tape, .int 0, .int 0, .int 0, .int 0, .int 0, .int 0, .int 0, .int 0, .ref m_ends, .ref m_letters, .ref m_actOf, .ref m_whom, .ref m_actMany, .ref m_tokens, .ref m_afters, .ref m_afterOf, .int 0, .ref m_pile, .ref m_caseMany, .ref m_happen, .ref m_hasIf, .ref m_becomes, .ref m_goneOf, .ref m_heard, .ref m_pairs, .ref m_heaps, .int 0, .int 0, .ref m_led, .ref m_newAt, .ref m_knowing, .ref m_firsts, .int 0, .ref m_secrets, .ref m_tried, .ref m_lanes, .ref m_lengths, .ref m_cells])), (m_manys, .inl (E.2.1 1, 18, .inl (fun _ => 0)))] 0 0
  refine ww_aload_n C dX12_melt_0 0 rfl rfl ?_
  refine ww_get C fg_X12_7 0 rfl rfl dX12_melt_1 ?_
  refine ww_iconst (v := 0) C dX12_melt_4 rfl ?_
  refine ww_iald (v := 0) C 1 rfl (vin rfl) rfl dX12_melt_5 ?_
  refine ww_if_ne_f (tgt := 12) C dX12_melt_6 (by decide) (rfl) ?_
  refine ww_bipush (v := (-2)) C dX12_melt_9 rfl ?_
  exact ww_iret (u := []) C hT [] rfl rfl rfl rfl dX12_melt_11 (⟨rfl, rfl⟩)
theorem dX12_keep_0 : decode cX12_keep 0 = .ok (.aload_n 0, 1) := by decide +kernel
theorem dX12_keep_1 : decode cX12_keep 1 = .ok (.getfield 7, 3) := by decide +kernel
theorem dX12_keep_4 : decode cX12_keep 4 = .ok (.iconst 0, 1) := by decide +kernel
theorem dX12_keep_5 : decode cX12_keep 5 = .ok (.iaload, 1) := by decide +kernel
theorem dX12_keep_6 : decode cX12_keep 6 = .ok (.ifCond .ne 6, 3) := by decide +kernel
theorem dX12_keep_9 : decode cX12_keep 9 = .ok (.bipush (-2), 2) := by decide +kernel
theorem dX12_keep_11 : decode cX12_keep 11 = .ok (.ireturn, 1) := by decide +kernel
set_option maxRecDepth 100000 in
set_option maxHeartbeats 4000000 in
theorem y_keep (l : Launch) (E : EV) (hm : Nat) (m_manys : Nat) (m_reals : Nat) (m_factsOf : Nat) (m_possible : Nat) (m_tape : Nat) (m_ends : Nat) (m_letters : Nat) (m_actOf : Nat) (m_whom : Nat) (m_actMany : Nat) (m_tokens : Nat) (m_afters : Nat) (m_afterOf : Nat) (m_pile : Nat) (m_caseMany : Nat) (m_happen : Nat) (m_hasIf : Nat) (m_becomes : Nat) (m_goneOf : Nat) (m_heard : Nat) (m_pairs : Nat) (m_heaps : Nat) (m_led : Nat) (m_newAt : Nat) (m_knowing : Nat) (m_firsts : Nat) (m_secrets : Nat) (m_tried : Nat) (m_lanes : Nat) (m_lengths : Nat) (m_cells : Nat)  : CT l yX12_keep (Cond.code yX12_keep cX12_keep 1 (some .int) :: TB) ({ frames := 0, cells := 0, slots := 0, locals := 0 }) E [.ref hm] [(hm, .inr (12, [.ref m_manys, .ref m_reals, .ref m_factsOf, .ref m_possible, .int 0, .int 0, .ref m_tape, .int 0, .int 0, .int 0, .int 0, .int 0, .int 0, .int 0, .int 0, .ref m_ends, .ref m_letters, .ref m_actOf, .ref m_whom, .ref m_actMany, .ref m_tokens, .ref m_afters, .ref m_afterOf, .int 0, .ref m_pile, .ref m_caseMany, .ref m_happen, .ref m_hasIf, .ref m_becomes, .ref m_goneOf, .ref m_heard, .ref m_pairs, .ref m_heaps, .int 0, .int 0, .ref m_led, .ref m_newAt, .ref m_knowing, .ref m_firsts, .int 0, .ref m_secrets, .ref m_tried, .ref m_lanes, .ref m_lengths, .ref m_cells])), (m_manys, .inl (E.2.1 1, 18, .inl (fun _ => 0)))] (Qi E (fun (r : Int32) u => (r = (-2) ∧ u = []))) 0 0 := by
  refine ct_of rfl rfl ?_
  intro X C hT hin
  show WW X 1 E 0 [(0, .ref hm)] [] [(hm, .inr (12, [.ref m_manys, .ref m_reals, .ref m_factsOf, .ref m_possible, .int 0, .int 0, .ref m_tape, .int 0, .int 0, .int 0, .int 0, .int 0, .int 0, .int 0, .int 0, .ref m_ends, .ref m_letters, .ref m_actOf, .ref m_whom, .ref m_actMany, .ref m_tokens, .ref m_afters, .ref m_afterOf, .int 0, .ref m_pile, .ref m_caseMany, .ref m_happen, .ref m_hasIf, .ref m_becomes, .ref m_goneOf, .ref m_heard, .ref m_pairs, .ref m_heaps, .int 0, .int 0, .ref m_led, .ref m_newAt, .ref m_knowing, .ref m_firsts, .int 0, .ref m_secrets, .ref m_tried, .ref m_lanes, .ref m_lengths, .ref m_cells])), (m_manys, .inl (E.2.1 1, 18, .inl (fun _ => 0)))] 0 0
  refine ww_aload_n C dX12_keep_0 0 rfl rfl ?_
  refine ww_get C fg_X12_7 0 rfl rfl dX12_keep_1 ?_
  refine ww_iconst (v := 0) C dX12_keep_4 rfl ?_
  refine ww_iald (v := 0) C 1 rfl (vin rfl) rfl dX12_keep_5 ?_
  refine ww_if_ne_f (tgt := 12) C dX12_keep_6 (by decide) (rfl) ?_
  refine ww_bipush (v := (-2)) C dX12_keep_9 rfl ?_
  exact ww_iret (u := []) C hT [] rfl rfl rfl rfl dX12_keep_11 (⟨rfl, rfl⟩)
theorem dX12_isModel_0 : decode cX12_isModel 0 = .ok (.iload_n 1, 1) := by decide +kernel
theorem dX12_isModel_1 : decode cX12_isModel 1 = .ok (.i2l, 1) := by decide +kernel
theorem dX12_isModel_2 : decode cX12_isModel 2 = .ok (.lconst 0, 1) := by decide +kernel
theorem dX12_isModel_3 : decode cX12_isModel 3 = .ok (.aload_n 0, 1) := by decide +kernel
theorem dX12_isModel_4 : decode cX12_isModel 4 = .ok (.getfield 304, 3) := by decide +kernel
theorem wf_X12_304 : Cond.fieldLink RX12 304 RX12 "models" "I" ∈ TB := tbm (tq5 (List.mem_of_getElem? (i := 83) (by decide +kernel))) (by decide +kernel)
theorem fg_X12_304 : FG RX12 304 12 5 := ⟨RX12, TX12, 45, uw_X12, wf_X12_304, rfl, by decide, rfl⟩
theorem dX12_isModel_7 : decode cX12_isModel 7 = .ok (.iconst 1, 1) := by decide +kernel
theorem dX12_isModel_8 : decode cX12_isModel 8 = .ok (.isub, 1) := by decide +kernel
theorem dX12_isModel_9 : decode cX12_isModel 9 = .ok (.i2l, 1) := by decide +kernel
theorem dX12_isModel_10 : decode cX12_isModel 10 = .ok (.invokestatic 115, 3) := by decide +kernel
theorem dX12_isModel_13 : decode cX12_isModel 13 = .ok (.ireturn, 1) := by decide +kernel
set_option maxRecDepth 100000 in
set_option maxHeartbeats 4000000 in
theorem r_isModel (l : Launch) (E : EV) (hm : Nat) (p0 : Int32) (m_manys : Nat) (m_reals : Nat) (m_factsOf : Nat) (m_possible : Nat) (m_tape : Nat) (m_ends : Nat) (m_letters : Nat) (m_actOf : Nat) (m_whom : Nat) (m_actMany : Nat) (m_tokens : Nat) (m_afters : Nat) (m_afterOf : Nat) (m_pile : Nat) (m_caseMany : Nat) (m_happen : Nat) (m_hasIf : Nat) (m_becomes : Nat) (m_goneOf : Nat) (m_heard : Nat) (m_pairs : Nat) (m_heaps : Nat) (m_led : Nat) (m_newAt : Nat) (m_knowing : Nat) (m_firsts : Nat) (m_secrets : Nat) (m_tried : Nat) (m_lanes : Nat) (m_lengths : Nat) (m_cells : Nat)  : CT l yX12_isModel (Cond.code yX12_isModel cX12_isModel 2 (some .boolean) :: TB) ({ frames := 1, cells := 0, slots := 0, locals := 25 }) E [.ref hm, .int p0] [(hm, .inr (12, [.ref m_manys, .ref m_reals, .ref m_factsOf, .ref m_possible, .int 0, .int 0, .ref m_tape, .int 0, .int 0, .int 0, .int 0, .int 0, .int 0, .int 0, .int 0, .ref m_ends, .ref m_letters, .ref m_actOf, .ref m_whom, .ref m_actMany, .ref m_tokens, .ref m_afters, .ref m_afterOf, .int 0, .ref m_pile, .ref m_caseMany, .ref m_happen, .ref m_hasIf, .ref m_becomes, .ref m_goneOf, .ref m_heard, .ref m_pairs, .ref m_heaps, .int 0, .int 0, .ref m_led, .ref m_newAt, .ref m_knowing, .ref m_firsts, .int 0, .ref m_secrets, .ref m_tried, .ref m_lanes, .ref m_lengths, .ref m_cells]))] (Qi E (fun (r : Int32) u => (r = 0 ∧ u = [(hm, .inr (12, [.ref m_manys, .ref m_reals, .ref m_factsOf, .ref m_possible, .int 0, .int 0, .ref m_tape, .int 0, .int 0, .int 0, .int 0, .int 0, .int 0, .int 0, .int 0, .ref m_ends, .ref m_letters, .ref m_actOf, .ref m_whom, .ref m_actMany, .ref m_tokens, .ref m_afters, .ref m_afterOf, .int 0, .ref m_pile, .ref m_caseMany, .ref m_happen, .ref m_hasIf, .ref m_becomes, .ref m_goneOf, .ref m_heard, .ref m_pairs, .ref m_heaps, .int 0, .int 0, .ref m_led, .ref m_newAt, .ref m_knowing, .ref m_firsts, .int 0, .ref m_secrets, .ref m_tried, .ref m_lanes, .ref m_lengths, .ref m_cells]))]))) 0 0 := by
  refine ct_of rfl rfl ?_
  intro X C hT hin
  show WW X 2 E 0 [(0, .ref hm), (1, .int p0)] [] [(hm, .inr (12, [.ref m_manys, .ref m_reals, .ref m_factsOf, .ref m_possible, .int 0, .int 0, .ref m_tape, .int 0, .int 0, .int 0, .int 0, .int 0, .int 0, .int 0, .int 0, .ref m_ends, .ref m_letters, .ref m_actOf, .ref m_whom, .ref m_actMany, .ref m_tokens, .ref m_afters, .ref m_afterOf, .int 0, .ref m_pile, .ref m_caseMany, .ref m_happen, .ref m_hasIf, .ref m_becomes, .ref m_goneOf, .ref m_heard, .ref m_pairs, .ref m_heaps, .int 0, .int 0, .ref m_led, .ref m_newAt, .ref m_knowing, .ref m_firsts, .int 0, .ref m_secrets, .ref m_tried, .ref m_lanes, .ref m_lengths, .ref m_cells]))] 0 0
  refine ww_iload_n C dX12_isModel_0 1 rfl rfl ?_
  refine ww_i2l (v := p0.toInt64) C dX12_isModel_1 rfl ?_
  refine ww_lconst (v := 0) C dX12_isModel_2 rfl ?_
  refine ww_aload_n C dX12_isModel_3 0 rfl rfl ?_
  refine ww_get C fg_X12_304 0 rfl rfl dX12_isModel_4 ?_
  refine ww_iconst (v := 1) C dX12_isModel_7 rfl ?_
  refine ww_isub (v := (-1)) C dX12_isModel_8 (by decide) ?_
  refine ww_i2l (v := (-1)) C dX12_isModel_9 rfl ?_
  refine ww_ci (wr := [(hm, .inr (12, [.ref m_manys, .ref m_reals, .ref m_factsOf, .ref m_possible, .int 0, .int 0, .ref m_tape, .int 0, .int 0, .int 0, .int 0, .int 0, .int 0, .int 0, .int 0, .ref m_ends, .ref m_letters, .ref m_actOf, .ref m_whom, .ref m_actMany, .ref m_tokens, .ref m_afters, .ref m_afterOf, .int 0, .ref m_pile, .ref m_caseMany, .ref m_happen, .ref m_hasIf, .ref m_becomes, .ref m_goneOf, .ref m_heard, .ref m_pairs, .ref m_heaps, .int 0, .int 0, .ref m_led, .ref m_newAt, .ref m_knowing, .ref m_firsts, .int 0, .ref m_secrets, .ref m_tried, .ref m_lanes, .ref m_lengths, .ref m_cells]))]) (k' := 0) (n' := 0) C (run_S (As := [.long p0.toInt64, .long 0, .long (-1)]) (rest := []) C (r_in X.2.1 E p0.toInt64 0 (-1) p0.toInt 0 (-1) (Int32.toInt_toInt64 _) rfl rfl) ms_X12_in wl_X12_115 rfl rfl rfl rfl dX12_isModel_10) [] [0] rfl rfl rfl rfl (fun r u hw => ?_)
  rcases hw with ⟨rfl, rfl, h_1, h_2⟩ | ⟨rfl, rfl, h_3⟩
  · omega
  · refine ww_eq (ws' := [(hm, .inr (12, [.ref m_manys, .ref m_reals, .ref m_factsOf, .ref m_possible, .int 0, .int 0, .ref m_tape, .int 0, .int 0, .int 0, .int 0, .int 0, .int 0, .int 0, .int 0, .ref m_ends, .ref m_letters, .ref m_actOf, .ref m_whom, .ref m_actMany, .ref m_tokens, .ref m_afters, .ref m_afterOf, .int 0, .ref m_pile, .ref m_caseMany, .ref m_happen, .ref m_hasIf, .ref m_becomes, .ref m_goneOf, .ref m_heard, .ref m_pairs, .ref m_heaps, .int 0, .int 0, .ref m_led, .ref m_newAt, .ref m_knowing, .ref m_firsts, .int 0, .ref m_secrets, .ref m_tried, .ref m_lanes, .ref m_lengths, .ref m_cells]))]) ?_ rfl rfl rfl
    exact ww_zret (u := [(hm, .inr (12, [.ref m_manys, .ref m_reals, .ref m_factsOf, .ref m_possible, .int 0, .int 0, .ref m_tape, .int 0, .int 0, .int 0, .int 0, .int 0, .int 0, .int 0, .int 0, .ref m_ends, .ref m_letters, .ref m_actOf, .ref m_whom, .ref m_actMany, .ref m_tokens, .ref m_afters, .ref m_afterOf, .int 0, .ref m_pile, .ref m_caseMany, .ref m_happen, .ref m_hasIf, .ref m_becomes, .ref m_goneOf, .ref m_heard, .ref m_pairs, .ref m_heaps, .int 0, .int 0, .ref m_led, .ref m_newAt, .ref m_knowing, .ref m_firsts, .int 0, .ref m_secrets, .ref m_tried, .ref m_lanes, .ref m_lengths, .ref m_cells]))]) C hT [0] rfl rfl rfl rfl rfl dX12_isModel_13 (⟨rfl, rfl⟩)
theorem dX12_stand_0 : decode cX12_stand 0 = .ok (.aload_n 0, 1) := by decide +kernel
theorem dX12_stand_1 : decode cX12_stand 1 = .ok (.iload_n 1, 1) := by decide +kernel
theorem dX12_stand_2 : decode cX12_stand 2 = .ok (.invokevirtual 307, 3) := by decide +kernel
theorem wl_X12_307 : Cond.methodLink RX12 307 yX12_isModel ∈ TB := tbm (tq7 (List.mem_of_getElem? (i := 9) (by decide +kernel))) (by decide +kernel)
theorem wc_X12_isModel : Cond.code yX12_isModel cX12_isModel 2 (some .boolean) ∈ TB := tbm (tq7 (List.mem_of_getElem? (i := 12) (rfl))) (by decide +kernel)
theorem wi_X12_isModel : Cond.instanceMethod yX12_isModel ∈ TB := tbm (tq7 (List.mem_of_getElem? (i := 11) (by decide +kernel))) (by decide +kernel)
theorem ws_X12_isModel : Cond.selects RX12 yX12_isModel yX12_isModel ∈ TB := tbm (tq0 (List.mem_of_getElem? (i := 73) (by decide +kernel))) (by decide +kernel)
theorem mi_X12_isModel : MI yX12_isModel cX12_isModel 2 (some .boolean) 1 := ⟨wc_X12_isModel, wn_X12, ⟨by decide +kernel, by decide +kernel, by decide +kernel⟩, wi_X12_isModel, ws_X12_isModel⟩
theorem dX12_stand_5 : decode cX12_stand 5 = .ok (.ifCond .ne 5, 3) := by decide +kernel
theorem dX12_stand_8 : decode cX12_stand 8 = .ok (.iconst (-1), 1) := by decide +kernel
theorem dX12_stand_9 : decode cX12_stand 9 = .ok (.ireturn, 1) := by decide +kernel
set_option maxRecDepth 100000 in
set_option maxHeartbeats 4000000 in
theorem y_stand (l : Launch) (E : EV) (hm : Nat) (p0 : Int32) (m_manys : Nat) (m_reals : Nat) (m_factsOf : Nat) (m_possible : Nat) (m_tape : Nat) (m_ends : Nat) (m_letters : Nat) (m_actOf : Nat) (m_whom : Nat) (m_actMany : Nat) (m_tokens : Nat) (m_afters : Nat) (m_afterOf : Nat) (m_pile : Nat) (m_caseMany : Nat) (m_happen : Nat) (m_hasIf : Nat) (m_becomes : Nat) (m_goneOf : Nat) (m_heard : Nat) (m_pairs : Nat) (m_heaps : Nat) (m_led : Nat) (m_newAt : Nat) (m_knowing : Nat) (m_firsts : Nat) (m_secrets : Nat) (m_tried : Nat) (m_lanes : Nat) (m_lengths : Nat) (m_cells : Nat)  : CT l yX12_stand (Cond.code yX12_stand cX12_stand 2 (some .int) :: TB) ({ frames := 2, cells := 0, slots := 0, locals := 46 }) E [.ref hm, .int p0] [(hm, .inr (12, [.ref m_manys, .ref m_reals, .ref m_factsOf, .ref m_possible, .int 0, .int 0, .ref m_tape, .int 0, .int 0, .int 0, .int 0, .int 0, .int 0, .int 0, .int 0, .ref m_ends, .ref m_letters, .ref m_actOf, .ref m_whom, .ref m_actMany, .ref m_tokens, .ref m_afters, .ref m_afterOf, .int 0, .ref m_pile, .ref m_caseMany, .ref m_happen, .ref m_hasIf, .ref m_becomes, .ref m_goneOf, .ref m_heard, .ref m_pairs, .ref m_heaps, .int 0, .int 0, .ref m_led, .ref m_newAt, .ref m_knowing, .ref m_firsts, .int 0, .ref m_secrets, .ref m_tried, .ref m_lanes, .ref m_lengths, .ref m_cells]))] (Qi E (fun (r : Int32) u => (r = (-1) ∧ u = []))) 0 0 := by
  refine ct_of rfl rfl ?_
  intro X C hT hin
  show WW X 2 E 0 [(0, .ref hm), (1, .int p0)] [] [(hm, .inr (12, [.ref m_manys, .ref m_reals, .ref m_factsOf, .ref m_possible, .int 0, .int 0, .ref m_tape, .int 0, .int 0, .int 0, .int 0, .int 0, .int 0, .int 0, .int 0, .ref m_ends, .ref m_letters, .ref m_actOf, .ref m_whom, .ref m_actMany, .ref m_tokens, .ref m_afters, .ref m_afterOf, .int 0, .ref m_pile, .ref m_caseMany, .ref m_happen, .ref m_hasIf, .ref m_becomes, .ref m_goneOf, .ref m_heard, .ref m_pairs, .ref m_heaps, .int 0, .int 0, .ref m_led, .ref m_newAt, .ref m_knowing, .ref m_firsts, .int 0, .ref m_secrets, .ref m_tried, .ref m_lanes, .ref m_lengths, .ref m_cells]))] 0 0
  refine ww_aload_n C dX12_stand_0 0 rfl rfl ?_
  refine ww_iload_n C dX12_stand_1 1 rfl rfl ?_
  refine ww_ci (wr := []) (k' := 0) (n' := 0) C (run_V (As := [.int p0]) (rest := []) C (r_isModel X.2.1 E hm p0 m_manys m_reals m_factsOf m_possible m_tape m_ends m_letters m_actOf m_whom m_actMany m_tokens m_afters m_afterOf m_pile m_caseMany m_happen m_hasIf m_becomes m_goneOf m_heard m_pairs m_heaps m_led m_newAt m_knowing m_firsts m_secrets m_tried m_lanes m_lengths m_cells) mi_X12_isModel wl_X12_307 rfl 0 12 rfl rfl rfl rfl rfl dX12_stand_2) [0] [] rfl rfl rfl rfl (fun r u hw => ?_)
  obtain ⟨rfl, rfl⟩ := hw
  refine ww_eq (ws' := [(hm, .inr (12, [.ref m_manys, .ref m_reals, .ref m_factsOf, .ref m_possible, .int 0, .int 0, .ref m_tape, .int 0, .int 0, .int 0, .int 0, .int 0, .int 0, .int 0, .int 0, .ref m_ends, .ref m_letters, .ref m_actOf, .ref m_whom, .ref m_actMany, .ref m_tokens, .ref m_afters, .ref m_afterOf, .int 0, .ref m_pile, .ref m_caseMany, .ref m_happen, .ref m_hasIf, .ref m_becomes, .ref m_goneOf, .ref m_heard, .ref m_pairs, .ref m_heaps, .int 0, .int 0, .ref m_led, .ref m_newAt, .ref m_knowing, .ref m_firsts, .int 0, .ref m_secrets, .ref m_tried, .ref m_lanes, .ref m_lengths, .ref m_cells]))]) ?_ rfl rfl rfl
  refine ww_if_ne_f (tgt := 10) C dX12_stand_5 (by decide) (rfl) ?_
  refine ww_iconst (v := (-1)) C dX12_stand_8 rfl ?_
  exact ww_iret (u := []) C hT [] rfl rfl rfl rfl dX12_stand_9 (⟨rfl, rfl⟩)
theorem dX12_same_0 : decode cX12_same 0 = .ok (.aload_n 0, 1) := by decide +kernel
theorem dX12_same_1 : decode cX12_same 1 = .ok (.iload_n 1, 1) := by decide +kernel
theorem dX12_same_2 : decode cX12_same 2 = .ok (.invokevirtual 307, 3) := by decide +kernel
theorem dX12_same_5 : decode cX12_same 5 = .ok (.ifCond .ne 5, 3) := by decide +kernel
theorem dX12_same_8 : decode cX12_same 8 = .ok (.iconst (-1), 1) := by decide +kernel
theorem dX12_same_9 : decode cX12_same 9 = .ok (.ireturn, 1) := by decide +kernel
set_option maxRecDepth 100000 in
set_option maxHeartbeats 4000000 in
theorem y_same (l : Launch) (E : EV) (hm : Nat) (p0 : Int32) (m_manys : Nat) (m_reals : Nat) (m_factsOf : Nat) (m_possible : Nat) (m_tape : Nat) (m_ends : Nat) (m_letters : Nat) (m_actOf : Nat) (m_whom : Nat) (m_actMany : Nat) (m_tokens : Nat) (m_afters : Nat) (m_afterOf : Nat) (m_pile : Nat) (m_caseMany : Nat) (m_happen : Nat) (m_hasIf : Nat) (m_becomes : Nat) (m_goneOf : Nat) (m_heard : Nat) (m_pairs : Nat) (m_heaps : Nat) (m_led : Nat) (m_newAt : Nat) (m_knowing : Nat) (m_firsts : Nat) (m_secrets : Nat) (m_tried : Nat) (m_lanes : Nat) (m_lengths : Nat) (m_cells : Nat)  : CT l yX12_same (Cond.code yX12_same cX12_same 2 (some .int) :: TB) ({ frames := 2, cells := 0, slots := 0, locals := 46 }) E [.ref hm, .int p0] [(hm, .inr (12, [.ref m_manys, .ref m_reals, .ref m_factsOf, .ref m_possible, .int 0, .int 0, .ref m_tape, .int 0, .int 0, .int 0, .int 0, .int 0, .int 0, .int 0, .int 0, .ref m_ends, .ref m_letters, .ref m_actOf, .ref m_whom, .ref m_actMany, .ref m_tokens, .ref m_afters, .ref m_afterOf, .int 0, .ref m_pile, .ref m_caseMany, .ref m_happen, .ref m_hasIf, .ref m_becomes, .ref m_goneOf, .ref m_heard, .ref m_pairs, .ref m_heaps, .int 0, .int 0, .ref m_led, .ref m_newAt, .ref m_knowing, .ref m_firsts, .int 0, .ref m_secrets, .ref m_tried, .ref m_lanes, .ref m_lengths, .ref m_cells]))] (Qi E (fun (r : Int32) u => (r = (-1) ∧ u = []))) 0 0 := by
  refine ct_of rfl rfl ?_
  intro X C hT hin
  show WW X 2 E 0 [(0, .ref hm), (1, .int p0)] [] [(hm, .inr (12, [.ref m_manys, .ref m_reals, .ref m_factsOf, .ref m_possible, .int 0, .int 0, .ref m_tape, .int 0, .int 0, .int 0, .int 0, .int 0, .int 0, .int 0, .int 0, .ref m_ends, .ref m_letters, .ref m_actOf, .ref m_whom, .ref m_actMany, .ref m_tokens, .ref m_afters, .ref m_afterOf, .int 0, .ref m_pile, .ref m_caseMany, .ref m_happen, .ref m_hasIf, .ref m_becomes, .ref m_goneOf, .ref m_heard, .ref m_pairs, .ref m_heaps, .int 0, .int 0, .ref m_led, .ref m_newAt, .ref m_knowing, .ref m_firsts, .int 0, .ref m_secrets, .ref m_tried, .ref m_lanes, .ref m_lengths, .ref m_cells]))] 0 0
  refine ww_aload_n C dX12_same_0 0 rfl rfl ?_
  refine ww_iload_n C dX12_same_1 1 rfl rfl ?_
  refine ww_ci (wr := []) (k' := 0) (n' := 0) C (run_V (As := [.int p0]) (rest := []) C (r_isModel X.2.1 E hm p0 m_manys m_reals m_factsOf m_possible m_tape m_ends m_letters m_actOf m_whom m_actMany m_tokens m_afters m_afterOf m_pile m_caseMany m_happen m_hasIf m_becomes m_goneOf m_heard m_pairs m_heaps m_led m_newAt m_knowing m_firsts m_secrets m_tried m_lanes m_lengths m_cells) mi_X12_isModel wl_X12_307 rfl 0 12 rfl rfl rfl rfl rfl dX12_same_2) [0] [] rfl rfl rfl rfl (fun r u hw => ?_)
  obtain ⟨rfl, rfl⟩ := hw
  refine ww_eq (ws' := [(hm, .inr (12, [.ref m_manys, .ref m_reals, .ref m_factsOf, .ref m_possible, .int 0, .int 0, .ref m_tape, .int 0, .int 0, .int 0, .int 0, .int 0, .int 0, .int 0, .int 0, .ref m_ends, .ref m_letters, .ref m_actOf, .ref m_whom, .ref m_actMany, .ref m_tokens, .ref m_afters, .ref m_afterOf, .int 0, .ref m_pile, .ref m_caseMany, .ref m_happen, .ref m_hasIf, .ref m_becomes, .ref m_goneOf, .ref m_heard, .ref m_pairs, .ref m_heaps, .int 0, .int 0, .ref m_led, .ref m_newAt, .ref m_knowing, .ref m_firsts, .int 0, .ref m_secrets, .ref m_tried, .ref m_lanes, .ref m_lengths, .ref m_cells]))]) ?_ rfl rfl rfl
  refine ww_if_ne_f (tgt := 10) C dX12_same_5 (by decide) (rfl) ?_
  refine ww_iconst (v := (-1)) C dX12_same_8 rfl ?_
  exact ww_iret (u := []) C hT [] rfl rfl rfl rfl dX12_same_9 (⟨rfl, rfl⟩)
theorem dX12_areAsked_0 : decode cX12_areAsked 0 = .ok (.iload_n 1, 1) := by decide +kernel
theorem dX12_areAsked_1 : decode cX12_areAsked 1 = .ok (.i2l, 1) := by decide +kernel
theorem dX12_areAsked_2 : decode cX12_areAsked 2 = .ok (.lconst 1, 1) := by decide +kernel
theorem dX12_areAsked_3 : decode cX12_areAsked 3 = .ok (.ldc2_w 119, 3) := by decide +kernel
theorem dX12_areAsked_6 : decode cX12_areAsked 6 = .ok (.invokestatic 115, 3) := by decide +kernel
theorem dX12_areAsked_9 : decode cX12_areAsked 9 = .ok (.ifCond .eq 19, 3) := by decide +kernel
theorem dX12_areAsked_12 : decode cX12_areAsked 12 = .ok (.iload_n 2, 1) := by decide +kernel
theorem dX12_areAsked_13 : decode cX12_areAsked 13 = .ok (.i2l, 1) := by decide +kernel
theorem dX12_areAsked_14 : decode cX12_areAsked 14 = .ok (.lconst 0, 1) := by decide +kernel
theorem dX12_areAsked_15 : decode cX12_areAsked 15 = .ok (.ldc2_w 310, 3) := by decide +kernel
theorem wv_X12_310 : Cond.constantLong RX12 310 4095 ∈ TB := tbm (tq7 (List.mem_of_getElem? (i := 25) (by decide +kernel))) (by decide +kernel)
theorem dX12_areAsked_18 : decode cX12_areAsked 18 = .ok (.invokestatic 115, 3) := by decide +kernel
theorem dX12_areAsked_21 : decode cX12_areAsked 21 = .ok (.ifCond .eq 7, 3) := by decide +kernel
theorem dX12_areAsked_24 : decode cX12_areAsked 24 = .ok (.iconst 1, 1) := by decide +kernel
theorem dX12_areAsked_25 : decode cX12_areAsked 25 = .ok (.goto 4, 3) := by decide +kernel
theorem dX12_areAsked_29 : decode cX12_areAsked 29 = .ok (.istore_n 3, 1) := by decide +kernel
theorem dX12_areAsked_30 : decode cX12_areAsked 30 = .ok (.iconst 0, 1) := by decide +kernel
theorem dX12_areAsked_31 : decode cX12_areAsked 31 = .ok (.istore 4, 2) := by decide +kernel
theorem dX12_areAsked_33 : decode cX12_areAsked 33 = .ok (.iload 4, 2) := by decide +kernel
theorem dX12_areAsked_35 : decode cX12_areAsked 35 = .ok (.iconst 4, 1) := by decide +kernel
theorem dX12_areAsked_36 : decode cX12_areAsked 36 = .ok (.if_icmp .ge 44, 3) := by decide +kernel
theorem dX12_areAsked_39 : decode cX12_areAsked 39 = .ok (.iload_n 3, 1) := by decide +kernel
theorem dX12_areAsked_40 : decode cX12_areAsked 40 = .ok (.ifCond .eq 40, 3) := by decide +kernel
theorem dX12_areAsked_43 : decode cX12_areAsked 43 = .ok (.iload_n 1, 1) := by decide +kernel
theorem dX12_areAsked_44 : decode cX12_areAsked 44 = .ok (.iload 4, 2) := by decide +kernel
theorem dX12_areAsked_46 : decode cX12_areAsked 46 = .ok (.ishr, 1) := by decide +kernel
theorem dX12_areAsked_47 : decode cX12_areAsked 47 = .ok (.iconst 1, 1) := by decide +kernel
theorem dX12_areAsked_48 : decode cX12_areAsked 48 = .ok (.iand, 1) := by decide +kernel
theorem dX12_areAsked_49 : decode cX12_areAsked 49 = .ok (.ifCond .eq 19, 3) := by decide +kernel
theorem dX12_areAsked_68 : decode cX12_areAsked 68 = .ok (.iconst 1, 1) := by decide +kernel
theorem dX12_areAsked_69 : decode cX12_areAsked 69 = .ok (.goto 4, 3) := by decide +kernel
theorem dX12_areAsked_73 : decode cX12_areAsked 73 = .ok (.istore_n 3, 1) := by decide +kernel
theorem dX12_areAsked_74 : decode cX12_areAsked 74 = .ok (.iinc 4 1, 3) := by decide +kernel
theorem dX12_areAsked_77 : decode cX12_areAsked 77 = .ok (.goto (-44), 3) := by decide +kernel
theorem dX12_areAsked_52 : decode cX12_areAsked 52 = .ok (.aload_n 0, 1) := by decide +kernel
theorem dX12_areAsked_53 : decode cX12_areAsked 53 = .ok (.iload_n 2, 1) := by decide +kernel
theorem dX12_areAsked_54 : decode cX12_areAsked 54 = .ok (.iconst 3, 1) := by decide +kernel
theorem dX12_areAsked_55 : decode cX12_areAsked 55 = .ok (.iload 4, 2) := by decide +kernel
theorem dX12_areAsked_57 : decode cX12_areAsked 57 = .ok (.imul, 1) := by decide +kernel
theorem dX12_areAsked_58 : decode cX12_areAsked 58 = .ok (.ishr, 1) := by decide +kernel
theorem dX12_areAsked_59 : decode cX12_areAsked 59 = .ok (.bipush 7, 2) := by decide +kernel
theorem dX12_areAsked_61 : decode cX12_areAsked 61 = .ok (.iand, 1) := by decide +kernel
theorem dX12_areAsked_62 : decode cX12_areAsked 62 = .ok (.invokevirtual 224, 3) := by decide +kernel
theorem dX12_areAsked_65 : decode cX12_areAsked 65 = .ok (.ifCond .eq 7, 3) := by decide +kernel
theorem dX12_areAsked_72 : decode cX12_areAsked 72 = .ok (.iconst 0, 1) := by decide +kernel
theorem dX12_areAsked_80 : decode cX12_areAsked 80 = .ok (.iload_n 3, 1) := by decide +kernel
theorem dX12_areAsked_81 : decode cX12_areAsked 81 = .ok (.ireturn, 1) := by decide +kernel
theorem dX12_areAsked_28 : decode cX12_areAsked 28 = .ok (.iconst 0, 1) := by decide +kernel
set_option maxRecDepth 100000 in
set_option maxHeartbeats 4000000 in
theorem r_areAsked (l : Launch) (E : EV) (hm : Nat) (p0 : Int32) (p1 : Int32) (m_manys : Nat) (m_reals : Nat) (m_factsOf : Nat) (m_possible : Nat) (m_tape : Nat) (m_ends : Nat) (m_letters : Nat) (m_actOf : Nat) (m_whom : Nat) (m_actMany : Nat) (m_tokens : Nat) (m_afters : Nat) (m_afterOf : Nat) (m_pile : Nat) (m_caseMany : Nat) (m_happen : Nat) (m_hasIf : Nat) (m_becomes : Nat) (m_goneOf : Nat) (m_heard : Nat) (m_pairs : Nat) (m_heaps : Nat) (m_led : Nat) (m_newAt : Nat) (m_knowing : Nat) (m_firsts : Nat) (m_secrets : Nat) (m_tried : Nat) (m_lanes : Nat) (m_lengths : Nat) (m_cells : Nat)  : CT l yX12_areAsked (Cond.code yX12_areAsked cX12_areAsked 5 (some .boolean) :: TB) ({ frames := 2, cells := 0, slots := 0, locals := 46 }) E [.ref hm, .int p0, .int p1] [(hm, .inr (12, [.ref m_manys, .ref m_reals, .ref m_factsOf, .ref m_possible, .int 0, .int 0, .ref m_tape, .int 0, .int 0, .int 0, .int 0, .int 0, .int 0, .int 0, .int 0, .ref m_ends, .ref m_letters, .ref m_actOf, .ref m_whom, .ref m_actMany, .ref m_tokens, .ref m_afters, .ref m_afterOf, .int 0, .ref m_pile, .ref m_caseMany, .ref m_happen, .ref m_hasIf, .ref m_becomes, .ref m_goneOf, .ref m_heard, .ref m_pairs, .ref m_heaps, .int 0, .int 0, .ref m_led, .ref m_newAt, .ref m_knowing, .ref m_firsts, .int 0, .ref m_secrets, .ref m_tried, .ref m_lanes, .ref m_lengths, .ref m_cells])), (m_tokens, .inl (E.2.1 1, 9, .inl (fun _ => 0)))] (Qi E (fun (r : Int32) u => (r = 0 ∧ u = [(hm, .inr (12, [.ref m_manys, .ref m_reals, .ref m_factsOf, .ref m_possible, .int 0, .int 0, .ref m_tape, .int 0, .int 0, .int 0, .int 0, .int 0, .int 0, .int 0, .int 0, .ref m_ends, .ref m_letters, .ref m_actOf, .ref m_whom, .ref m_actMany, .ref m_tokens, .ref m_afters, .ref m_afterOf, .int 0, .ref m_pile, .ref m_caseMany, .ref m_happen, .ref m_hasIf, .ref m_becomes, .ref m_goneOf, .ref m_heard, .ref m_pairs, .ref m_heaps, .int 0, .int 0, .ref m_led, .ref m_newAt, .ref m_knowing, .ref m_firsts, .int 0, .ref m_secrets, .ref m_tried, .ref m_lanes, .ref m_lengths, .ref m_cells])), (m_tokens, .inl (E.2.1 1, 9, .inl (fun _ => 0)))]))) 0 0 := by
  refine ct_of rfl rfl ?_
  intro X C hT hin
  show WW X 5 E 0 [(0, .ref hm), (1, .int p0), (2, .int p1)] [] [(hm, .inr (12, [.ref m_manys, .ref m_reals, .ref m_factsOf, .ref m_possible, .int 0, .int 0, .ref m_tape, .int 0, .int 0, .int 0, .int 0, .int 0, .int 0, .int 0, .int 0, .ref m_ends, .ref m_letters, .ref m_actOf, .ref m_whom, .ref m_actMany, .ref m_tokens, .ref m_afters, .ref m_afterOf, .int 0, .ref m_pile, .ref m_caseMany, .ref m_happen, .ref m_hasIf, .ref m_becomes, .ref m_goneOf, .ref m_heard, .ref m_pairs, .ref m_heaps, .int 0, .int 0, .ref m_led, .ref m_newAt, .ref m_knowing, .ref m_firsts, .int 0, .ref m_secrets, .ref m_tried, .ref m_lanes, .ref m_lengths, .ref m_cells])), (m_tokens, .inl (E.2.1 1, 9, .inl (fun _ => 0)))] 0 0
  refine ww_iload_n C dX12_areAsked_0 1 rfl rfl ?_
  refine ww_i2l (v := p0.toInt64) C dX12_areAsked_1 rfl ?_
  refine ww_lconst (v := 1) C dX12_areAsked_2 rfl ?_
  refine ww_ldc2 C wv_X12_119 dX12_areAsked_3 ?_
  refine ww_ci (wr := [(hm, .inr (12, [.ref m_manys, .ref m_reals, .ref m_factsOf, .ref m_possible, .int 0, .int 0, .ref m_tape, .int 0, .int 0, .int 0, .int 0, .int 0, .int 0, .int 0, .int 0, .ref m_ends, .ref m_letters, .ref m_actOf, .ref m_whom, .ref m_actMany, .ref m_tokens, .ref m_afters, .ref m_afterOf, .int 0, .ref m_pile, .ref m_caseMany, .ref m_happen, .ref m_hasIf, .ref m_becomes, .ref m_goneOf, .ref m_heard, .ref m_pairs, .ref m_heaps, .int 0, .int 0, .ref m_led, .ref m_newAt, .ref m_knowing, .ref m_firsts, .int 0, .ref m_secrets, .ref m_tried, .ref m_lanes, .ref m_lengths, .ref m_cells])), (m_tokens, .inl (E.2.1 1, 9, .inl (fun _ => 0)))]) (k' := 0) (n' := 0) C (run_S (As := [.long p0.toInt64, .long 1, .long 15]) (rest := []) C (r_in X.2.1 E p0.toInt64 1 15 p0.toInt 1 15 (Int32.toInt_toInt64 _) rfl rfl) ms_X12_in wl_X12_115 rfl rfl rfl rfl dX12_areAsked_6) [] [0, 1] rfl rfl rfl rfl (fun r u hw => ?_)
  rcases hw with ⟨rfl, rfl, h_1, h_2⟩ | ⟨rfl, rfl, h_3⟩
  · refine ww_eq (ws' := [(hm, .inr (12, [.ref m_manys, .ref m_reals, .ref m_factsOf, .ref m_possible, .int 0, .int 0, .ref m_tape, .int 0, .int 0, .int 0, .int 0, .int 0, .int 0, .int 0, .int 0, .ref m_ends, .ref m_letters, .ref m_actOf, .ref m_whom, .ref m_actMany, .ref m_tokens, .ref m_afters, .ref m_afterOf, .int 0, .ref m_pile, .ref m_caseMany, .ref m_happen, .ref m_hasIf, .ref m_becomes, .ref m_goneOf, .ref m_heard, .ref m_pairs, .ref m_heaps, .int 0, .int 0, .ref m_led, .ref m_newAt, .ref m_knowing, .ref m_firsts, .int 0, .ref m_secrets, .ref m_tried, .ref m_lanes, .ref m_lengths, .ref m_cells])), (m_tokens, .inl (E.2.1 1, 9, .inl (fun _ => 0)))]) ?_ rfl rfl rfl
    refine ww_if_eq_f (tgt := 28) C dX12_areAsked_9 (by decide) (by decide) ?_
    refine ww_iload_n C dX12_areAsked_12 2 rfl rfl ?_
    refine ww_i2l (v := p1.toInt64) C dX12_areAsked_13 rfl ?_
    refine ww_lconst (v := 0) C dX12_areAsked_14 rfl ?_
    refine ww_ldc2 C wv_X12_310 dX12_areAsked_15 ?_
    refine ww_ci (wr := [(hm, .inr (12, [.ref m_manys, .ref m_reals, .ref m_factsOf, .ref m_possible, .int 0, .int 0, .ref m_tape, .int 0, .int 0, .int 0, .int 0, .int 0, .int 0, .int 0, .int 0, .ref m_ends, .ref m_letters, .ref m_actOf, .ref m_whom, .ref m_actMany, .ref m_tokens, .ref m_afters, .ref m_afterOf, .int 0, .ref m_pile, .ref m_caseMany, .ref m_happen, .ref m_hasIf, .ref m_becomes, .ref m_goneOf, .ref m_heard, .ref m_pairs, .ref m_heaps, .int 0, .int 0, .ref m_led, .ref m_newAt, .ref m_knowing, .ref m_firsts, .int 0, .ref m_secrets, .ref m_tried, .ref m_lanes, .ref m_lengths, .ref m_cells])), (m_tokens, .inl (E.2.1 1, 9, .inl (fun _ => 0)))]) (k' := 0) (n' := 0) C (run_S (As := [.long p1.toInt64, .long 0, .long 4095]) (rest := []) C (r_in X.2.1 E p1.toInt64 0 4095 p1.toInt 0 4095 (Int32.toInt_toInt64 _) rfl rfl) ms_X12_in wl_X12_115 rfl rfl rfl rfl dX12_areAsked_18) [] [0, 1] rfl rfl rfl rfl (fun r u hw => ?_)
    rcases hw with ⟨rfl, rfl, h_4, h_5⟩ | ⟨rfl, rfl, h_6⟩
    · refine ww_eq (ws' := [(hm, .inr (12, [.ref m_manys, .ref m_reals, .ref m_factsOf, .ref m_possible, .int 0, .int 0, .ref m_tape, .int 0, .int 0, .int 0, .int 0, .int 0, .int 0, .int 0, .int 0, .ref m_ends, .ref m_letters, .ref m_actOf, .ref m_whom, .ref m_actMany, .ref m_tokens, .ref m_afters, .ref m_afterOf, .int 0, .ref m_pile, .ref m_caseMany, .ref m_happen, .ref m_hasIf, .ref m_becomes, .ref m_goneOf, .ref m_heard, .ref m_pairs, .ref m_heaps, .int 0, .int 0, .ref m_led, .ref m_newAt, .ref m_knowing, .ref m_firsts, .int 0, .ref m_secrets, .ref m_tried, .ref m_lanes, .ref m_lengths, .ref m_cells])), (m_tokens, .inl (E.2.1 1, 9, .inl (fun _ => 0)))]) ?_ rfl rfl rfl
      refine ww_if_eq_f (tgt := 28) C dX12_areAsked_21 (by decide) (by decide) ?_
      refine ww_iconst (v := 1) C dX12_areAsked_24 rfl ?_
      refine ww_goto (tgt := 29) C dX12_areAsked_25 (by decide) ?_
      refine ww_istore_n (lv' := [(3, .int 1), (0, .ref hm), (1, .int p0), (2, .int p1)]) C dX12_areAsked_29 rfl rfl rfl ?_
      refine ww_iconst (v := 0) C dX12_areAsked_30 rfl ?_
      refine ww_istore (lv' := [(4, .int 0), (3, .int 1), (0, .ref hm), (1, .int p0), (2, .int p1)]) C dX12_areAsked_31 rfl rfl ?_
      refine ww_iload C dX12_areAsked_33 0 rfl ?_
      refine ww_iconst (v := 4) C dX12_areAsked_35 rfl ?_
      refine ww_icmp_ge_f (tgt := 80) C dX12_areAsked_36 (by decide) (by decide) ?_
      refine ww_iload_n C dX12_areAsked_39 1 rfl rfl ?_
      refine ww_if_eq_f (tgt := 80) C dX12_areAsked_40 (by decide) (by decide) ?_
      refine ww_iload_n C dX12_areAsked_43 3 rfl rfl ?_
      refine ww_iload C dX12_areAsked_44 0 rfl ?_
      obtain ⟨x_7, ex_7⟩ : ∃ z : Int32, p0 >>> ((0 : Int32) &&& 31) = z := ⟨_, rfl⟩
      refine ww_ishr (v := x_7) C dX12_areAsked_46 ex_7 ?_
      refine ww_iconst (v := 1) C dX12_areAsked_47 rfl ?_
      obtain ⟨x_8, ex_8⟩ : ∃ z : Int32, x_7 &&& (1 : Int32) = z := ⟨_, rfl⟩
      refine ww_iand (v := x_8) C dX12_areAsked_48 ex_8 ?_
      refine ww_if_eq (tgt := 68) C dX12_areAsked_49 (by decide) (fun c_9 => ?_) (fun c_9 => ?_)
      · have zc_9 : x_8.toInt = 0 := i_eq rfl rfl c_9
        refine ww_iconst (v := 1) C dX12_areAsked_68 rfl ?_
        refine ww_goto (tgt := 73) C dX12_areAsked_69 (by decide) ?_
        refine ww_istore_n (lv' := [(3, .int 1), (4, .int 0), (0, .ref hm), (1, .int p0), (2, .int p1)]) C dX12_areAsked_73 rfl rfl rfl ?_
        refine ww_iinc (j := 1) (v := 1) (lv' := [(4, .int 1), (3, .int 1), (0, .ref hm), (1, .int p0), (2, .int p1)]) C dX12_areAsked_74 rfl rfl rfl rfl ?_
        refine ww_goto (tgt := 33) C dX12_areAsked_77 (by decide) ?_
        refine ww_iload C dX12_areAsked_33 0 rfl ?_
        refine ww_iconst (v := 4) C dX12_areAsked_35 rfl ?_
        refine ww_icmp_ge_f (tgt := 80) C dX12_areAsked_36 (by decide) (by decide) ?_
        refine ww_iload_n C dX12_areAsked_39 1 rfl rfl ?_
        refine ww_if_eq_f (tgt := 80) C dX12_areAsked_40 (by decide) (by decide) ?_
        refine ww_iload_n C dX12_areAsked_43 3 rfl rfl ?_
        refine ww_iload C dX12_areAsked_44 0 rfl ?_
        obtain ⟨x_10, ex_10⟩ : ∃ z : Int32, p0 >>> ((1 : Int32) &&& 31) = z := ⟨_, rfl⟩
        refine ww_ishr (v := x_10) C dX12_areAsked_46 ex_10 ?_
        refine ww_iconst (v := 1) C dX12_areAsked_47 rfl ?_
        obtain ⟨x_11, ex_11⟩ : ∃ z : Int32, x_10 &&& (1 : Int32) = z := ⟨_, rfl⟩
        refine ww_iand (v := x_11) C dX12_areAsked_48 ex_11 ?_
        refine ww_if_eq (tgt := 68) C dX12_areAsked_49 (by decide) (fun c_12 => ?_) (fun c_12 => ?_)
        · have zc_12 : x_11.toInt = 0 := i_eq rfl rfl c_12
          refine ww_iconst (v := 1) C dX12_areAsked_68 rfl ?_
          refine ww_goto (tgt := 73) C dX12_areAsked_69 (by decide) ?_
          refine ww_istore_n (lv' := [(3, .int 1), (4, .int 1), (0, .ref hm), (1, .int p0), (2, .int p1)]) C dX12_areAsked_73 rfl rfl rfl ?_
          refine ww_iinc (j := 1) (v := 2) (lv' := [(4, .int 2), (3, .int 1), (0, .ref hm), (1, .int p0), (2, .int p1)]) C dX12_areAsked_74 rfl rfl rfl rfl ?_
          refine ww_goto (tgt := 33) C dX12_areAsked_77 (by decide) ?_
          refine ww_iload C dX12_areAsked_33 0 rfl ?_
          refine ww_iconst (v := 4) C dX12_areAsked_35 rfl ?_
          refine ww_icmp_ge_f (tgt := 80) C dX12_areAsked_36 (by decide) (by decide) ?_
          refine ww_iload_n C dX12_areAsked_39 1 rfl rfl ?_
          refine ww_if_eq_f (tgt := 80) C dX12_areAsked_40 (by decide) (by decide) ?_
          refine ww_iload_n C dX12_areAsked_43 3 rfl rfl ?_
          refine ww_iload C dX12_areAsked_44 0 rfl ?_
          obtain ⟨x_13, ex_13⟩ : ∃ z : Int32, p0 >>> ((2 : Int32) &&& 31) = z := ⟨_, rfl⟩
          refine ww_ishr (v := x_13) C dX12_areAsked_46 ex_13 ?_
          refine ww_iconst (v := 1) C dX12_areAsked_47 rfl ?_
          obtain ⟨x_14, ex_14⟩ : ∃ z : Int32, x_13 &&& (1 : Int32) = z := ⟨_, rfl⟩
          refine ww_iand (v := x_14) C dX12_areAsked_48 ex_14 ?_
          refine ww_if_eq (tgt := 68) C dX12_areAsked_49 (by decide) (fun c_15 => ?_) (fun c_15 => ?_)
          · have zc_15 : x_14.toInt = 0 := i_eq rfl rfl c_15
            refine ww_iconst (v := 1) C dX12_areAsked_68 rfl ?_
            refine ww_goto (tgt := 73) C dX12_areAsked_69 (by decide) ?_
            refine ww_istore_n (lv' := [(3, .int 1), (4, .int 2), (0, .ref hm), (1, .int p0), (2, .int p1)]) C dX12_areAsked_73 rfl rfl rfl ?_
            refine ww_iinc (j := 1) (v := 3) (lv' := [(4, .int 3), (3, .int 1), (0, .ref hm), (1, .int p0), (2, .int p1)]) C dX12_areAsked_74 rfl rfl rfl rfl ?_
            refine ww_goto (tgt := 33) C dX12_areAsked_77 (by decide) ?_
            refine ww_iload C dX12_areAsked_33 0 rfl ?_
            refine ww_iconst (v := 4) C dX12_areAsked_35 rfl ?_
            refine ww_icmp_ge_f (tgt := 80) C dX12_areAsked_36 (by decide) (by decide) ?_
            refine ww_iload_n C dX12_areAsked_39 1 rfl rfl ?_
            refine ww_if_eq_f (tgt := 80) C dX12_areAsked_40 (by decide) (by decide) ?_
            refine ww_iload_n C dX12_areAsked_43 3 rfl rfl ?_
            refine ww_iload C dX12_areAsked_44 0 rfl ?_
            obtain ⟨x_16, ex_16⟩ : ∃ z : Int32, p0 >>> ((3 : Int32) &&& 31) = z := ⟨_, rfl⟩
            refine ww_ishr (v := x_16) C dX12_areAsked_46 ex_16 ?_
            refine ww_iconst (v := 1) C dX12_areAsked_47 rfl ?_
            obtain ⟨x_17, ex_17⟩ : ∃ z : Int32, x_16 &&& (1 : Int32) = z := ⟨_, rfl⟩
            refine ww_iand (v := x_17) C dX12_areAsked_48 ex_17 ?_
            refine ww_if_eq (tgt := 68) C dX12_areAsked_49 (by decide) (fun c_18 => ?_) (fun c_18 => ?_)
            · have zc_18 : x_17.toInt = 0 := i_eq rfl rfl c_18
              refine ww_iconst (v := 1) C dX12_areAsked_68 rfl ?_
              refine ww_goto (tgt := 73) C dX12_areAsked_69 (by decide) ?_
              refine ww_istore_n (lv' := [(3, .int 1), (4, .int 3), (0, .ref hm), (1, .int p0), (2, .int p1)]) C dX12_areAsked_73 rfl rfl rfl ?_
              refine ww_iinc (j := 1) (v := 4) (lv' := [(4, .int 4), (3, .int 1), (0, .ref hm), (1, .int p0), (2, .int p1)]) C dX12_areAsked_74 rfl rfl rfl rfl ?_
              refine ww_goto (tgt := 33) C dX12_areAsked_77 (by decide) ?_
              refine ww_iload C dX12_areAsked_33 0 rfl ?_
              refine ww_iconst (v := 4) C dX12_areAsked_35 rfl ?_
              refine ww_icmp_ge_t (tgt := 80) C dX12_areAsked_36 (by decide) (by decide) ?_
              exact (nb4e (x := p0) (by omega) (by omega) (by assumption) (by assumption) (by assumption) (by assumption) (by assumption) (by assumption) (by assumption) (by assumption) (by assumption) (by assumption) (by assumption) (by assumption)).elim
            · have zc_18 : x_17.toInt ≠ 0 := i_ne rfl rfl c_18
              refine ww_aload_n C dX12_areAsked_52 2 rfl rfl ?_
              refine ww_iload_n C dX12_areAsked_53 4 rfl rfl ?_
              refine ww_iconst (v := 3) C dX12_areAsked_54 rfl ?_
              refine ww_iload C dX12_areAsked_55 0 rfl ?_
              refine ww_imul (v := 9) C dX12_areAsked_57 (by decide) ?_
              obtain ⟨x_19, ex_19⟩ : ∃ z : Int32, p1 >>> ((9 : Int32) &&& 31) = z := ⟨_, rfl⟩
              refine ww_ishr (v := x_19) C dX12_areAsked_58 ex_19 ?_
              refine ww_bipush (v := 7) C dX12_areAsked_59 rfl ?_
              obtain ⟨x_20, ex_20⟩ : ∃ z : Int32, x_19 &&& (7 : Int32) = z := ⟨_, rfl⟩
              refine ww_iand (v := x_20) C dX12_areAsked_61 ex_20 ?_
              refine ww_ci (wr := []) (k' := 0) (n' := 0) C (run_V (As := [.int x_20]) (rest := []) C (r_isSaying X.2.1 E hm x_20 m_manys m_reals m_factsOf m_possible m_tape m_ends m_letters m_actOf m_whom m_actMany m_tokens m_afters m_afterOf m_pile m_caseMany m_happen m_hasIf m_becomes m_goneOf m_heard m_pairs m_heaps m_led m_newAt m_knowing m_firsts m_secrets m_tried m_lanes m_lengths m_cells) mi_X12_isSaying wl_X12_224 rfl 0 12 rfl rfl rfl rfl rfl dX12_areAsked_62) [0, 1] [] rfl rfl rfl rfl (fun r u hw => ?_)
              obtain ⟨rfl, rfl⟩ := hw
              refine ww_eq (ws' := [(hm, .inr (12, [.ref m_manys, .ref m_reals, .ref m_factsOf, .ref m_possible, .int 0, .int 0, .ref m_tape, .int 0, .int 0, .int 0, .int 0, .int 0, .int 0, .int 0, .int 0, .ref m_ends, .ref m_letters, .ref m_actOf, .ref m_whom, .ref m_actMany, .ref m_tokens, .ref m_afters, .ref m_afterOf, .int 0, .ref m_pile, .ref m_caseMany, .ref m_happen, .ref m_hasIf, .ref m_becomes, .ref m_goneOf, .ref m_heard, .ref m_pairs, .ref m_heaps, .int 0, .int 0, .ref m_led, .ref m_newAt, .ref m_knowing, .ref m_firsts, .int 0, .ref m_secrets, .ref m_tried, .ref m_lanes, .ref m_lengths, .ref m_cells])), (m_tokens, .inl (E.2.1 1, 9, .inl (fun _ => 0)))]) ?_ rfl rfl rfl
              refine ww_if_eq_t (tgt := 72) C dX12_areAsked_65 (by decide) (rfl) ?_
              refine ww_iconst (v := 0) C dX12_areAsked_72 rfl ?_
              refine ww_istore_n (lv' := [(3, .int 0), (4, .int 3), (0, .ref hm), (1, .int p0), (2, .int p1)]) C dX12_areAsked_73 rfl rfl rfl ?_
              refine ww_iinc (j := 1) (v := 4) (lv' := [(4, .int 4), (3, .int 0), (0, .ref hm), (1, .int p0), (2, .int p1)]) C dX12_areAsked_74 rfl rfl rfl rfl ?_
              refine ww_goto (tgt := 33) C dX12_areAsked_77 (by decide) ?_
              refine ww_iload C dX12_areAsked_33 0 rfl ?_
              refine ww_iconst (v := 4) C dX12_areAsked_35 rfl ?_
              refine ww_icmp_ge_t (tgt := 80) C dX12_areAsked_36 (by decide) (by decide) ?_
              refine ww_iload_n C dX12_areAsked_80 1 rfl rfl ?_
              exact ww_zret (u := [(hm, .inr (12, [.ref m_manys, .ref m_reals, .ref m_factsOf, .ref m_possible, .int 0, .int 0, .ref m_tape, .int 0, .int 0, .int 0, .int 0, .int 0, .int 0, .int 0, .int 0, .ref m_ends, .ref m_letters, .ref m_actOf, .ref m_whom, .ref m_actMany, .ref m_tokens, .ref m_afters, .ref m_afterOf, .int 0, .ref m_pile, .ref m_caseMany, .ref m_happen, .ref m_hasIf, .ref m_becomes, .ref m_goneOf, .ref m_heard, .ref m_pairs, .ref m_heaps, .int 0, .int 0, .ref m_led, .ref m_newAt, .ref m_knowing, .ref m_firsts, .int 0, .ref m_secrets, .ref m_tried, .ref m_lanes, .ref m_lengths, .ref m_cells])), (m_tokens, .inl (E.2.1 1, 9, .inl (fun _ => 0)))]) C hT [0, 1] rfl rfl rfl rfl rfl dX12_areAsked_81 (⟨rfl, rfl⟩)
          · have zc_15 : x_14.toInt ≠ 0 := i_ne rfl rfl c_15
            refine ww_aload_n C dX12_areAsked_52 2 rfl rfl ?_
            refine ww_iload_n C dX12_areAsked_53 4 rfl rfl ?_
            refine ww_iconst (v := 3) C dX12_areAsked_54 rfl ?_
            refine ww_iload C dX12_areAsked_55 0 rfl ?_
            refine ww_imul (v := 6) C dX12_areAsked_57 (by decide) ?_
            obtain ⟨x_21, ex_21⟩ : ∃ z : Int32, p1 >>> ((6 : Int32) &&& 31) = z := ⟨_, rfl⟩
            refine ww_ishr (v := x_21) C dX12_areAsked_58 ex_21 ?_
            refine ww_bipush (v := 7) C dX12_areAsked_59 rfl ?_
            obtain ⟨x_22, ex_22⟩ : ∃ z : Int32, x_21 &&& (7 : Int32) = z := ⟨_, rfl⟩
            refine ww_iand (v := x_22) C dX12_areAsked_61 ex_22 ?_
            refine ww_ci (wr := []) (k' := 0) (n' := 0) C (run_V (As := [.int x_22]) (rest := []) C (r_isSaying X.2.1 E hm x_22 m_manys m_reals m_factsOf m_possible m_tape m_ends m_letters m_actOf m_whom m_actMany m_tokens m_afters m_afterOf m_pile m_caseMany m_happen m_hasIf m_becomes m_goneOf m_heard m_pairs m_heaps m_led m_newAt m_knowing m_firsts m_secrets m_tried m_lanes m_lengths m_cells) mi_X12_isSaying wl_X12_224 rfl 0 12 rfl rfl rfl rfl rfl dX12_areAsked_62) [0, 1] [] rfl rfl rfl rfl (fun r u hw => ?_)
            obtain ⟨rfl, rfl⟩ := hw
            refine ww_eq (ws' := [(hm, .inr (12, [.ref m_manys, .ref m_reals, .ref m_factsOf, .ref m_possible, .int 0, .int 0, .ref m_tape, .int 0, .int 0, .int 0, .int 0, .int 0, .int 0, .int 0, .int 0, .ref m_ends, .ref m_letters, .ref m_actOf, .ref m_whom, .ref m_actMany, .ref m_tokens, .ref m_afters, .ref m_afterOf, .int 0, .ref m_pile, .ref m_caseMany, .ref m_happen, .ref m_hasIf, .ref m_becomes, .ref m_goneOf, .ref m_heard, .ref m_pairs, .ref m_heaps, .int 0, .int 0, .ref m_led, .ref m_newAt, .ref m_knowing, .ref m_firsts, .int 0, .ref m_secrets, .ref m_tried, .ref m_lanes, .ref m_lengths, .ref m_cells])), (m_tokens, .inl (E.2.1 1, 9, .inl (fun _ => 0)))]) ?_ rfl rfl rfl
            refine ww_if_eq_t (tgt := 72) C dX12_areAsked_65 (by decide) (rfl) ?_
            refine ww_iconst (v := 0) C dX12_areAsked_72 rfl ?_
            refine ww_istore_n (lv' := [(3, .int 0), (4, .int 2), (0, .ref hm), (1, .int p0), (2, .int p1)]) C dX12_areAsked_73 rfl rfl rfl ?_
            refine ww_iinc (j := 1) (v := 3) (lv' := [(4, .int 3), (3, .int 0), (0, .ref hm), (1, .int p0), (2, .int p1)]) C dX12_areAsked_74 rfl rfl rfl rfl ?_
            refine ww_goto (tgt := 33) C dX12_areAsked_77 (by decide) ?_
            refine ww_iload C dX12_areAsked_33 0 rfl ?_
            refine ww_iconst (v := 4) C dX12_areAsked_35 rfl ?_
            refine ww_icmp_ge_f (tgt := 80) C dX12_areAsked_36 (by decide) (by decide) ?_
            refine ww_iload_n C dX12_areAsked_39 1 rfl rfl ?_
            refine ww_if_eq_t (tgt := 80) C dX12_areAsked_40 (by decide) (rfl) ?_
            refine ww_iload_n C dX12_areAsked_80 1 rfl rfl ?_
            exact ww_zret (u := [(hm, .inr (12, [.ref m_manys, .ref m_reals, .ref m_factsOf, .ref m_possible, .int 0, .int 0, .ref m_tape, .int 0, .int 0, .int 0, .int 0, .int 0, .int 0, .int 0, .int 0, .ref m_ends, .ref m_letters, .ref m_actOf, .ref m_whom, .ref m_actMany, .ref m_tokens, .ref m_afters, .ref m_afterOf, .int 0, .ref m_pile, .ref m_caseMany, .ref m_happen, .ref m_hasIf, .ref m_becomes, .ref m_goneOf, .ref m_heard, .ref m_pairs, .ref m_heaps, .int 0, .int 0, .ref m_led, .ref m_newAt, .ref m_knowing, .ref m_firsts, .int 0, .ref m_secrets, .ref m_tried, .ref m_lanes, .ref m_lengths, .ref m_cells])), (m_tokens, .inl (E.2.1 1, 9, .inl (fun _ => 0)))]) C hT [0, 1] rfl rfl rfl rfl rfl dX12_areAsked_81 (⟨rfl, rfl⟩)
        · have zc_12 : x_11.toInt ≠ 0 := i_ne rfl rfl c_12
          refine ww_aload_n C dX12_areAsked_52 2 rfl rfl ?_
          refine ww_iload_n C dX12_areAsked_53 4 rfl rfl ?_
          refine ww_iconst (v := 3) C dX12_areAsked_54 rfl ?_
          refine ww_iload C dX12_areAsked_55 0 rfl ?_
          refine ww_imul (v := 3) C dX12_areAsked_57 (by decide) ?_
          obtain ⟨x_23, ex_23⟩ : ∃ z : Int32, p1 >>> ((3 : Int32) &&& 31) = z := ⟨_, rfl⟩
          refine ww_ishr (v := x_23) C dX12_areAsked_58 ex_23 ?_
          refine ww_bipush (v := 7) C dX12_areAsked_59 rfl ?_
          obtain ⟨x_24, ex_24⟩ : ∃ z : Int32, x_23 &&& (7 : Int32) = z := ⟨_, rfl⟩
          refine ww_iand (v := x_24) C dX12_areAsked_61 ex_24 ?_
          refine ww_ci (wr := []) (k' := 0) (n' := 0) C (run_V (As := [.int x_24]) (rest := []) C (r_isSaying X.2.1 E hm x_24 m_manys m_reals m_factsOf m_possible m_tape m_ends m_letters m_actOf m_whom m_actMany m_tokens m_afters m_afterOf m_pile m_caseMany m_happen m_hasIf m_becomes m_goneOf m_heard m_pairs m_heaps m_led m_newAt m_knowing m_firsts m_secrets m_tried m_lanes m_lengths m_cells) mi_X12_isSaying wl_X12_224 rfl 0 12 rfl rfl rfl rfl rfl dX12_areAsked_62) [0, 1] [] rfl rfl rfl rfl (fun r u hw => ?_)
          obtain ⟨rfl, rfl⟩ := hw
          refine ww_eq (ws' := [(hm, .inr (12, [.ref m_manys, .ref m_reals, .ref m_factsOf, .ref m_possible, .int 0, .int 0, .ref m_tape, .int 0, .int 0, .int 0, .int 0, .int 0, .int 0, .int 0, .int 0, .ref m_ends, .ref m_letters, .ref m_actOf, .ref m_whom, .ref m_actMany, .ref m_tokens, .ref m_afters, .ref m_afterOf, .int 0, .ref m_pile, .ref m_caseMany, .ref m_happen, .ref m_hasIf, .ref m_becomes, .ref m_goneOf, .ref m_heard, .ref m_pairs, .ref m_heaps, .int 0, .int 0, .ref m_led, .ref m_newAt, .ref m_knowing, .ref m_firsts, .int 0, .ref m_secrets, .ref m_tried, .ref m_lanes, .ref m_lengths, .ref m_cells])), (m_tokens, .inl (E.2.1 1, 9, .inl (fun _ => 0)))]) ?_ rfl rfl rfl
          refine ww_if_eq_t (tgt := 72) C dX12_areAsked_65 (by decide) (rfl) ?_
          refine ww_iconst (v := 0) C dX12_areAsked_72 rfl ?_
          refine ww_istore_n (lv' := [(3, .int 0), (4, .int 1), (0, .ref hm), (1, .int p0), (2, .int p1)]) C dX12_areAsked_73 rfl rfl rfl ?_
          refine ww_iinc (j := 1) (v := 2) (lv' := [(4, .int 2), (3, .int 0), (0, .ref hm), (1, .int p0), (2, .int p1)]) C dX12_areAsked_74 rfl rfl rfl rfl ?_
          refine ww_goto (tgt := 33) C dX12_areAsked_77 (by decide) ?_
          refine ww_iload C dX12_areAsked_33 0 rfl ?_
          refine ww_iconst (v := 4) C dX12_areAsked_35 rfl ?_
          refine ww_icmp_ge_f (tgt := 80) C dX12_areAsked_36 (by decide) (by decide) ?_
          refine ww_iload_n C dX12_areAsked_39 1 rfl rfl ?_
          refine ww_if_eq_t (tgt := 80) C dX12_areAsked_40 (by decide) (rfl) ?_
          refine ww_iload_n C dX12_areAsked_80 1 rfl rfl ?_
          exact ww_zret (u := [(hm, .inr (12, [.ref m_manys, .ref m_reals, .ref m_factsOf, .ref m_possible, .int 0, .int 0, .ref m_tape, .int 0, .int 0, .int 0, .int 0, .int 0, .int 0, .int 0, .int 0, .ref m_ends, .ref m_letters, .ref m_actOf, .ref m_whom, .ref m_actMany, .ref m_tokens, .ref m_afters, .ref m_afterOf, .int 0, .ref m_pile, .ref m_caseMany, .ref m_happen, .ref m_hasIf, .ref m_becomes, .ref m_goneOf, .ref m_heard, .ref m_pairs, .ref m_heaps, .int 0, .int 0, .ref m_led, .ref m_newAt, .ref m_knowing, .ref m_firsts, .int 0, .ref m_secrets, .ref m_tried, .ref m_lanes, .ref m_lengths, .ref m_cells])), (m_tokens, .inl (E.2.1 1, 9, .inl (fun _ => 0)))]) C hT [0, 1] rfl rfl rfl rfl rfl dX12_areAsked_81 (⟨rfl, rfl⟩)
      · have zc_9 : x_8.toInt ≠ 0 := i_ne rfl rfl c_9
        refine ww_aload_n C dX12_areAsked_52 2 rfl rfl ?_
        refine ww_iload_n C dX12_areAsked_53 4 rfl rfl ?_
        refine ww_iconst (v := 3) C dX12_areAsked_54 rfl ?_
        refine ww_iload C dX12_areAsked_55 0 rfl ?_
        refine ww_imul (v := 0) C dX12_areAsked_57 (by decide) ?_
        obtain ⟨x_25, ex_25⟩ : ∃ z : Int32, p1 >>> ((0 : Int32) &&& 31) = z := ⟨_, rfl⟩
        refine ww_ishr (v := x_25) C dX12_areAsked_58 ex_25 ?_
        refine ww_bipush (v := 7) C dX12_areAsked_59 rfl ?_
        obtain ⟨x_26, ex_26⟩ : ∃ z : Int32, x_25 &&& (7 : Int32) = z := ⟨_, rfl⟩
        refine ww_iand (v := x_26) C dX12_areAsked_61 ex_26 ?_
        refine ww_ci (wr := []) (k' := 0) (n' := 0) C (run_V (As := [.int x_26]) (rest := []) C (r_isSaying X.2.1 E hm x_26 m_manys m_reals m_factsOf m_possible m_tape m_ends m_letters m_actOf m_whom m_actMany m_tokens m_afters m_afterOf m_pile m_caseMany m_happen m_hasIf m_becomes m_goneOf m_heard m_pairs m_heaps m_led m_newAt m_knowing m_firsts m_secrets m_tried m_lanes m_lengths m_cells) mi_X12_isSaying wl_X12_224 rfl 0 12 rfl rfl rfl rfl rfl dX12_areAsked_62) [0, 1] [] rfl rfl rfl rfl (fun r u hw => ?_)
        obtain ⟨rfl, rfl⟩ := hw
        refine ww_eq (ws' := [(hm, .inr (12, [.ref m_manys, .ref m_reals, .ref m_factsOf, .ref m_possible, .int 0, .int 0, .ref m_tape, .int 0, .int 0, .int 0, .int 0, .int 0, .int 0, .int 0, .int 0, .ref m_ends, .ref m_letters, .ref m_actOf, .ref m_whom, .ref m_actMany, .ref m_tokens, .ref m_afters, .ref m_afterOf, .int 0, .ref m_pile, .ref m_caseMany, .ref m_happen, .ref m_hasIf, .ref m_becomes, .ref m_goneOf, .ref m_heard, .ref m_pairs, .ref m_heaps, .int 0, .int 0, .ref m_led, .ref m_newAt, .ref m_knowing, .ref m_firsts, .int 0, .ref m_secrets, .ref m_tried, .ref m_lanes, .ref m_lengths, .ref m_cells])), (m_tokens, .inl (E.2.1 1, 9, .inl (fun _ => 0)))]) ?_ rfl rfl rfl
        refine ww_if_eq_t (tgt := 72) C dX12_areAsked_65 (by decide) (rfl) ?_
        refine ww_iconst (v := 0) C dX12_areAsked_72 rfl ?_
        refine ww_istore_n (lv' := [(3, .int 0), (4, .int 0), (0, .ref hm), (1, .int p0), (2, .int p1)]) C dX12_areAsked_73 rfl rfl rfl ?_
        refine ww_iinc (j := 1) (v := 1) (lv' := [(4, .int 1), (3, .int 0), (0, .ref hm), (1, .int p0), (2, .int p1)]) C dX12_areAsked_74 rfl rfl rfl rfl ?_
        refine ww_goto (tgt := 33) C dX12_areAsked_77 (by decide) ?_
        refine ww_iload C dX12_areAsked_33 0 rfl ?_
        refine ww_iconst (v := 4) C dX12_areAsked_35 rfl ?_
        refine ww_icmp_ge_f (tgt := 80) C dX12_areAsked_36 (by decide) (by decide) ?_
        refine ww_iload_n C dX12_areAsked_39 1 rfl rfl ?_
        refine ww_if_eq_t (tgt := 80) C dX12_areAsked_40 (by decide) (rfl) ?_
        refine ww_iload_n C dX12_areAsked_80 1 rfl rfl ?_
        exact ww_zret (u := [(hm, .inr (12, [.ref m_manys, .ref m_reals, .ref m_factsOf, .ref m_possible, .int 0, .int 0, .ref m_tape, .int 0, .int 0, .int 0, .int 0, .int 0, .int 0, .int 0, .int 0, .ref m_ends, .ref m_letters, .ref m_actOf, .ref m_whom, .ref m_actMany, .ref m_tokens, .ref m_afters, .ref m_afterOf, .int 0, .ref m_pile, .ref m_caseMany, .ref m_happen, .ref m_hasIf, .ref m_becomes, .ref m_goneOf, .ref m_heard, .ref m_pairs, .ref m_heaps, .int 0, .int 0, .ref m_led, .ref m_newAt, .ref m_knowing, .ref m_firsts, .int 0, .ref m_secrets, .ref m_tried, .ref m_lanes, .ref m_lengths, .ref m_cells])), (m_tokens, .inl (E.2.1 1, 9, .inl (fun _ => 0)))]) C hT [0, 1] rfl rfl rfl rfl rfl dX12_areAsked_81 (⟨rfl, rfl⟩)
    · refine ww_eq (ws' := [(hm, .inr (12, [.ref m_manys, .ref m_reals, .ref m_factsOf, .ref m_possible, .int 0, .int 0, .ref m_tape, .int 0, .int 0, .int 0, .int 0, .int 0, .int 0, .int 0, .int 0, .ref m_ends, .ref m_letters, .ref m_actOf, .ref m_whom, .ref m_actMany, .ref m_tokens, .ref m_afters, .ref m_afterOf, .int 0, .ref m_pile, .ref m_caseMany, .ref m_happen, .ref m_hasIf, .ref m_becomes, .ref m_goneOf, .ref m_heard, .ref m_pairs, .ref m_heaps, .int 0, .int 0, .ref m_led, .ref m_newAt, .ref m_knowing, .ref m_firsts, .int 0, .ref m_secrets, .ref m_tried, .ref m_lanes, .ref m_lengths, .ref m_cells])), (m_tokens, .inl (E.2.1 1, 9, .inl (fun _ => 0)))]) ?_ rfl rfl rfl
      refine ww_if_eq_t (tgt := 28) C dX12_areAsked_21 (by decide) (rfl) ?_
      refine ww_iconst (v := 0) C dX12_areAsked_28 rfl ?_
      refine ww_istore_n (lv' := [(3, .int 0), (0, .ref hm), (1, .int p0), (2, .int p1)]) C dX12_areAsked_29 rfl rfl rfl ?_
      refine ww_iconst (v := 0) C dX12_areAsked_30 rfl ?_
      refine ww_istore (lv' := [(4, .int 0), (3, .int 0), (0, .ref hm), (1, .int p0), (2, .int p1)]) C dX12_areAsked_31 rfl rfl ?_
      refine ww_iload C dX12_areAsked_33 0 rfl ?_
      refine ww_iconst (v := 4) C dX12_areAsked_35 rfl ?_
      refine ww_icmp_ge_f (tgt := 80) C dX12_areAsked_36 (by decide) (by decide) ?_
      refine ww_iload_n C dX12_areAsked_39 1 rfl rfl ?_
      refine ww_if_eq_t (tgt := 80) C dX12_areAsked_40 (by decide) (rfl) ?_
      refine ww_iload_n C dX12_areAsked_80 1 rfl rfl ?_
      exact ww_zret (u := [(hm, .inr (12, [.ref m_manys, .ref m_reals, .ref m_factsOf, .ref m_possible, .int 0, .int 0, .ref m_tape, .int 0, .int 0, .int 0, .int 0, .int 0, .int 0, .int 0, .int 0, .ref m_ends, .ref m_letters, .ref m_actOf, .ref m_whom, .ref m_actMany, .ref m_tokens, .ref m_afters, .ref m_afterOf, .int 0, .ref m_pile, .ref m_caseMany, .ref m_happen, .ref m_hasIf, .ref m_becomes, .ref m_goneOf, .ref m_heard, .ref m_pairs, .ref m_heaps, .int 0, .int 0, .ref m_led, .ref m_newAt, .ref m_knowing, .ref m_firsts, .int 0, .ref m_secrets, .ref m_tried, .ref m_lanes, .ref m_lengths, .ref m_cells])), (m_tokens, .inl (E.2.1 1, 9, .inl (fun _ => 0)))]) C hT [0, 1] rfl rfl rfl rfl rfl dX12_areAsked_81 (⟨rfl, rfl⟩)
  · refine ww_eq (ws' := [(hm, .inr (12, [.ref m_manys, .ref m_reals, .ref m_factsOf, .ref m_possible, .int 0, .int 0, .ref m_tape, .int 0, .int 0, .int 0, .int 0, .int 0, .int 0, .int 0, .int 0, .ref m_ends, .ref m_letters, .ref m_actOf, .ref m_whom, .ref m_actMany, .ref m_tokens, .ref m_afters, .ref m_afterOf, .int 0, .ref m_pile, .ref m_caseMany, .ref m_happen, .ref m_hasIf, .ref m_becomes, .ref m_goneOf, .ref m_heard, .ref m_pairs, .ref m_heaps, .int 0, .int 0, .ref m_led, .ref m_newAt, .ref m_knowing, .ref m_firsts, .int 0, .ref m_secrets, .ref m_tried, .ref m_lanes, .ref m_lengths, .ref m_cells])), (m_tokens, .inl (E.2.1 1, 9, .inl (fun _ => 0)))]) ?_ rfl rfl rfl
    refine ww_if_eq_t (tgt := 28) C dX12_areAsked_9 (by decide) (rfl) ?_
    refine ww_iconst (v := 0) C dX12_areAsked_28 rfl ?_
    refine ww_istore_n (lv' := [(3, .int 0), (0, .ref hm), (1, .int p0), (2, .int p1)]) C dX12_areAsked_29 rfl rfl rfl ?_
    refine ww_iconst (v := 0) C dX12_areAsked_30 rfl ?_
    refine ww_istore (lv' := [(4, .int 0), (3, .int 0), (0, .ref hm), (1, .int p0), (2, .int p1)]) C dX12_areAsked_31 rfl rfl ?_
    refine ww_iload C dX12_areAsked_33 0 rfl ?_
    refine ww_iconst (v := 4) C dX12_areAsked_35 rfl ?_
    refine ww_icmp_ge_f (tgt := 80) C dX12_areAsked_36 (by decide) (by decide) ?_
    refine ww_iload_n C dX12_areAsked_39 1 rfl rfl ?_
    refine ww_if_eq_t (tgt := 80) C dX12_areAsked_40 (by decide) (rfl) ?_
    refine ww_iload_n C dX12_areAsked_80 1 rfl rfl ?_
    exact ww_zret (u := [(hm, .inr (12, [.ref m_manys, .ref m_reals, .ref m_factsOf, .ref m_possible, .int 0, .int 0, .ref m_tape, .int 0, .int 0, .int 0, .int 0, .int 0, .int 0, .int 0, .int 0, .ref m_ends, .ref m_letters, .ref m_actOf, .ref m_whom, .ref m_actMany, .ref m_tokens, .ref m_afters, .ref m_afterOf, .int 0, .ref m_pile, .ref m_caseMany, .ref m_happen, .ref m_hasIf, .ref m_becomes, .ref m_goneOf, .ref m_heard, .ref m_pairs, .ref m_heaps, .int 0, .int 0, .ref m_led, .ref m_newAt, .ref m_knowing, .ref m_firsts, .int 0, .ref m_secrets, .ref m_tried, .ref m_lanes, .ref m_lengths, .ref m_cells])), (m_tokens, .inl (E.2.1 1, 9, .inl (fun _ => 0)))]) C hT [0, 1] rfl rfl rfl rfl rfl dX12_areAsked_81 (⟨rfl, rfl⟩)
theorem dX12_turn_0 : decode cX12_turn 0 = .ok (.aload_n 0, 1) := by decide +kernel
theorem dX12_turn_1 : decode cX12_turn 1 = .ok (.iload_n 1, 1) := by decide +kernel
theorem dX12_turn_2 : decode cX12_turn 2 = .ok (.iload_n 2, 1) := by decide +kernel
theorem dX12_turn_3 : decode cX12_turn 3 = .ok (.invokevirtual 312, 3) := by decide +kernel
theorem wl_X12_312 : Cond.methodLink RX12 312 yX12_areAsked ∈ TB := tbm (tq7 (List.mem_of_getElem? (i := 21) (by decide +kernel))) (by decide +kernel)
theorem wc_X12_areAsked : Cond.code yX12_areAsked cX12_areAsked 5 (some .boolean) ∈ TB := tbm (tq7 (List.mem_of_getElem? (i := 24) (rfl))) (by decide +kernel)
theorem wi_X12_areAsked : Cond.instanceMethod yX12_areAsked ∈ TB := tbm (tq7 (List.mem_of_getElem? (i := 23) (by decide +kernel))) (by decide +kernel)
theorem ws_X12_areAsked : Cond.selects RX12 yX12_areAsked yX12_areAsked ∈ TB := tbm (tq0 (List.mem_of_getElem? (i := 74) (by decide +kernel))) (by decide +kernel)
theorem mi_X12_areAsked : MI yX12_areAsked cX12_areAsked 5 (some .boolean) 2 := ⟨wc_X12_areAsked, wn_X12, ⟨by decide +kernel, by decide +kernel, by decide +kernel⟩, wi_X12_areAsked, ws_X12_areAsked⟩
theorem dX12_turn_6 : decode cX12_turn 6 = .ok (.ifCond .ne 5, 3) := by decide +kernel
theorem dX12_turn_9 : decode cX12_turn 9 = .ok (.iconst (-1), 1) := by decide +kernel
theorem dX12_turn_10 : decode cX12_turn 10 = .ok (.ireturn, 1) := by decide +kernel
set_option maxRecDepth 100000 in
set_option maxHeartbeats 4000000 in
theorem y_turn (l : Launch) (E : EV) (hm : Nat) (p0 : Int32) (p1 : Int32) (m_manys : Nat) (m_reals : Nat) (m_factsOf : Nat) (m_possible : Nat) (m_tape : Nat) (m_ends : Nat) (m_letters : Nat) (m_actOf : Nat) (m_whom : Nat) (m_actMany : Nat) (m_tokens : Nat) (m_afters : Nat) (m_afterOf : Nat) (m_pile : Nat) (m_caseMany : Nat) (m_happen : Nat) (m_hasIf : Nat) (m_becomes : Nat) (m_goneOf : Nat) (m_heard : Nat) (m_pairs : Nat) (m_heaps : Nat) (m_led : Nat) (m_newAt : Nat) (m_knowing : Nat) (m_firsts : Nat) (m_secrets : Nat) (m_tried : Nat) (m_lanes : Nat) (m_lengths : Nat) (m_cells : Nat)  : CT l yX12_turn (Cond.code yX12_turn cX12_turn 4 (some .int) :: TB) ({ frames := 3, cells := 0, slots := 0, locals := 70 }) E [.ref hm, .int p0, .int p1] [(hm, .inr (12, [.ref m_manys, .ref m_reals, .ref m_factsOf, .ref m_possible, .int 0, .int 0, .ref m_tape, .int 0, .int 0, .int 0, .int 0, .int 0, .int 0, .int 0, .int 0, .ref m_ends, .ref m_letters, .ref m_actOf, .ref m_whom, .ref m_actMany, .ref m_tokens, .ref m_afters, .ref m_afterOf, .int 0, .ref m_pile, .ref m_caseMany, .ref m_happen, .ref m_hasIf, .ref m_becomes, .ref m_goneOf, .ref m_heard, .ref m_pairs, .ref m_heaps, .int 0, .int 0, .ref m_led, .ref m_newAt, .ref m_knowing, .ref m_firsts, .int 0, .ref m_secrets, .ref m_tried, .ref m_lanes, .ref m_lengths, .ref m_cells])), (m_tokens, .inl (E.2.1 1, 9, .inl (fun _ => 0)))] (Qi E (fun (r : Int32) u => (r = (-1) ∧ u = []))) 0 0 := by
  refine ct_of rfl rfl ?_
  intro X C hT hin
  show WW X 4 E 0 [(0, .ref hm), (1, .int p0), (2, .int p1)] [] [(hm, .inr (12, [.ref m_manys, .ref m_reals, .ref m_factsOf, .ref m_possible, .int 0, .int 0, .ref m_tape, .int 0, .int 0, .int 0, .int 0, .int 0, .int 0, .int 0, .int 0, .ref m_ends, .ref m_letters, .ref m_actOf, .ref m_whom, .ref m_actMany, .ref m_tokens, .ref m_afters, .ref m_afterOf, .int 0, .ref m_pile, .ref m_caseMany, .ref m_happen, .ref m_hasIf, .ref m_becomes, .ref m_goneOf, .ref m_heard, .ref m_pairs, .ref m_heaps, .int 0, .int 0, .ref m_led, .ref m_newAt, .ref m_knowing, .ref m_firsts, .int 0, .ref m_secrets, .ref m_tried, .ref m_lanes, .ref m_lengths, .ref m_cells])), (m_tokens, .inl (E.2.1 1, 9, .inl (fun _ => 0)))] 0 0
  refine ww_aload_n C dX12_turn_0 0 rfl rfl ?_
  refine ww_iload_n C dX12_turn_1 1 rfl rfl ?_
  refine ww_iload_n C dX12_turn_2 2 rfl rfl ?_
  refine ww_ci (wr := []) (k' := 0) (n' := 0) C (run_V (As := [.int p0, .int p1]) (rest := []) C (r_areAsked X.2.1 E hm p0 p1 m_manys m_reals m_factsOf m_possible m_tape m_ends m_letters m_actOf m_whom m_actMany m_tokens m_afters m_afterOf m_pile m_caseMany m_happen m_hasIf m_becomes m_goneOf m_heard m_pairs m_heaps m_led m_newAt m_knowing m_firsts m_secrets m_tried m_lanes m_lengths m_cells) mi_X12_areAsked wl_X12_312 rfl 0 12 rfl rfl rfl rfl rfl dX12_turn_3) [0, 1] [] rfl rfl rfl rfl (fun r u hw => ?_)
  obtain ⟨rfl, rfl⟩ := hw
  refine ww_eq (ws' := [(hm, .inr (12, [.ref m_manys, .ref m_reals, .ref m_factsOf, .ref m_possible, .int 0, .int 0, .ref m_tape, .int 0, .int 0, .int 0, .int 0, .int 0, .int 0, .int 0, .int 0, .ref m_ends, .ref m_letters, .ref m_actOf, .ref m_whom, .ref m_actMany, .ref m_tokens, .ref m_afters, .ref m_afterOf, .int 0, .ref m_pile, .ref m_caseMany, .ref m_happen, .ref m_hasIf, .ref m_becomes, .ref m_goneOf, .ref m_heard, .ref m_pairs, .ref m_heaps, .int 0, .int 0, .ref m_led, .ref m_newAt, .ref m_knowing, .ref m_firsts, .int 0, .ref m_secrets, .ref m_tried, .ref m_lanes, .ref m_lengths, .ref m_cells])), (m_tokens, .inl (E.2.1 1, 9, .inl (fun _ => 0)))]) ?_ rfl rfl rfl
  refine ww_if_ne_f (tgt := 11) C dX12_turn_6 (by decide) (rfl) ?_
  refine ww_iconst (v := (-1)) C dX12_turn_9 rfl ?_
  exact ww_iret (u := []) C hT [] rfl rfl rfl rfl dX12_turn_10 (⟨rfl, rfl⟩)
theorem dX12_turns_0 : decode cX12_turns 0 = .ok (.aload_n 0, 1) := by decide +kernel
theorem dX12_turns_1 : decode cX12_turns 1 = .ok (.iload_n 1, 1) := by decide +kernel
theorem dX12_turns_2 : decode cX12_turns 2 = .ok (.iload_n 2, 1) := by decide +kernel
theorem dX12_turns_3 : decode cX12_turns 3 = .ok (.invokevirtual 312, 3) := by decide +kernel
theorem dX12_turns_6 : decode cX12_turns 6 = .ok (.ifCond .eq 29, 3) := by decide +kernel
theorem dX12_turns_35 : decode cX12_turns 35 = .ok (.iconst (-1), 1) := by decide +kernel
theorem dX12_turns_36 : decode cX12_turns 36 = .ok (.ireturn, 1) := by decide +kernel
set_option maxRecDepth 100000 in
set_option maxHeartbeats 4000000 in
theorem y_turns (l : Launch) (E : EV) (hm : Nat) (p0 : Int32) (p1 : Int32) (p2 : Int32) (m_manys : Nat) (m_reals : Nat) (m_factsOf : Nat) (m_possible : Nat) (m_tape : Nat) (m_ends : Nat) (m_letters : Nat) (m_actOf : Nat) (m_whom : Nat) (m_actMany : Nat) (m_tokens : Nat) (m_afters : Nat) (m_afterOf : Nat) (m_pile : Nat) (m_caseMany : Nat) (m_happen : Nat) (m_hasIf : Nat) (m_becomes : Nat) (m_goneOf : Nat) (m_heard : Nat) (m_pairs : Nat) (m_heaps : Nat) (m_led : Nat) (m_newAt : Nat) (m_knowing : Nat) (m_firsts : Nat) (m_secrets : Nat) (m_tried : Nat) (m_lanes : Nat) (m_lengths : Nat) (m_cells : Nat)  : CT l yX12_turns (Cond.code yX12_turns cX12_turns 8 (some .int) :: TB) ({ frames := 3, cells := 0, slots := 0, locals := 70 }) E [.ref hm, .int p0, .int p1, .int p2] [(hm, .inr (12, [.ref m_manys, .ref m_reals, .ref m_factsOf, .ref m_possible, .int 0, .int 0, .ref m_tape, .int 0, .int 0, .int 0, .int 0, .int 0, .int 0, .int 0, .int 0, .ref m_ends, .ref m_letters, .ref m_actOf, .ref m_whom, .ref m_actMany, .ref m_tokens, .ref m_afters, .ref m_afterOf, .int 0, .ref m_pile, .ref m_caseMany, .ref m_happen, .ref m_hasIf, .ref m_becomes, .ref m_goneOf, .ref m_heard, .ref m_pairs, .ref m_heaps, .int 0, .int 0, .ref m_led, .ref m_newAt, .ref m_knowing, .ref m_firsts, .int 0, .ref m_secrets, .ref m_tried, .ref m_lanes, .ref m_lengths, .ref m_cells])), (m_tokens, .inl (E.2.1 1, 9, .inl (fun _ => 0)))] (Qi E (fun (r : Int32) u => (r = (-1) ∧ u = []))) 0 0 := by
  refine ct_of rfl rfl ?_
  intro X C hT hin
  show WW X 8 E 0 [(0, .ref hm), (1, .int p0), (2, .int p1), (3, .int p2)] [] [(hm, .inr (12, [.ref m_manys, .ref m_reals, .ref m_factsOf, .ref m_possible, .int 0, .int 0, .ref m_tape, .int 0, .int 0, .int 0, .int 0, .int 0, .int 0, .int 0, .int 0, .ref m_ends, .ref m_letters, .ref m_actOf, .ref m_whom, .ref m_actMany, .ref m_tokens, .ref m_afters, .ref m_afterOf, .int 0, .ref m_pile, .ref m_caseMany, .ref m_happen, .ref m_hasIf, .ref m_becomes, .ref m_goneOf, .ref m_heard, .ref m_pairs, .ref m_heaps, .int 0, .int 0, .ref m_led, .ref m_newAt, .ref m_knowing, .ref m_firsts, .int 0, .ref m_secrets, .ref m_tried, .ref m_lanes, .ref m_lengths, .ref m_cells])), (m_tokens, .inl (E.2.1 1, 9, .inl (fun _ => 0)))] 0 0
  refine ww_aload_n C dX12_turns_0 0 rfl rfl ?_
  refine ww_iload_n C dX12_turns_1 1 rfl rfl ?_
  refine ww_iload_n C dX12_turns_2 2 rfl rfl ?_
  refine ww_ci (wr := []) (k' := 0) (n' := 0) C (run_V (As := [.int p0, .int p1]) (rest := []) C (r_areAsked X.2.1 E hm p0 p1 m_manys m_reals m_factsOf m_possible m_tape m_ends m_letters m_actOf m_whom m_actMany m_tokens m_afters m_afterOf m_pile m_caseMany m_happen m_hasIf m_becomes m_goneOf m_heard m_pairs m_heaps m_led m_newAt m_knowing m_firsts m_secrets m_tried m_lanes m_lengths m_cells) mi_X12_areAsked wl_X12_312 rfl 0 12 rfl rfl rfl rfl rfl dX12_turns_3) [0, 1] [] rfl rfl rfl rfl (fun r u hw => ?_)
  obtain ⟨rfl, rfl⟩ := hw
  refine ww_eq (ws' := [(hm, .inr (12, [.ref m_manys, .ref m_reals, .ref m_factsOf, .ref m_possible, .int 0, .int 0, .ref m_tape, .int 0, .int 0, .int 0, .int 0, .int 0, .int 0, .int 0, .int 0, .ref m_ends, .ref m_letters, .ref m_actOf, .ref m_whom, .ref m_actMany, .ref m_tokens, .ref m_afters, .ref m_afterOf, .int 0, .ref m_pile, .ref m_caseMany, .ref m_happen, .ref m_hasIf, .ref m_becomes, .ref m_goneOf, .ref m_heard, .ref m_pairs, .ref m_heaps, .int 0, .int 0, .ref m_led, .ref m_newAt, .ref m_knowing, .ref m_firsts, .int 0, .ref m_secrets, .ref m_tried, .ref m_lanes, .ref m_lengths, .ref m_cells])), (m_tokens, .inl (E.2.1 1, 9, .inl (fun _ => 0)))]) ?_ rfl rfl rfl
  refine ww_if_eq_t (tgt := 35) C dX12_turns_6 (by decide) (rfl) ?_
  refine ww_iconst (v := (-1)) C dX12_turns_35 rfl ?_
  exact ww_iret (u := []) C hT [] rfl rfl rfl rfl dX12_turns_36 (⟨rfl, rfl⟩)
theorem dX12_plan_0 : decode cX12_plan 0 = .ok (.aload_n 0, 1) := by decide +kernel
theorem dX12_plan_1 : decode cX12_plan 1 = .ok (.iload_n 1, 1) := by decide +kernel
theorem dX12_plan_2 : decode cX12_plan 2 = .ok (.invokevirtual 224, 3) := by decide +kernel
theorem dX12_plan_5 : decode cX12_plan 5 = .ok (.ifCond .eq 40, 3) := by decide +kernel
theorem dX12_plan_45 : decode cX12_plan 45 = .ok (.iconst (-1), 1) := by decide +kernel
theorem dX12_plan_46 : decode cX12_plan 46 = .ok (.ireturn, 1) := by decide +kernel
set_option maxRecDepth 100000 in
set_option maxHeartbeats 4000000 in
theorem y_plan (l : Launch) (E : EV) (hm : Nat) (p0 : Int32) (p1 : Int32) (p2 : Int32) (p3 : Int32) (m_manys : Nat) (m_reals : Nat) (m_factsOf : Nat) (m_possible : Nat) (m_tape : Nat) (m_ends : Nat) (m_letters : Nat) (m_actOf : Nat) (m_whom : Nat) (m_actMany : Nat) (m_tokens : Nat) (m_afters : Nat) (m_afterOf : Nat) (m_pile : Nat) (m_caseMany : Nat) (m_happen : Nat) (m_hasIf : Nat) (m_becomes : Nat) (m_goneOf : Nat) (m_heard : Nat) (m_pairs : Nat) (m_heaps : Nat) (m_led : Nat) (m_newAt : Nat) (m_knowing : Nat) (m_firsts : Nat) (m_secrets : Nat) (m_tried : Nat) (m_lanes : Nat) (m_lengths : Nat) (m_cells : Nat)  : CT l yX12_plan (Cond.code yX12_plan cX12_plan 9 (some .int) :: TB) ({ frames := 2, cells := 0, slots := 0, locals := 46 }) E [.ref hm, .int p0, .int p1, .int p2, .int p3] [(hm, .inr (12, [.ref m_manys, .ref m_reals, .ref m_factsOf, .ref m_possible, .int 0, .int 0, .ref m_tape, .int 0, .int 0, .int 0, .int 0, .int 0, .int 0, .int 0, .int 0, .ref m_ends, .ref m_letters, .ref m_actOf, .ref m_whom, .ref m_actMany, .ref m_tokens, .ref m_afters, .ref m_afterOf, .int 0, .ref m_pile, .ref m_caseMany, .ref m_happen, .ref m_hasIf, .ref m_becomes, .ref m_goneOf, .ref m_heard, .ref m_pairs, .ref m_heaps, .int 0, .int 0, .ref m_led, .ref m_newAt, .ref m_knowing, .ref m_firsts, .int 0, .ref m_secrets, .ref m_tried, .ref m_lanes, .ref m_lengths, .ref m_cells])), (m_tokens, .inl (E.2.1 1, 9, .inl (fun _ => 0)))] (Qi E (fun (r : Int32) u => (r = (-1) ∧ u = []))) 0 0 := by
  refine ct_of rfl rfl ?_
  intro X C hT hin
  show WW X 9 E 0 [(0, .ref hm), (1, .int p0), (2, .int p1), (3, .int p2), (4, .int p3)] [] [(hm, .inr (12, [.ref m_manys, .ref m_reals, .ref m_factsOf, .ref m_possible, .int 0, .int 0, .ref m_tape, .int 0, .int 0, .int 0, .int 0, .int 0, .int 0, .int 0, .int 0, .ref m_ends, .ref m_letters, .ref m_actOf, .ref m_whom, .ref m_actMany, .ref m_tokens, .ref m_afters, .ref m_afterOf, .int 0, .ref m_pile, .ref m_caseMany, .ref m_happen, .ref m_hasIf, .ref m_becomes, .ref m_goneOf, .ref m_heard, .ref m_pairs, .ref m_heaps, .int 0, .int 0, .ref m_led, .ref m_newAt, .ref m_knowing, .ref m_firsts, .int 0, .ref m_secrets, .ref m_tried, .ref m_lanes, .ref m_lengths, .ref m_cells])), (m_tokens, .inl (E.2.1 1, 9, .inl (fun _ => 0)))] 0 0
  refine ww_aload_n C dX12_plan_0 0 rfl rfl ?_
  refine ww_iload_n C dX12_plan_1 1 rfl rfl ?_
  refine ww_ci (wr := []) (k' := 0) (n' := 0) C (run_V (As := [.int p0]) (rest := []) C (r_isSaying X.2.1 E hm p0 m_manys m_reals m_factsOf m_possible m_tape m_ends m_letters m_actOf m_whom m_actMany m_tokens m_afters m_afterOf m_pile m_caseMany m_happen m_hasIf m_becomes m_goneOf m_heard m_pairs m_heaps m_led m_newAt m_knowing m_firsts m_secrets m_tried m_lanes m_lengths m_cells) mi_X12_isSaying wl_X12_224 rfl 0 12 rfl rfl rfl rfl rfl dX12_plan_2) [0, 1] [] rfl rfl rfl rfl (fun r u hw => ?_)
  obtain ⟨rfl, rfl⟩ := hw
  refine ww_eq (ws' := [(hm, .inr (12, [.ref m_manys, .ref m_reals, .ref m_factsOf, .ref m_possible, .int 0, .int 0, .ref m_tape, .int 0, .int 0, .int 0, .int 0, .int 0, .int 0, .int 0, .int 0, .ref m_ends, .ref m_letters, .ref m_actOf, .ref m_whom, .ref m_actMany, .ref m_tokens, .ref m_afters, .ref m_afterOf, .int 0, .ref m_pile, .ref m_caseMany, .ref m_happen, .ref m_hasIf, .ref m_becomes, .ref m_goneOf, .ref m_heard, .ref m_pairs, .ref m_heaps, .int 0, .int 0, .ref m_led, .ref m_newAt, .ref m_knowing, .ref m_firsts, .int 0, .ref m_secrets, .ref m_tried, .ref m_lanes, .ref m_lengths, .ref m_cells])), (m_tokens, .inl (E.2.1 1, 9, .inl (fun _ => 0)))]) ?_ rfl rfl rfl
  refine ww_if_eq_t (tgt := 45) C dX12_plan_5 (by decide) (rfl) ?_
  refine ww_iconst (v := (-1)) C dX12_plan_45 rfl ?_
  exact ww_iret (u := []) C hT [] rfl rfl rfl rfl dX12_plan_46 (⟨rfl, rfl⟩)
