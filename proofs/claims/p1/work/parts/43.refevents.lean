theorem dX12_isEvent_0 : decode cX12_isEvent 0 = .ok (.iload_n 1, 1) := by decide +kernel
theorem dX12_isEvent_1 : decode cX12_isEvent 1 = .ok (.i2l, 1) := by decide +kernel
theorem dX12_isEvent_2 : decode cX12_isEvent 2 = .ok (.lconst 0, 1) := by decide +kernel
theorem dX12_isEvent_3 : decode cX12_isEvent 3 = .ok (.ldc2_w 113, 3) := by decide +kernel
theorem dX12_isEvent_6 : decode cX12_isEvent 6 = .ok (.invokestatic 115, 3) := by decide +kernel
theorem dX12_isEvent_9 : decode cX12_isEvent 9 = .ok (.ifCond .eq 16, 3) := by decide +kernel
theorem dX12_isEvent_12 : decode cX12_isEvent 12 = .ok (.aload_n 0, 1) := by decide +kernel
theorem dX12_isEvent_13 : decode cX12_isEvent 13 = .ok (.getfield 52, 3) := by decide +kernel
theorem fg_X12_52 : FG RX12 52 12 25 := ⟨RX12, TX12, 45, uw_X12, wf_X12_52, rfl, by decide, rfl⟩
theorem dX12_isEvent_16 : decode cX12_isEvent 16 = .ok (.iload_n 1, 1) := by decide +kernel
theorem dX12_isEvent_17 : decode cX12_isEvent 17 = .ok (.iaload, 1) := by decide +kernel
theorem dX12_isEvent_18 : decode cX12_isEvent 18 = .ok (.ifCond .le 7, 3) := by decide +kernel
theorem dX12_isEvent_25 : decode cX12_isEvent 25 = .ok (.iconst 0, 1) := by decide +kernel
theorem dX12_isEvent_26 : decode cX12_isEvent 26 = .ok (.ireturn, 1) := by decide +kernel
set_option maxRecDepth 100000 in
set_option maxHeartbeats 4000000 in
theorem r_isEvent (l : Launch) (E : EV) (hm : Nat) (p0 : Int32) (m_manys : Nat) (m_reals : Nat) (m_factsOf : Nat) (m_possible : Nat) (m_tape : Nat) (m_ends : Nat) (m_letters : Nat) (m_actOf : Nat) (m_whom : Nat) (m_actMany : Nat) (m_tokens : Nat) (m_afters : Nat) (m_afterOf : Nat) (m_pile : Nat) (m_caseMany : Nat) (m_happen : Nat) (m_hasIf : Nat) (m_becomes : Nat) (m_goneOf : Nat) (m_heard : Nat) (m_pairs : Nat) (m_heaps : Nat) (m_led : Nat) (m_newAt : Nat) (m_knowing : Nat) (m_firsts : Nat) (m_secrets : Nat) (m_tried : Nat) (m_lanes : Nat) (m_lengths : Nat) (m_cells : Nat)  : CT l yX12_isEvent (Cond.code yX12_isEvent cX12_isEvent 2 (some .boolean) :: TB) ({ frames := 1, cells := 0, slots := 0, locals := 25 }) E [.ref hm, .int p0] [(hm, .inr (12, [.ref m_manys, .ref m_reals, .ref m_factsOf, .ref m_possible, .int 0, .int 0, .ref m_tape, .int 0, .int 0, .int 0, .int 0, .int 0, .int 0, .int 0, .int 0, .ref m_ends, .ref m_letters, .ref m_actOf, .ref m_whom, .ref m_actMany, .ref m_tokens, .ref m_afters, .ref m_afterOf, .int 0, .ref m_pile, .ref m_caseMany, .ref m_happen, .ref m_hasIf, .ref m_becomes, .ref m_goneOf, .ref m_heard, .ref m_pairs, .ref m_heaps, .int 0, .int 0, .ref m_led, .ref m_newAt, .ref m_knowing, .ref m_firsts, .int 0, .ref m_secrets, .ref m_tried, .ref m_lanes, .ref m_lengths, .ref m_cells])), (m_caseMany, .inl (E.2.1 1, 4, .inl (fun _ => 0)))] (Qi E (fun (r : Int32) u => (r = 0 ∧ u = [(hm, .inr (12, [.ref m_manys, .ref m_reals, .ref m_factsOf, .ref m_possible, .int 0, .int 0, .ref m_tape, .int 0, .int 0, .int 0, .int 0, .int 0, .int 0, .int 0, .int 0, .ref m_ends, .ref m_letters, .ref m_actOf, .ref m_whom, .ref m_actMany, .ref m_tokens, .ref m_afters, .ref m_afterOf, .int 0, .ref m_pile, .ref m_caseMany, .ref m_happen, .ref m_hasIf, .ref m_becomes, .ref m_goneOf, .ref m_heard, .ref m_pairs, .ref m_heaps, .int 0, .int 0, .ref m_led, .ref m_newAt, .ref m_knowing, .ref m_firsts, .int 0, .ref m_secrets, .ref m_tried, .ref m_lanes, .ref m_lengths, .ref m_cells])), (m_caseMany, .inl (E.2.1 1, 4, .inl (fun _ => 0)))]))) 0 0 := by
  refine ct_of rfl rfl ?_
  intro X C hT hin
  show WW X 2 E 0 [(0, .ref hm), (1, .int p0)] [] [(hm, .inr (12, [.ref m_manys, .ref m_reals, .ref m_factsOf, .ref m_possible, .int 0, .int 0, .ref m_tape, .int 0, .int 0, .int 0, .int 0, .int 0, .int 0, .int 0, .int 0, .ref m_ends, .ref m_letters, .ref m_actOf, .ref m_whom, .ref m_actMany, .ref m_tokens, .ref m_afters, .ref m_afterOf, .int 0, .ref m_pile, .ref m_caseMany, .ref m_happen, .ref m_hasIf, .ref m_becomes, .ref m_goneOf, .ref m_heard, .ref m_pairs, .ref m_heaps, .int 0, .int 0, .ref m_led, .ref m_newAt, .ref m_knowing, .ref m_firsts, .int 0, .ref m_secrets, .ref m_tried, .ref m_lanes, .ref m_lengths, .ref m_cells])), (m_caseMany, .inl (E.2.1 1, 4, .inl (fun _ => 0)))] 0 0
  refine ww_iload_n C dX12_isEvent_0 1 rfl rfl ?_
  refine ww_i2l (v := p0.toInt64) C dX12_isEvent_1 rfl ?_
  refine ww_lconst (v := 0) C dX12_isEvent_2 rfl ?_
  refine ww_ldc2 C wv_X12_113 dX12_isEvent_3 ?_
  refine ww_ci (wr := [(hm, .inr (12, [.ref m_manys, .ref m_reals, .ref m_factsOf, .ref m_possible, .int 0, .int 0, .ref m_tape, .int 0, .int 0, .int 0, .int 0, .int 0, .int 0, .int 0, .int 0, .ref m_ends, .ref m_letters, .ref m_actOf, .ref m_whom, .ref m_actMany, .ref m_tokens, .ref m_afters, .ref m_afterOf, .int 0, .ref m_pile, .ref m_caseMany, .ref m_happen, .ref m_hasIf, .ref m_becomes, .ref m_goneOf, .ref m_heard, .ref m_pairs, .ref m_heaps, .int 0, .int 0, .ref m_led, .ref m_newAt, .ref m_knowing, .ref m_firsts, .int 0, .ref m_secrets, .ref m_tried, .ref m_lanes, .ref m_lengths, .ref m_cells])), (m_caseMany, .inl (E.2.1 1, 4, .inl (fun _ => 0)))]) (k' := 0) (n' := 0) C (run_S (As := [.long p0.toInt64, .long 0, .long 3]) (rest := []) C (r_in X.2.1 E p0.toInt64 0 3 p0.toInt 0 3 (Int32.toInt_toInt64 _) rfl rfl) ms_X12_in wl_X12_115 rfl rfl rfl rfl dX12_isEvent_6) [] [0, 1] rfl rfl rfl rfl (fun r u hw => ?_)
  rcases hw with ⟨rfl, rfl, h_1, h_2⟩ | ⟨rfl, rfl, h_3⟩
  · refine ww_eq (ws' := [(hm, .inr (12, [.ref m_manys, .ref m_reals, .ref m_factsOf, .ref m_possible, .int 0, .int 0, .ref m_tape, .int 0, .int 0, .int 0, .int 0, .int 0, .int 0, .int 0, .int 0, .ref m_ends, .ref m_letters, .ref m_actOf, .ref m_whom, .ref m_actMany, .ref m_tokens, .ref m_afters, .ref m_afterOf, .int 0, .ref m_pile, .ref m_caseMany, .ref m_happen, .ref m_hasIf, .ref m_becomes, .ref m_goneOf, .ref m_heard, .ref m_pairs, .ref m_heaps, .int 0, .int 0, .ref m_led, .ref m_newAt, .ref m_knowing, .ref m_firsts, .int 0, .ref m_secrets, .ref m_tried, .ref m_lanes, .ref m_lengths, .ref m_cells])), (m_caseMany, .inl (E.2.1 1, 4, .inl (fun _ => 0)))]) ?_ rfl rfl rfl
    refine ww_if_eq_f (tgt := 25) C dX12_isEvent_9 (by decide) (by decide) ?_
    refine ww_aload_n C dX12_isEvent_12 0 rfl rfl ?_
    refine ww_get C fg_X12_52 0 rfl rfl dX12_isEvent_13 ?_
    refine ww_iload_n C dX12_isEvent_16 1 rfl rfl ?_
    refine ww_iald (v := 0) C 1 rfl (vp_in_iff.mpr ⟨by omega, by omega⟩) rfl dX12_isEvent_17 ?_
    refine ww_if_le_t (tgt := 25) C dX12_isEvent_18 (by decide) (by decide) ?_
    refine ww_iconst (v := 0) C dX12_isEvent_25 rfl ?_
    exact ww_zret (u := [(hm, .inr (12, [.ref m_manys, .ref m_reals, .ref m_factsOf, .ref m_possible, .int 0, .int 0, .ref m_tape, .int 0, .int 0, .int 0, .int 0, .int 0, .int 0, .int 0, .int 0, .ref m_ends, .ref m_letters, .ref m_actOf, .ref m_whom, .ref m_actMany, .ref m_tokens, .ref m_afters, .ref m_afterOf, .int 0, .ref m_pile, .ref m_caseMany, .ref m_happen, .ref m_hasIf, .ref m_becomes, .ref m_goneOf, .ref m_heard, .ref m_pairs, .ref m_heaps, .int 0, .int 0, .ref m_led, .ref m_newAt, .ref m_knowing, .ref m_firsts, .int 0, .ref m_secrets, .ref m_tried, .ref m_lanes, .ref m_lengths, .ref m_cells])), (m_caseMany, .inl (E.2.1 1, 4, .inl (fun _ => 0)))]) C hT [0, 1] rfl rfl rfl rfl rfl dX12_isEvent_26 (⟨rfl, rfl⟩)
  · refine ww_eq (ws' := [(hm, .inr (12, [.ref m_manys, .ref m_reals, .ref m_factsOf, .ref m_possible, .int 0, .int 0, .ref m_tape, .int 0, .int 0, .int 0, .int 0, .int 0, .int 0, .int 0, .int 0, .ref m_ends, .ref m_letters, .ref m_actOf, .ref m_whom, .ref m_actMany, .ref m_tokens, .ref m_afters, .ref m_afterOf, .int 0, .ref m_pile, .ref m_caseMany, .ref m_happen, .ref m_hasIf, .ref m_becomes, .ref m_goneOf, .ref m_heard, .ref m_pairs, .ref m_heaps, .int 0, .int 0, .ref m_led, .ref m_newAt, .ref m_knowing, .ref m_firsts, .int 0, .ref m_secrets, .ref m_tried, .ref m_lanes, .ref m_lengths, .ref m_cells])), (m_caseMany, .inl (E.2.1 1, 4, .inl (fun _ => 0)))]) ?_ rfl rfl rfl
    refine ww_if_eq_t (tgt := 25) C dX12_isEvent_9 (by decide) (rfl) ?_
    refine ww_iconst (v := 0) C dX12_isEvent_25 rfl ?_
    exact ww_zret (u := [(hm, .inr (12, [.ref m_manys, .ref m_reals, .ref m_factsOf, .ref m_possible, .int 0, .int 0, .ref m_tape, .int 0, .int 0, .int 0, .int 0, .int 0, .int 0, .int 0, .int 0, .ref m_ends, .ref m_letters, .ref m_actOf, .ref m_whom, .ref m_actMany, .ref m_tokens, .ref m_afters, .ref m_afterOf, .int 0, .ref m_pile, .ref m_caseMany, .ref m_happen, .ref m_hasIf, .ref m_becomes, .ref m_goneOf, .ref m_heard, .ref m_pairs, .ref m_heaps, .int 0, .int 0, .ref m_led, .ref m_newAt, .ref m_knowing, .ref m_firsts, .int 0, .ref m_secrets, .ref m_tried, .ref m_lanes, .ref m_lengths, .ref m_cells])), (m_caseMany, .inl (E.2.1 1, 4, .inl (fun _ => 0)))]) C hT [0, 1] rfl rfl rfl rfl rfl dX12_isEvent_26 (⟨rfl, rfl⟩)
theorem dX12_isCase_0 : decode cX12_isCase 0 = .ok (.aload_n 0, 1) := by decide +kernel
theorem dX12_isCase_1 : decode cX12_isCase 1 = .ok (.iload_n 1, 1) := by decide +kernel
theorem dX12_isCase_2 : decode cX12_isCase 2 = .ok (.invokevirtual 237, 3) := by decide +kernel
theorem wl_X12_237 : Cond.methodLink RX12 237 yX12_isEvent ∈ TB := tbm (tq6 (List.mem_of_getElem? (i := 129) (by decide +kernel))) (by decide +kernel)
theorem wc_X12_isEvent : Cond.code yX12_isEvent cX12_isEvent 2 (some .boolean) ∈ TB := tbm (tq6 (List.mem_of_getElem? (i := 132) (rfl))) (by decide +kernel)
theorem wi_X12_isEvent : Cond.instanceMethod yX12_isEvent ∈ TB := tbm (tq6 (List.mem_of_getElem? (i := 131) (by decide +kernel))) (by decide +kernel)
theorem ws_X12_isEvent : Cond.selects RX12 yX12_isEvent yX12_isEvent ∈ TB := tbm (tq0 (List.mem_of_getElem? (i := 56) (by decide +kernel))) (by decide +kernel)
theorem mi_X12_isEvent : MI yX12_isEvent cX12_isEvent 2 (some .boolean) 1 := ⟨wc_X12_isEvent, wn_X12, ⟨by decide +kernel, by decide +kernel, by decide +kernel⟩, wi_X12_isEvent, ws_X12_isEvent⟩
theorem dX12_isCase_5 : decode cX12_isCase 5 = .ok (.ifCond .eq 25, 3) := by decide +kernel
theorem dX12_isCase_30 : decode cX12_isCase 30 = .ok (.iconst 0, 1) := by decide +kernel
theorem dX12_isCase_31 : decode cX12_isCase 31 = .ok (.ireturn, 1) := by decide +kernel
set_option maxRecDepth 100000 in
set_option maxHeartbeats 4000000 in
theorem r_isCase (l : Launch) (E : EV) (hm : Nat) (p0 : Int32) (p1 : Int32) (m_manys : Nat) (m_reals : Nat) (m_factsOf : Nat) (m_possible : Nat) (m_tape : Nat) (m_ends : Nat) (m_letters : Nat) (m_actOf : Nat) (m_whom : Nat) (m_actMany : Nat) (m_tokens : Nat) (m_afters : Nat) (m_afterOf : Nat) (m_pile : Nat) (m_caseMany : Nat) (m_happen : Nat) (m_hasIf : Nat) (m_becomes : Nat) (m_goneOf : Nat) (m_heard : Nat) (m_pairs : Nat) (m_heaps : Nat) (m_led : Nat) (m_newAt : Nat) (m_knowing : Nat) (m_firsts : Nat) (m_secrets : Nat) (m_tried : Nat) (m_lanes : Nat) (m_lengths : Nat) (m_cells : Nat)  : CT l yX12_isCase (Cond.code yX12_isCase cX12_isCase 3 (some .boolean) :: TB) ({ frames := 2, cells := 0, slots := 0, locals := 46 }) E [.ref hm, .int p0, .int p1] [(hm, .inr (12, [.ref m_manys, .ref m_reals, .ref m_factsOf, .ref m_possible, .int 0, .int 0, .ref m_tape, .int 0, .int 0, .int 0, .int 0, .int 0, .int 0, .int 0, .int 0, .ref m_ends, .ref m_letters, .ref m_actOf, .ref m_whom, .ref m_actMany, .ref m_tokens, .ref m_afters, .ref m_afterOf, .int 0, .ref m_pile, .ref m_caseMany, .ref m_happen, .ref m_hasIf, .ref m_becomes, .ref m_goneOf, .ref m_heard, .ref m_pairs, .ref m_heaps, .int 0, .int 0, .ref m_led, .ref m_newAt, .ref m_knowing, .ref m_firsts, .int 0, .ref m_secrets, .ref m_tried, .ref m_lanes, .ref m_lengths, .ref m_cells])), (m_caseMany, .inl (E.2.1 1, 4, .inl (fun _ => 0)))] (Qi E (fun (r : Int32) u => (r = 0 ∧ u = [(hm, .inr (12, [.ref m_manys, .ref m_reals, .ref m_factsOf, .ref m_possible, .int 0, .int 0, .ref m_tape, .int 0, .int 0, .int 0, .int 0, .int 0, .int 0, .int 0, .int 0, .ref m_ends, .ref m_letters, .ref m_actOf, .ref m_whom, .ref m_actMany, .ref m_tokens, .ref m_afters, .ref m_afterOf, .int 0, .ref m_pile, .ref m_caseMany, .ref m_happen, .ref m_hasIf, .ref m_becomes, .ref m_goneOf, .ref m_heard, .ref m_pairs, .ref m_heaps, .int 0, .int 0, .ref m_led, .ref m_newAt, .ref m_knowing, .ref m_firsts, .int 0, .ref m_secrets, .ref m_tried, .ref m_lanes, .ref m_lengths, .ref m_cells])), (m_caseMany, .inl (E.2.1 1, 4, .inl (fun _ => 0)))]))) 0 0 := by
  refine ct_of rfl rfl ?_
  intro X C hT hin
  show WW X 3 E 0 [(0, .ref hm), (1, .int p0), (2, .int p1)] [] [(hm, .inr (12, [.ref m_manys, .ref m_reals, .ref m_factsOf, .ref m_possible, .int 0, .int 0, .ref m_tape, .int 0, .int 0, .int 0, .int 0, .int 0, .int 0, .int 0, .int 0, .ref m_ends, .ref m_letters, .ref m_actOf, .ref m_whom, .ref m_actMany, .ref m_tokens, .ref m_afters, .ref m_afterOf, .int 0, .ref m_pile, .ref m_caseMany, .ref m_happen, .ref m_hasIf, .ref m_becomes, .ref m_goneOf, .ref m_heard, .ref m_pairs, .ref m_heaps, .int 0, .int 0, .ref m_led, .ref m_newAt, .ref m_knowing, .ref m_firsts, .int 0, .ref m_secrets, .ref m_tried, .ref m_lanes, .ref m_lengths, .ref m_cells])), (m_caseMany, .inl (E.2.1 1, 4, .inl (fun _ => 0)))] 0 0
  refine ww_aload_n C dX12_isCase_0 0 rfl rfl ?_
  refine ww_iload_n C dX12_isCase_1 1 rfl rfl ?_
  refine ww_ci (wr := []) (k' := 0) (n' := 0) C (run_V (As := [.int p0]) (rest := []) C (r_isEvent X.2.1 E hm p0 m_manys m_reals m_factsOf m_possible m_tape m_ends m_letters m_actOf m_whom m_actMany m_tokens m_afters m_afterOf m_pile m_caseMany m_happen m_hasIf m_becomes m_goneOf m_heard m_pairs m_heaps m_led m_newAt m_knowing m_firsts m_secrets m_tried m_lanes m_lengths m_cells) mi_X12_isEvent wl_X12_237 rfl 0 12 rfl rfl rfl rfl rfl dX12_isCase_2) [0, 1] [] rfl rfl rfl rfl (fun r u hw => ?_)
  obtain ⟨rfl, rfl⟩ := hw
  refine ww_eq (ws' := [(hm, .inr (12, [.ref m_manys, .ref m_reals, .ref m_factsOf, .ref m_possible, .int 0, .int 0, .ref m_tape, .int 0, .int 0, .int 0, .int 0, .int 0, .int 0, .int 0, .int 0, .ref m_ends, .ref m_letters, .ref m_actOf, .ref m_whom, .ref m_actMany, .ref m_tokens, .ref m_afters, .ref m_afterOf, .int 0, .ref m_pile, .ref m_caseMany, .ref m_happen, .ref m_hasIf, .ref m_becomes, .ref m_goneOf, .ref m_heard, .ref m_pairs, .ref m_heaps, .int 0, .int 0, .ref m_led, .ref m_newAt, .ref m_knowing, .ref m_firsts, .int 0, .ref m_secrets, .ref m_tried, .ref m_lanes, .ref m_lengths, .ref m_cells])), (m_caseMany, .inl (E.2.1 1, 4, .inl (fun _ => 0)))]) ?_ rfl rfl rfl
  refine ww_if_eq_t (tgt := 30) C dX12_isCase_5 (by decide) (rfl) ?_
  refine ww_iconst (v := 0) C dX12_isCase_30 rfl ?_
  exact ww_zret (u := [(hm, .inr (12, [.ref m_manys, .ref m_reals, .ref m_factsOf, .ref m_possible, .int 0, .int 0, .ref m_tape, .int 0, .int 0, .int 0, .int 0, .int 0, .int 0, .int 0, .int 0, .ref m_ends, .ref m_letters, .ref m_actOf, .ref m_whom, .ref m_actMany, .ref m_tokens, .ref m_afters, .ref m_afterOf, .int 0, .ref m_pile, .ref m_caseMany, .ref m_happen, .ref m_hasIf, .ref m_becomes, .ref m_goneOf, .ref m_heard, .ref m_pairs, .ref m_heaps, .int 0, .int 0, .ref m_led, .ref m_newAt, .ref m_knowing, .ref m_firsts, .int 0, .ref m_secrets, .ref m_tried, .ref m_lanes, .ref m_lengths, .ref m_cells])), (m_caseMany, .inl (E.2.1 1, 4, .inl (fun _ => 0)))]) C hT [0, 1] rfl rfl rfl rfl rfl dX12_isCase_31 (⟨rfl, rfl⟩)
theorem dX12_isPlain_0 : decode cX12_isPlain 0 = .ok (.aload_n 0, 1) := by decide +kernel
theorem dX12_isPlain_1 : decode cX12_isPlain 1 = .ok (.iload_n 1, 1) := by decide +kernel
theorem dX12_isPlain_2 : decode cX12_isPlain 2 = .ok (.invokevirtual 224, 3) := by decide +kernel
theorem dX12_isPlain_5 : decode cX12_isPlain 5 = .ok (.ifCond .eq 16, 3) := by decide +kernel
theorem dX12_isPlain_21 : decode cX12_isPlain 21 = .ok (.iconst 0, 1) := by decide +kernel
theorem dX12_isPlain_22 : decode cX12_isPlain 22 = .ok (.ireturn, 1) := by decide +kernel
set_option maxRecDepth 100000 in
set_option maxHeartbeats 4000000 in
theorem r_isPlain (l : Launch) (E : EV) (hm : Nat) (p0 : Int32) (m_manys : Nat) (m_reals : Nat) (m_factsOf : Nat) (m_possible : Nat) (m_tape : Nat) (m_ends : Nat) (m_letters : Nat) (m_actOf : Nat) (m_whom : Nat) (m_actMany : Nat) (m_tokens : Nat) (m_afters : Nat) (m_afterOf : Nat) (m_pile : Nat) (m_caseMany : Nat) (m_happen : Nat) (m_hasIf : Nat) (m_becomes : Nat) (m_goneOf : Nat) (m_heard : Nat) (m_pairs : Nat) (m_heaps : Nat) (m_led : Nat) (m_newAt : Nat) (m_knowing : Nat) (m_firsts : Nat) (m_secrets : Nat) (m_tried : Nat) (m_lanes : Nat) (m_lengths : Nat) (m_cells : Nat)  : CT l yX12_isPlain (Cond.code yX12_isPlain cX12_isPlain 2 (some .boolean) :: TB) ({ frames := 2, cells := 0, slots := 0, locals := 46 }) E [.ref hm, .int p0] [(hm, .inr (12, [.ref m_manys, .ref m_reals, .ref m_factsOf, .ref m_possible, .int 0, .int 0, .ref m_tape, .int 0, .int 0, .int 0, .int 0, .int 0, .int 0, .int 0, .int 0, .ref m_ends, .ref m_letters, .ref m_actOf, .ref m_whom, .ref m_actMany, .ref m_tokens, .ref m_afters, .ref m_afterOf, .int 0, .ref m_pile, .ref m_caseMany, .ref m_happen, .ref m_hasIf, .ref m_becomes, .ref m_goneOf, .ref m_heard, .ref m_pairs, .ref m_heaps, .int 0, .int 0, .ref m_led, .ref m_newAt, .ref m_knowing, .ref m_firsts, .int 0, .ref m_secrets, .ref m_tried, .ref m_lanes, .ref m_lengths, .ref m_cells])), (m_tokens, .inl (E.2.1 1, 9, .inl (fun _ => 0)))] (Qi E (fun (r : Int32) u => (r = 0 ∧ u = [(hm, .inr (12, [.ref m_manys, .ref m_reals, .ref m_factsOf, .ref m_possible, .int 0, .int 0, .ref m_tape, .int 0, .int 0, .int 0, .int 0, .int 0, .int 0, .int 0, .int 0, .ref m_ends, .ref m_letters, .ref m_actOf, .ref m_whom, .ref m_actMany, .ref m_tokens, .ref m_afters, .ref m_afterOf, .int 0, .ref m_pile, .ref m_caseMany, .ref m_happen, .ref m_hasIf, .ref m_becomes, .ref m_goneOf, .ref m_heard, .ref m_pairs, .ref m_heaps, .int 0, .int 0, .ref m_led, .ref m_newAt, .ref m_knowing, .ref m_firsts, .int 0, .ref m_secrets, .ref m_tried, .ref m_lanes, .ref m_lengths, .ref m_cells])), (m_tokens, .inl (E.2.1 1, 9, .inl (fun _ => 0)))]))) 0 0 := by
  refine ct_of rfl rfl ?_
  intro X C hT hin
  show WW X 2 E 0 [(0, .ref hm), (1, .int p0)] [] [(hm, .inr (12, [.ref m_manys, .ref m_reals, .ref m_factsOf, .ref m_possible, .int 0, .int 0, .ref m_tape, .int 0, .int 0, .int 0, .int 0, .int 0, .int 0, .int 0, .int 0, .ref m_ends, .ref m_letters, .ref m_actOf, .ref m_whom, .ref m_actMany, .ref m_tokens, .ref m_afters, .ref m_afterOf, .int 0, .ref m_pile, .ref m_caseMany, .ref m_happen, .ref m_hasIf, .ref m_becomes, .ref m_goneOf, .ref m_heard, .ref m_pairs, .ref m_heaps, .int 0, .int 0, .ref m_led, .ref m_newAt, .ref m_knowing, .ref m_firsts, .int 0, .ref m_secrets, .ref m_tried, .ref m_lanes, .ref m_lengths, .ref m_cells])), (m_tokens, .inl (E.2.1 1, 9, .inl (fun _ => 0)))] 0 0
  refine ww_aload_n C dX12_isPlain_0 0 rfl rfl ?_
  refine ww_iload_n C dX12_isPlain_1 1 rfl rfl ?_
  refine ww_ci (wr := []) (k' := 0) (n' := 0) C (run_V (As := [.int p0]) (rest := []) C (r_isSaying X.2.1 E hm p0 m_manys m_reals m_factsOf m_possible m_tape m_ends m_letters m_actOf m_whom m_actMany m_tokens m_afters m_afterOf m_pile m_caseMany m_happen m_hasIf m_becomes m_goneOf m_heard m_pairs m_heaps m_led m_newAt m_knowing m_firsts m_secrets m_tried m_lanes m_lengths m_cells) mi_X12_isSaying wl_X12_224 rfl 0 12 rfl rfl rfl rfl rfl dX12_isPlain_2) [0, 1] [] rfl rfl rfl rfl (fun r u hw => ?_)
  obtain ⟨rfl, rfl⟩ := hw
  refine ww_eq (ws' := [(hm, .inr (12, [.ref m_manys, .ref m_reals, .ref m_factsOf, .ref m_possible, .int 0, .int 0, .ref m_tape, .int 0, .int 0, .int 0, .int 0, .int 0, .int 0, .int 0, .int 0, .ref m_ends, .ref m_letters, .ref m_actOf, .ref m_whom, .ref m_actMany, .ref m_tokens, .ref m_afters, .ref m_afterOf, .int 0, .ref m_pile, .ref m_caseMany, .ref m_happen, .ref m_hasIf, .ref m_becomes, .ref m_goneOf, .ref m_heard, .ref m_pairs, .ref m_heaps, .int 0, .int 0, .ref m_led, .ref m_newAt, .ref m_knowing, .ref m_firsts, .int 0, .ref m_secrets, .ref m_tried, .ref m_lanes, .ref m_lengths, .ref m_cells])), (m_tokens, .inl (E.2.1 1, 9, .inl (fun _ => 0)))]) ?_ rfl rfl rfl
  refine ww_if_eq_t (tgt := 21) C dX12_isPlain_5 (by decide) (rfl) ?_
  refine ww_iconst (v := 0) C dX12_isPlain_21 rfl ?_
  exact ww_zret (u := [(hm, .inr (12, [.ref m_manys, .ref m_reals, .ref m_factsOf, .ref m_possible, .int 0, .int 0, .ref m_tape, .int 0, .int 0, .int 0, .int 0, .int 0, .int 0, .int 0, .int 0, .ref m_ends, .ref m_letters, .ref m_actOf, .ref m_whom, .ref m_actMany, .ref m_tokens, .ref m_afters, .ref m_afterOf, .int 0, .ref m_pile, .ref m_caseMany, .ref m_happen, .ref m_hasIf, .ref m_becomes, .ref m_goneOf, .ref m_heard, .ref m_pairs, .ref m_heaps, .int 0, .int 0, .ref m_led, .ref m_newAt, .ref m_knowing, .ref m_firsts, .int 0, .ref m_secrets, .ref m_tried, .ref m_lanes, .ref m_lengths, .ref m_cells])), (m_tokens, .inl (E.2.1 1, 9, .inl (fun _ => 0)))]) C hT [0, 1] rfl rfl rfl rfl rfl dX12_isPlain_22 (⟨rfl, rfl⟩)
theorem dX12_clearEvent_0 : decode cX12_clearEvent 0 = .ok (.aload_n 0, 1) := by decide +kernel
theorem dX12_clearEvent_1 : decode cX12_clearEvent 1 = .ok (.getfield 52, 3) := by decide +kernel
theorem dX12_clearEvent_4 : decode cX12_clearEvent 4 = .ok (.iload_n 1, 1) := by decide +kernel
theorem dX12_clearEvent_5 : decode cX12_clearEvent 5 = .ok (.iload_n 2, 1) := by decide +kernel
theorem dX12_clearEvent_6 : decode cX12_clearEvent 6 = .ok (.iastore, 1) := by decide +kernel
theorem dX12_clearEvent_7 : decode cX12_clearEvent 7 = .ok (.aload_n 0, 1) := by decide +kernel
theorem dX12_clearEvent_8 : decode cX12_clearEvent 8 = .ok (.getfield 55, 3) := by decide +kernel
theorem fg_X12_55 : FG RX12 55 12 26 := ⟨RX12, TX12, 45, uw_X12, wf_X12_55, rfl, by decide, rfl⟩
theorem dX12_clearEvent_11 : decode cX12_clearEvent 11 = .ok (.iload_n 1, 1) := by decide +kernel
theorem dX12_clearEvent_12 : decode cX12_clearEvent 12 = .ok (.iconst 0, 1) := by decide +kernel
theorem dX12_clearEvent_13 : decode cX12_clearEvent 13 = .ok (.iastore, 1) := by decide +kernel
theorem dX12_clearEvent_14 : decode cX12_clearEvent 14 = .ok (.iconst 0, 1) := by decide +kernel
theorem dX12_clearEvent_15 : decode cX12_clearEvent 15 = .ok (.istore_n 3, 1) := by decide +kernel
theorem dX12_clearEvent_16 : decode cX12_clearEvent 16 = .ok (.iload_n 3, 1) := by decide +kernel
theorem dX12_clearEvent_17 : decode cX12_clearEvent 17 = .ok (.iconst 4, 1) := by decide +kernel
theorem dX12_clearEvent_18 : decode cX12_clearEvent 18 = .ok (.if_icmp .ge 74, 3) := by decide +kernel
theorem dX12_clearEvent_21 : decode cX12_clearEvent 21 = .ok (.aload_n 0, 1) := by decide +kernel
theorem dX12_clearEvent_22 : decode cX12_clearEvent 22 = .ok (.getfield 58, 3) := by decide +kernel
theorem fg_X12_58 : FG RX12 58 12 27 := ⟨RX12, TX12, 45, uw_X12, wf_X12_58, rfl, by decide, rfl⟩
theorem dX12_clearEvent_25 : decode cX12_clearEvent 25 = .ok (.iconst 4, 1) := by decide +kernel
theorem dX12_clearEvent_26 : decode cX12_clearEvent 26 = .ok (.iload_n 1, 1) := by decide +kernel
theorem dX12_clearEvent_27 : decode cX12_clearEvent 27 = .ok (.imul, 1) := by decide +kernel
theorem dX12_clearEvent_28 : decode cX12_clearEvent 28 = .ok (.iload_n 3, 1) := by decide +kernel
theorem dX12_clearEvent_29 : decode cX12_clearEvent 29 = .ok (.iadd, 1) := by decide +kernel
theorem dX12_clearEvent_30 : decode cX12_clearEvent 30 = .ok (.iconst 0, 1) := by decide +kernel
theorem dX12_clearEvent_31 : decode cX12_clearEvent 31 = .ok (.bastore, 1) := by decide +kernel
theorem dX12_clearEvent_32 : decode cX12_clearEvent 32 = .ok (.aload_n 0, 1) := by decide +kernel
theorem dX12_clearEvent_33 : decode cX12_clearEvent 33 = .ok (.getfield 62, 3) := by decide +kernel
theorem fg_X12_62 : FG RX12 62 12 28 := ⟨RX12, TX12, 45, uw_X12, wf_X12_62, rfl, by decide, rfl⟩
theorem dX12_clearEvent_36 : decode cX12_clearEvent 36 = .ok (.iconst 4, 1) := by decide +kernel
theorem dX12_clearEvent_37 : decode cX12_clearEvent 37 = .ok (.iload_n 1, 1) := by decide +kernel
theorem dX12_clearEvent_38 : decode cX12_clearEvent 38 = .ok (.imul, 1) := by decide +kernel
theorem dX12_clearEvent_39 : decode cX12_clearEvent 39 = .ok (.iload_n 3, 1) := by decide +kernel
theorem dX12_clearEvent_40 : decode cX12_clearEvent 40 = .ok (.iadd, 1) := by decide +kernel
theorem dX12_clearEvent_41 : decode cX12_clearEvent 41 = .ok (.iconst 0, 1) := by decide +kernel
theorem dX12_clearEvent_42 : decode cX12_clearEvent 42 = .ok (.iastore, 1) := by decide +kernel
theorem dX12_clearEvent_43 : decode cX12_clearEvent 43 = .ok (.aload_n 0, 1) := by decide +kernel
theorem dX12_clearEvent_44 : decode cX12_clearEvent 44 = .ok (.getfield 65, 3) := by decide +kernel
theorem fg_X12_65 : FG RX12 65 12 29 := ⟨RX12, TX12, 45, uw_X12, wf_X12_65, rfl, by decide, rfl⟩
theorem dX12_clearEvent_47 : decode cX12_clearEvent 47 = .ok (.iconst 4, 1) := by decide +kernel
theorem dX12_clearEvent_48 : decode cX12_clearEvent 48 = .ok (.iload_n 1, 1) := by decide +kernel
theorem dX12_clearEvent_49 : decode cX12_clearEvent 49 = .ok (.imul, 1) := by decide +kernel
theorem dX12_clearEvent_50 : decode cX12_clearEvent 50 = .ok (.iload_n 3, 1) := by decide +kernel
theorem dX12_clearEvent_51 : decode cX12_clearEvent 51 = .ok (.iadd, 1) := by decide +kernel
theorem dX12_clearEvent_52 : decode cX12_clearEvent 52 = .ok (.iconst 0, 1) := by decide +kernel
theorem dX12_clearEvent_53 : decode cX12_clearEvent 53 = .ok (.iastore, 1) := by decide +kernel
theorem dX12_clearEvent_54 : decode cX12_clearEvent 54 = .ok (.iconst 0, 1) := by decide +kernel
theorem dX12_clearEvent_55 : decode cX12_clearEvent 55 = .ok (.istore 4, 2) := by decide +kernel
theorem dX12_clearEvent_57 : decode cX12_clearEvent 57 = .ok (.iload 4, 2) := by decide +kernel
theorem dX12_clearEvent_59 : decode cX12_clearEvent 59 = .ok (.iconst 4, 1) := by decide +kernel
theorem dX12_clearEvent_60 : decode cX12_clearEvent 60 = .ok (.if_icmp .ge 26, 3) := by decide +kernel
theorem dX12_clearEvent_63 : decode cX12_clearEvent 63 = .ok (.aload_n 0, 1) := by decide +kernel
theorem dX12_clearEvent_64 : decode cX12_clearEvent 64 = .ok (.getfield 68, 3) := by decide +kernel
theorem fg_X12_68 : FG RX12 68 12 30 := ⟨RX12, TX12, 45, uw_X12, wf_X12_68, rfl, by decide, rfl⟩
theorem dX12_clearEvent_67 : decode cX12_clearEvent 67 = .ok (.bipush 16, 2) := by decide +kernel
theorem dX12_clearEvent_69 : decode cX12_clearEvent 69 = .ok (.iload_n 1, 1) := by decide +kernel
theorem dX12_clearEvent_70 : decode cX12_clearEvent 70 = .ok (.imul, 1) := by decide +kernel
theorem dX12_clearEvent_71 : decode cX12_clearEvent 71 = .ok (.iconst 4, 1) := by decide +kernel
theorem dX12_clearEvent_72 : decode cX12_clearEvent 72 = .ok (.iload 4, 2) := by decide +kernel
theorem dX12_clearEvent_74 : decode cX12_clearEvent 74 = .ok (.imul, 1) := by decide +kernel
theorem dX12_clearEvent_75 : decode cX12_clearEvent 75 = .ok (.iadd, 1) := by decide +kernel
theorem dX12_clearEvent_76 : decode cX12_clearEvent 76 = .ok (.iload_n 3, 1) := by decide +kernel
theorem dX12_clearEvent_77 : decode cX12_clearEvent 77 = .ok (.iadd, 1) := by decide +kernel
theorem dX12_clearEvent_78 : decode cX12_clearEvent 78 = .ok (.iconst 0, 1) := by decide +kernel
theorem dX12_clearEvent_79 : decode cX12_clearEvent 79 = .ok (.iastore, 1) := by decide +kernel
theorem dX12_clearEvent_80 : decode cX12_clearEvent 80 = .ok (.iinc 4 1, 3) := by decide +kernel
theorem dX12_clearEvent_83 : decode cX12_clearEvent 83 = .ok (.goto (-26), 3) := by decide +kernel
theorem dX12_clearEvent_86 : decode cX12_clearEvent 86 = .ok (.iinc 3 1, 3) := by decide +kernel
theorem dX12_clearEvent_89 : decode cX12_clearEvent 89 = .ok (.goto (-73), 3) := by decide +kernel
theorem dX12_clearEvent_92 : decode cX12_clearEvent 92 = .ok (.return_, 1) := by decide +kernel
set_option maxRecDepth 100000 in
set_option maxHeartbeats 4000000 in
theorem r_clearEvent (l : Launch) (E : EV) (hm : Nat) (m_manys : Nat) (m_reals : Nat) (m_factsOf : Nat) (m_possible : Nat) (m_tape : Nat) (m_ends : Nat) (m_letters : Nat) (m_actOf : Nat) (m_whom : Nat) (m_actMany : Nat) (m_tokens : Nat) (m_afters : Nat) (m_afterOf : Nat) (m_pile : Nat) (m_caseMany : Nat) (m_happen : Nat) (m_hasIf : Nat) (m_becomes : Nat) (m_goneOf : Nat) (m_heard : Nat) (m_pairs : Nat) (m_heaps : Nat) (m_led : Nat) (m_newAt : Nat) (m_knowing : Nat) (m_firsts : Nat) (m_secrets : Nat) (m_tried : Nat) (m_lanes : Nat) (m_lengths : Nat) (m_cells : Nat) (jj : Nat) (p1 : Int32) (hj : jj ≤ 3) : CT l yX12_clearEvent (Cond.code yX12_clearEvent cX12_clearEvent 5 none :: TB) ({ frames := 0, cells := 0, slots := 0, locals := 0 }) E [.ref hm, .int (nI jj), .int p1] [(hm, .inr (12, [.ref m_manys, .ref m_reals, .ref m_factsOf, .ref m_possible, .int 0, .int 0, .ref m_tape, .int 0, .int 0, .int 0, .int 0, .int 0, .int 0, .int 0, .int 0, .ref m_ends, .ref m_letters, .ref m_actOf, .ref m_whom, .ref m_actMany, .ref m_tokens, .ref m_afters, .ref m_afterOf, .int 0, .ref m_pile, .ref m_caseMany, .ref m_happen, .ref m_hasIf, .ref m_becomes, .ref m_goneOf, .ref m_heard, .ref m_pairs, .ref m_heaps, .int 0, .int 0, .ref m_led, .ref m_newAt, .ref m_knowing, .ref m_firsts, .int 0, .ref m_secrets, .ref m_tried, .ref m_lanes, .ref m_lengths, .ref m_cells])), (m_caseMany, .inl (E.2.1 1, 4, .inl (fun _ => 0))), (m_happen, .inl (E.2.1 1, 4, .inl (fun _ => 0))), (m_hasIf, .inl (E.2.1 3, 16, .inl (fun _ => 0))), (m_becomes, .inl (E.2.1 1, 16, .inl (fun _ => 0))), (m_goneOf, .inl (E.2.1 1, 16, .inl (fun _ => 0))), (m_heard, .inl (E.2.1 1, 64, .inl (fun _ => 0)))] (Qv E (fun u => (u = []))) 0 0 := by
  refine ct_of rfl rfl ?_
  intro X C hT hin
  show WW X 5 E 0 [(0, .ref hm), (1, .int (nI jj)), (2, .int p1)] [] [(hm, .inr (12, [.ref m_manys, .ref m_reals, .ref m_factsOf, .ref m_possible, .int 0, .int 0, .ref m_tape, .int 0, .int 0, .int 0, .int 0, .int 0, .int 0, .int 0, .int 0, .ref m_ends, .ref m_letters, .ref m_actOf, .ref m_whom, .ref m_actMany, .ref m_tokens, .ref m_afters, .ref m_afterOf, .int 0, .ref m_pile, .ref m_caseMany, .ref m_happen, .ref m_hasIf, .ref m_becomes, .ref m_goneOf, .ref m_heard, .ref m_pairs, .ref m_heaps, .int 0, .int 0, .ref m_led, .ref m_newAt, .ref m_knowing, .ref m_firsts, .int 0, .ref m_secrets, .ref m_tried, .ref m_lanes, .ref m_lengths, .ref m_cells])), (m_caseMany, .inl (E.2.1 1, 4, .inl (fun _ => 0))), (m_happen, .inl (E.2.1 1, 4, .inl (fun _ => 0))), (m_hasIf, .inl (E.2.1 3, 16, .inl (fun _ => 0))), (m_becomes, .inl (E.2.1 1, 16, .inl (fun _ => 0))), (m_goneOf, .inl (E.2.1 1, 16, .inl (fun _ => 0))), (m_heard, .inl (E.2.1 1, 64, .inl (fun _ => 0)))] 0 0
  refine ww_aload_n C dX12_clearEvent_0 0 rfl rfl ?_
  refine ww_get C fg_X12_52 0 rfl rfl dX12_clearEvent_1 ?_
  refine ww_iload_n C dX12_clearEvent_4 1 rfl rfl ?_
  refine ww_iload_n C dX12_clearEvent_5 2 rfl rfl ?_
  obtain ⟨f_1, ef_1⟩ : ∃ z : Nat → Int32, upd (fun _ => 0) (nI jj).toNatClampNeg p1 = z := ⟨_, rfl⟩
  refine ww_iast (ws' := [(hm, .inr (12, [.ref m_manys, .ref m_reals, .ref m_factsOf, .ref m_possible, .int 0, .int 0, .ref m_tape, .int 0, .int 0, .int 0, .int 0, .int 0, .int 0, .int 0, .int 0, .ref m_ends, .ref m_letters, .ref m_actOf, .ref m_whom, .ref m_actMany, .ref m_tokens, .ref m_afters, .ref m_afterOf, .int 0, .ref m_pile, .ref m_caseMany, .ref m_happen, .ref m_hasIf, .ref m_becomes, .ref m_goneOf, .ref m_heard, .ref m_pairs, .ref m_heaps, .int 0, .int 0, .ref m_led, .ref m_newAt, .ref m_knowing, .ref m_firsts, .int 0, .ref m_secrets, .ref m_tried, .ref m_lanes, .ref m_lengths, .ref m_cells])), (m_caseMany, .inl (E.2.1 1, 4, .inl f_1)), (m_happen, .inl (E.2.1 1, 4, .inl (fun _ => 0))), (m_hasIf, .inl (E.2.1 3, 16, .inl (fun _ => 0))), (m_becomes, .inl (E.2.1 1, 16, .inl (fun _ => 0))), (m_goneOf, .inl (E.2.1 1, 16, .inl (fun _ => 0))), (m_heard, .inl (E.2.1 1, 64, .inl (fun _ => 0)))]) C 1 rfl (vp_in_nI (by omega) (by omega)) ef_1 rfl dX12_clearEvent_6 ?_
  refine ww_aload_n C dX12_clearEvent_7 0 rfl rfl ?_
  refine ww_get C fg_X12_55 0 rfl rfl dX12_clearEvent_8 ?_
  refine ww_iload_n C dX12_clearEvent_11 1 rfl rfl ?_
  refine ww_iconst (v := 0) C dX12_clearEvent_12 rfl ?_
  obtain ⟨f_2, ef_2⟩ : ∃ z : Nat → Int32, upd (fun _ => 0) (nI jj).toNatClampNeg 0 = z := ⟨_, rfl⟩
  refine ww_iast (ws' := [(hm, .inr (12, [.ref m_manys, .ref m_reals, .ref m_factsOf, .ref m_possible, .int 0, .int 0, .ref m_tape, .int 0, .int 0, .int 0, .int 0, .int 0, .int 0, .int 0, .int 0, .ref m_ends, .ref m_letters, .ref m_actOf, .ref m_whom, .ref m_actMany, .ref m_tokens, .ref m_afters, .ref m_afterOf, .int 0, .ref m_pile, .ref m_caseMany, .ref m_happen, .ref m_hasIf, .ref m_becomes, .ref m_goneOf, .ref m_heard, .ref m_pairs, .ref m_heaps, .int 0, .int 0, .ref m_led, .ref m_newAt, .ref m_knowing, .ref m_firsts, .int 0, .ref m_secrets, .ref m_tried, .ref m_lanes, .ref m_lengths, .ref m_cells])), (m_caseMany, .inl (E.2.1 1, 4, .inl f_1)), (m_happen, .inl (E.2.1 1, 4, .inl f_2)), (m_hasIf, .inl (E.2.1 3, 16, .inl (fun _ => 0))), (m_becomes, .inl (E.2.1 1, 16, .inl (fun _ => 0))), (m_goneOf, .inl (E.2.1 1, 16, .inl (fun _ => 0))), (m_heard, .inl (E.2.1 1, 64, .inl (fun _ => 0)))]) C 2 rfl (vp_in_nI (by omega) (by omega)) ef_2 rfl dX12_clearEvent_13 ?_
  refine ww_iconst (v := 0) C dX12_clearEvent_14 rfl ?_
  refine ww_istore_n (lv' := [(3, .int 0), (0, .ref hm), (1, .int (nI jj)), (2, .int p1)]) C dX12_clearEvent_15 rfl rfl rfl ?_
  refine ww_iload_n C dX12_clearEvent_16 0 rfl rfl ?_
  refine ww_iconst (v := 4) C dX12_clearEvent_17 rfl ?_
  refine ww_icmp_ge_f (tgt := 92) C dX12_clearEvent_18 (by decide) (by decide) ?_
  refine ww_aload_n C dX12_clearEvent_21 1 rfl rfl ?_
  refine ww_get C fg_X12_58 0 rfl rfl dX12_clearEvent_22 ?_
  refine ww_iconst (v := 4) C dX12_clearEvent_25 rfl ?_
  refine ww_iload_n C dX12_clearEvent_26 2 rfl rfl ?_
  refine ww_imul (v := (nI (4 * jj))) C dX12_clearEvent_27 (pk_mul 4 jj) ?_
  refine ww_iload_n C dX12_clearEvent_28 0 rfl rfl ?_
  refine ww_iadd (v := (nI ((4 * jj) + 0))) C dX12_clearEvent_29 (nI_add (4 * jj) 0) ?_
  refine ww_iconst (v := 0) C dX12_clearEvent_30 rfl ?_
  obtain ⟨f_3, ef_3⟩ : ∃ z : Nat → Int32, upd (fun _ => 0) (nI ((4 * jj) + 0)).toNatClampNeg (vp_nar .boolean 0) = z := ⟨_, rfl⟩
  refine ww_zast (ws' := [(hm, .inr (12, [.ref m_manys, .ref m_reals, .ref m_factsOf, .ref m_possible, .int 0, .int 0, .ref m_tape, .int 0, .int 0, .int 0, .int 0, .int 0, .int 0, .int 0, .int 0, .ref m_ends, .ref m_letters, .ref m_actOf, .ref m_whom, .ref m_actMany, .ref m_tokens, .ref m_afters, .ref m_afterOf, .int 0, .ref m_pile, .ref m_caseMany, .ref m_happen, .ref m_hasIf, .ref m_becomes, .ref m_goneOf, .ref m_heard, .ref m_pairs, .ref m_heaps, .int 0, .int 0, .ref m_led, .ref m_newAt, .ref m_knowing, .ref m_firsts, .int 0, .ref m_secrets, .ref m_tried, .ref m_lanes, .ref m_lengths, .ref m_cells])), (m_caseMany, .inl (E.2.1 1, 4, .inl f_1)), (m_happen, .inl (E.2.1 1, 4, .inl f_2)), (m_hasIf, .inl (E.2.1 3, 16, .inl f_3)), (m_becomes, .inl (E.2.1 1, 16, .inl (fun _ => 0))), (m_goneOf, .inl (E.2.1 1, 16, .inl (fun _ => 0))), (m_heard, .inl (E.2.1 1, 64, .inl (fun _ => 0)))]) C 3 rfl (vp_in_nI (by omega) (by omega)) ef_3 rfl dX12_clearEvent_31 ?_
  refine ww_aload_n C dX12_clearEvent_32 1 rfl rfl ?_
  refine ww_get C fg_X12_62 0 rfl rfl dX12_clearEvent_33 ?_
  refine ww_iconst (v := 4) C dX12_clearEvent_36 rfl ?_
  refine ww_iload_n C dX12_clearEvent_37 2 rfl rfl ?_
  refine ww_imul (v := (nI (4 * jj))) C dX12_clearEvent_38 (pk_mul 4 jj) ?_
  refine ww_iload_n C dX12_clearEvent_39 0 rfl rfl ?_
  refine ww_iadd (v := (nI ((4 * jj) + 0))) C dX12_clearEvent_40 (nI_add (4 * jj) 0) ?_
  refine ww_iconst (v := 0) C dX12_clearEvent_41 rfl ?_
  obtain ⟨f_4, ef_4⟩ : ∃ z : Nat → Int32, upd (fun _ => 0) (nI ((4 * jj) + 0)).toNatClampNeg 0 = z := ⟨_, rfl⟩
  refine ww_iast (ws' := [(hm, .inr (12, [.ref m_manys, .ref m_reals, .ref m_factsOf, .ref m_possible, .int 0, .int 0, .ref m_tape, .int 0, .int 0, .int 0, .int 0, .int 0, .int 0, .int 0, .int 0, .ref m_ends, .ref m_letters, .ref m_actOf, .ref m_whom, .ref m_actMany, .ref m_tokens, .ref m_afters, .ref m_afterOf, .int 0, .ref m_pile, .ref m_caseMany, .ref m_happen, .ref m_hasIf, .ref m_becomes, .ref m_goneOf, .ref m_heard, .ref m_pairs, .ref m_heaps, .int 0, .int 0, .ref m_led, .ref m_newAt, .ref m_knowing, .ref m_firsts, .int 0, .ref m_secrets, .ref m_tried, .ref m_lanes, .ref m_lengths, .ref m_cells])), (m_caseMany, .inl (E.2.1 1, 4, .inl f_1)), (m_happen, .inl (E.2.1 1, 4, .inl f_2)), (m_hasIf, .inl (E.2.1 3, 16, .inl f_3)), (m_becomes, .inl (E.2.1 1, 16, .inl f_4)), (m_goneOf, .inl (E.2.1 1, 16, .inl (fun _ => 0))), (m_heard, .inl (E.2.1 1, 64, .inl (fun _ => 0)))]) C 4 rfl (vp_in_nI (by omega) (by omega)) ef_4 rfl dX12_clearEvent_42 ?_
  refine ww_aload_n C dX12_clearEvent_43 1 rfl rfl ?_
  refine ww_get C fg_X12_65 0 rfl rfl dX12_clearEvent_44 ?_
  refine ww_iconst (v := 4) C dX12_clearEvent_47 rfl ?_
  refine ww_iload_n C dX12_clearEvent_48 2 rfl rfl ?_
  refine ww_imul (v := (nI (4 * jj))) C dX12_clearEvent_49 (pk_mul 4 jj) ?_
  refine ww_iload_n C dX12_clearEvent_50 0 rfl rfl ?_
  refine ww_iadd (v := (nI ((4 * jj) + 0))) C dX12_clearEvent_51 (nI_add (4 * jj) 0) ?_
  refine ww_iconst (v := 0) C dX12_clearEvent_52 rfl ?_
  obtain ⟨f_5, ef_5⟩ : ∃ z : Nat → Int32, upd (fun _ => 0) (nI ((4 * jj) + 0)).toNatClampNeg 0 = z := ⟨_, rfl⟩
  refine ww_iast (ws' := [(hm, .inr (12, [.ref m_manys, .ref m_reals, .ref m_factsOf, .ref m_possible, .int 0, .int 0, .ref m_tape, .int 0, .int 0, .int 0, .int 0, .int 0, .int 0, .int 0, .int 0, .ref m_ends, .ref m_letters, .ref m_actOf, .ref m_whom, .ref m_actMany, .ref m_tokens, .ref m_afters, .ref m_afterOf, .int 0, .ref m_pile, .ref m_caseMany, .ref m_happen, .ref m_hasIf, .ref m_becomes, .ref m_goneOf, .ref m_heard, .ref m_pairs, .ref m_heaps, .int 0, .int 0, .ref m_led, .ref m_newAt, .ref m_knowing, .ref m_firsts, .int 0, .ref m_secrets, .ref m_tried, .ref m_lanes, .ref m_lengths, .ref m_cells])), (m_caseMany, .inl (E.2.1 1, 4, .inl f_1)), (m_happen, .inl (E.2.1 1, 4, .inl f_2)), (m_hasIf, .inl (E.2.1 3, 16, .inl f_3)), (m_becomes, .inl (E.2.1 1, 16, .inl f_4)), (m_goneOf, .inl (E.2.1 1, 16, .inl f_5)), (m_heard, .inl (E.2.1 1, 64, .inl (fun _ => 0)))]) C 5 rfl (vp_in_nI (by omega) (by omega)) ef_5 rfl dX12_clearEvent_53 ?_
  refine ww_iconst (v := 0) C dX12_clearEvent_54 rfl ?_
  refine ww_istore (lv' := [(4, .int 0), (3, .int 0), (0, .ref hm), (1, .int (nI jj)), (2, .int p1)]) C dX12_clearEvent_55 rfl rfl ?_
  refine ww_iload C dX12_clearEvent_57 0 rfl ?_
  refine ww_iconst (v := 4) C dX12_clearEvent_59 rfl ?_
  refine ww_icmp_ge_f (tgt := 86) C dX12_clearEvent_60 (by decide) (by decide) ?_
  refine ww_aload_n C dX12_clearEvent_63 2 rfl rfl ?_
  refine ww_get C fg_X12_68 0 rfl rfl dX12_clearEvent_64 ?_
  refine ww_bipush (v := 16) C dX12_clearEvent_67 rfl ?_
  refine ww_iload_n C dX12_clearEvent_69 3 rfl rfl ?_
  refine ww_imul (v := (nI (16 * jj))) C dX12_clearEvent_70 (pk_mul 16 jj) ?_
  refine ww_iconst (v := 4) C dX12_clearEvent_71 rfl ?_
  refine ww_iload C dX12_clearEvent_72 0 rfl ?_
  refine ww_imul (v := 0) C dX12_clearEvent_74 (by decide) ?_
  refine ww_iadd (v := (nI ((16 * jj) + 0))) C dX12_clearEvent_75 (nI_add (16 * jj) 0) ?_
  refine ww_iload_n C dX12_clearEvent_76 1 rfl rfl ?_
  refine ww_iadd (v := (nI (((16 * jj) + 0) + 0))) C dX12_clearEvent_77 (nI_add ((16 * jj) + 0) 0) ?_
  refine ww_iconst (v := 0) C dX12_clearEvent_78 rfl ?_
  obtain ⟨f_6, ef_6⟩ : ∃ z : Nat → Int32, upd (fun _ => 0) (nI (((16 * jj) + 0) + 0)).toNatClampNeg 0 = z := ⟨_, rfl⟩
  refine ww_iast (ws' := [(hm, .inr (12, [.ref m_manys, .ref m_reals, .ref m_factsOf, .ref m_possible, .int 0, .int 0, .ref m_tape, .int 0, .int 0, .int 0, .int 0, .int 0, .int 0, .int 0, .int 0, .ref m_ends, .ref m_letters, .ref m_actOf, .ref m_whom, .ref m_actMany, .ref m_tokens, .ref m_afters, .ref m_afterOf, .int 0, .ref m_pile, .ref m_caseMany, .ref m_happen, .ref m_hasIf, .ref m_becomes, .ref m_goneOf, .ref m_heard, .ref m_pairs, .ref m_heaps, .int 0, .int 0, .ref m_led, .ref m_newAt, .ref m_knowing, .ref m_firsts, .int 0, .ref m_secrets, .ref m_tried, .ref m_lanes, .ref m_lengths, .ref m_cells])), (m_caseMany, .inl (E.2.1 1, 4, .inl f_1)), (m_happen, .inl (E.2.1 1, 4, .inl f_2)), (m_hasIf, .inl (E.2.1 3, 16, .inl f_3)), (m_becomes, .inl (E.2.1 1, 16, .inl f_4)), (m_goneOf, .inl (E.2.1 1, 16, .inl f_5)), (m_heard, .inl (E.2.1 1, 64, .inl f_6))]) C 6 rfl (vp_in_nI (by omega) (by omega)) ef_6 rfl dX12_clearEvent_79 ?_
  refine ww_iinc (j := 0) (v := 1) (lv' := [(4, .int 1), (3, .int 0), (0, .ref hm), (1, .int (nI jj)), (2, .int p1)]) C dX12_clearEvent_80 rfl rfl rfl rfl ?_
  refine ww_goto (tgt := 57) C dX12_clearEvent_83 (by decide) ?_
  refine ww_iload C dX12_clearEvent_57 0 rfl ?_
  refine ww_iconst (v := 4) C dX12_clearEvent_59 rfl ?_
  refine ww_icmp_ge_f (tgt := 86) C dX12_clearEvent_60 (by decide) (by decide) ?_
  refine ww_aload_n C dX12_clearEvent_63 2 rfl rfl ?_
  refine ww_get C fg_X12_68 0 rfl rfl dX12_clearEvent_64 ?_
  refine ww_bipush (v := 16) C dX12_clearEvent_67 rfl ?_
  refine ww_iload_n C dX12_clearEvent_69 3 rfl rfl ?_
  refine ww_imul (v := (nI (16 * jj))) C dX12_clearEvent_70 (pk_mul 16 jj) ?_
  refine ww_iconst (v := 4) C dX12_clearEvent_71 rfl ?_
  refine ww_iload C dX12_clearEvent_72 0 rfl ?_
  refine ww_imul (v := 4) C dX12_clearEvent_74 (by decide) ?_
  refine ww_iadd (v := (nI ((16 * jj) + 4))) C dX12_clearEvent_75 (nI_add (16 * jj) 4) ?_
  refine ww_iload_n C dX12_clearEvent_76 1 rfl rfl ?_
  refine ww_iadd (v := (nI (((16 * jj) + 4) + 0))) C dX12_clearEvent_77 (nI_add ((16 * jj) + 4) 0) ?_
  refine ww_iconst (v := 0) C dX12_clearEvent_78 rfl ?_
  obtain ⟨f_7, ef_7⟩ : ∃ z : Nat → Int32, upd f_6 (nI (((16 * jj) + 4) + 0)).toNatClampNeg 0 = z := ⟨_, rfl⟩
  refine ww_iast (ws' := [(hm, .inr (12, [.ref m_manys, .ref m_reals, .ref m_factsOf, .ref m_possible, .int 0, .int 0, .ref m_tape, .int 0, .int 0, .int 0, .int 0, .int 0, .int 0, .int 0, .int 0, .ref m_ends, .ref m_letters, .ref m_actOf, .ref m_whom, .ref m_actMany, .ref m_tokens, .ref m_afters, .ref m_afterOf, .int 0, .ref m_pile, .ref m_caseMany, .ref m_happen, .ref m_hasIf, .ref m_becomes, .ref m_goneOf, .ref m_heard, .ref m_pairs, .ref m_heaps, .int 0, .int 0, .ref m_led, .ref m_newAt, .ref m_knowing, .ref m_firsts, .int 0, .ref m_secrets, .ref m_tried, .ref m_lanes, .ref m_lengths, .ref m_cells])), (m_caseMany, .inl (E.2.1 1, 4, .inl f_1)), (m_happen, .inl (E.2.1 1, 4, .inl f_2)), (m_hasIf, .inl (E.2.1 3, 16, .inl f_3)), (m_becomes, .inl (E.2.1 1, 16, .inl f_4)), (m_goneOf, .inl (E.2.1 1, 16, .inl f_5)), (m_heard, .inl (E.2.1 1, 64, .inl f_7))]) C 6 rfl (vp_in_nI (by omega) (by omega)) ef_7 rfl dX12_clearEvent_79 ?_
  refine ww_iinc (j := 0) (v := 2) (lv' := [(4, .int 2), (3, .int 0), (0, .ref hm), (1, .int (nI jj)), (2, .int p1)]) C dX12_clearEvent_80 rfl rfl rfl rfl ?_
  refine ww_goto (tgt := 57) C dX12_clearEvent_83 (by decide) ?_
  refine ww_iload C dX12_clearEvent_57 0 rfl ?_
  refine ww_iconst (v := 4) C dX12_clearEvent_59 rfl ?_
  refine ww_icmp_ge_f (tgt := 86) C dX12_clearEvent_60 (by decide) (by decide) ?_
  refine ww_aload_n C dX12_clearEvent_63 2 rfl rfl ?_
  refine ww_get C fg_X12_68 0 rfl rfl dX12_clearEvent_64 ?_
  refine ww_bipush (v := 16) C dX12_clearEvent_67 rfl ?_
  refine ww_iload_n C dX12_clearEvent_69 3 rfl rfl ?_
  refine ww_imul (v := (nI (16 * jj))) C dX12_clearEvent_70 (pk_mul 16 jj) ?_
  refine ww_iconst (v := 4) C dX12_clearEvent_71 rfl ?_
  refine ww_iload C dX12_clearEvent_72 0 rfl ?_
  refine ww_imul (v := 8) C dX12_clearEvent_74 (by decide) ?_
  refine ww_iadd (v := (nI ((16 * jj) + 8))) C dX12_clearEvent_75 (nI_add (16 * jj) 8) ?_
  refine ww_iload_n C dX12_clearEvent_76 1 rfl rfl ?_
  refine ww_iadd (v := (nI (((16 * jj) + 8) + 0))) C dX12_clearEvent_77 (nI_add ((16 * jj) + 8) 0) ?_
  refine ww_iconst (v := 0) C dX12_clearEvent_78 rfl ?_
  obtain ⟨f_8, ef_8⟩ : ∃ z : Nat → Int32, upd f_7 (nI (((16 * jj) + 8) + 0)).toNatClampNeg 0 = z := ⟨_, rfl⟩
  refine ww_iast (ws' := [(hm, .inr (12, [.ref m_manys, .ref m_reals, .ref m_factsOf, .ref m_possible, .int 0, .int 0, .ref m_tape, .int 0, .int 0, .int 0, .int 0, .int 0, .int 0, .int 0, .int 0, .ref m_ends, .ref m_letters, .ref m_actOf, .ref m_whom, .ref m_actMany, .ref m_tokens, .ref m_afters, .ref m_afterOf, .int 0, .ref m_pile, .ref m_caseMany, .ref m_happen, .ref m_hasIf, .ref m_becomes, .ref m_goneOf, .ref m_heard, .ref m_pairs, .ref m_heaps, .int 0, .int 0, .ref m_led, .ref m_newAt, .ref m_knowing, .ref m_firsts, .int 0, .ref m_secrets, .ref m_tried, .ref m_lanes, .ref m_lengths, .ref m_cells])), (m_caseMany, .inl (E.2.1 1, 4, .inl f_1)), (m_happen, .inl (E.2.1 1, 4, .inl f_2)), (m_hasIf, .inl (E.2.1 3, 16, .inl f_3)), (m_becomes, .inl (E.2.1 1, 16, .inl f_4)), (m_goneOf, .inl (E.2.1 1, 16, .inl f_5)), (m_heard, .inl (E.2.1 1, 64, .inl f_8))]) C 6 rfl (vp_in_nI (by omega) (by omega)) ef_8 rfl dX12_clearEvent_79 ?_
  refine ww_iinc (j := 0) (v := 3) (lv' := [(4, .int 3), (3, .int 0), (0, .ref hm), (1, .int (nI jj)), (2, .int p1)]) C dX12_clearEvent_80 rfl rfl rfl rfl ?_
  refine ww_goto (tgt := 57) C dX12_clearEvent_83 (by decide) ?_
  refine ww_iload C dX12_clearEvent_57 0 rfl ?_
  refine ww_iconst (v := 4) C dX12_clearEvent_59 rfl ?_
  refine ww_icmp_ge_f (tgt := 86) C dX12_clearEvent_60 (by decide) (by decide) ?_
  refine ww_aload_n C dX12_clearEvent_63 2 rfl rfl ?_
  refine ww_get C fg_X12_68 0 rfl rfl dX12_clearEvent_64 ?_
  refine ww_bipush (v := 16) C dX12_clearEvent_67 rfl ?_
  refine ww_iload_n C dX12_clearEvent_69 3 rfl rfl ?_
  refine ww_imul (v := (nI (16 * jj))) C dX12_clearEvent_70 (pk_mul 16 jj) ?_
  refine ww_iconst (v := 4) C dX12_clearEvent_71 rfl ?_
  refine ww_iload C dX12_clearEvent_72 0 rfl ?_
  refine ww_imul (v := 12) C dX12_clearEvent_74 (by decide) ?_
  refine ww_iadd (v := (nI ((16 * jj) + 12))) C dX12_clearEvent_75 (nI_add (16 * jj) 12) ?_
  refine ww_iload_n C dX12_clearEvent_76 1 rfl rfl ?_
  refine ww_iadd (v := (nI (((16 * jj) + 12) + 0))) C dX12_clearEvent_77 (nI_add ((16 * jj) + 12) 0) ?_
  refine ww_iconst (v := 0) C dX12_clearEvent_78 rfl ?_
  obtain ⟨f_9, ef_9⟩ : ∃ z : Nat → Int32, upd f_8 (nI (((16 * jj) + 12) + 0)).toNatClampNeg 0 = z := ⟨_, rfl⟩
  refine ww_iast (ws' := [(hm, .inr (12, [.ref m_manys, .ref m_reals, .ref m_factsOf, .ref m_possible, .int 0, .int 0, .ref m_tape, .int 0, .int 0, .int 0, .int 0, .int 0, .int 0, .int 0, .int 0, .ref m_ends, .ref m_letters, .ref m_actOf, .ref m_whom, .ref m_actMany, .ref m_tokens, .ref m_afters, .ref m_afterOf, .int 0, .ref m_pile, .ref m_caseMany, .ref m_happen, .ref m_hasIf, .ref m_becomes, .ref m_goneOf, .ref m_heard, .ref m_pairs, .ref m_heaps, .int 0, .int 0, .ref m_led, .ref m_newAt, .ref m_knowing, .ref m_firsts, .int 0, .ref m_secrets, .ref m_tried, .ref m_lanes, .ref m_lengths, .ref m_cells])), (m_caseMany, .inl (E.2.1 1, 4, .inl f_1)), (m_happen, .inl (E.2.1 1, 4, .inl f_2)), (m_hasIf, .inl (E.2.1 3, 16, .inl f_3)), (m_becomes, .inl (E.2.1 1, 16, .inl f_4)), (m_goneOf, .inl (E.2.1 1, 16, .inl f_5)), (m_heard, .inl (E.2.1 1, 64, .inl f_9))]) C 6 rfl (vp_in_nI (by omega) (by omega)) ef_9 rfl dX12_clearEvent_79 ?_
  refine ww_iinc (j := 0) (v := 4) (lv' := [(4, .int 4), (3, .int 0), (0, .ref hm), (1, .int (nI jj)), (2, .int p1)]) C dX12_clearEvent_80 rfl rfl rfl rfl ?_
  refine ww_goto (tgt := 57) C dX12_clearEvent_83 (by decide) ?_
  refine ww_iload C dX12_clearEvent_57 0 rfl ?_
  refine ww_iconst (v := 4) C dX12_clearEvent_59 rfl ?_
  refine ww_icmp_ge_t (tgt := 86) C dX12_clearEvent_60 (by decide) (by decide) ?_
  refine ww_iinc (j := 1) (v := 1) (lv' := [(3, .int 1), (4, .int 4), (0, .ref hm), (1, .int (nI jj)), (2, .int p1)]) C dX12_clearEvent_86 rfl rfl rfl rfl ?_
  refine ww_goto (tgt := 16) C dX12_clearEvent_89 (by decide) ?_
  refine ww_iload_n C dX12_clearEvent_16 0 rfl rfl ?_
  refine ww_iconst (v := 4) C dX12_clearEvent_17 rfl ?_
  refine ww_icmp_ge_f (tgt := 92) C dX12_clearEvent_18 (by decide) (by decide) ?_
  refine ww_aload_n C dX12_clearEvent_21 2 rfl rfl ?_
  refine ww_get C fg_X12_58 0 rfl rfl dX12_clearEvent_22 ?_
  refine ww_iconst (v := 4) C dX12_clearEvent_25 rfl ?_
  refine ww_iload_n C dX12_clearEvent_26 3 rfl rfl ?_
  refine ww_imul (v := (nI (4 * jj))) C dX12_clearEvent_27 (pk_mul 4 jj) ?_
  refine ww_iload_n C dX12_clearEvent_28 0 rfl rfl ?_
  refine ww_iadd (v := (nI ((4 * jj) + 1))) C dX12_clearEvent_29 (nI_add (4 * jj) 1) ?_
  refine ww_iconst (v := 0) C dX12_clearEvent_30 rfl ?_
  obtain ⟨f_10, ef_10⟩ : ∃ z : Nat → Int32, upd f_3 (nI ((4 * jj) + 1)).toNatClampNeg (vp_nar .boolean 0) = z := ⟨_, rfl⟩
  refine ww_zast (ws' := [(hm, .inr (12, [.ref m_manys, .ref m_reals, .ref m_factsOf, .ref m_possible, .int 0, .int 0, .ref m_tape, .int 0, .int 0, .int 0, .int 0, .int 0, .int 0, .int 0, .int 0, .ref m_ends, .ref m_letters, .ref m_actOf, .ref m_whom, .ref m_actMany, .ref m_tokens, .ref m_afters, .ref m_afterOf, .int 0, .ref m_pile, .ref m_caseMany, .ref m_happen, .ref m_hasIf, .ref m_becomes, .ref m_goneOf, .ref m_heard, .ref m_pairs, .ref m_heaps, .int 0, .int 0, .ref m_led, .ref m_newAt, .ref m_knowing, .ref m_firsts, .int 0, .ref m_secrets, .ref m_tried, .ref m_lanes, .ref m_lengths, .ref m_cells])), (m_caseMany, .inl (E.2.1 1, 4, .inl f_1)), (m_happen, .inl (E.2.1 1, 4, .inl f_2)), (m_hasIf, .inl (E.2.1 3, 16, .inl f_10)), (m_becomes, .inl (E.2.1 1, 16, .inl f_4)), (m_goneOf, .inl (E.2.1 1, 16, .inl f_5)), (m_heard, .inl (E.2.1 1, 64, .inl f_9))]) C 3 rfl (vp_in_nI (by omega) (by omega)) ef_10 rfl dX12_clearEvent_31 ?_
  refine ww_aload_n C dX12_clearEvent_32 2 rfl rfl ?_
  refine ww_get C fg_X12_62 0 rfl rfl dX12_clearEvent_33 ?_
  refine ww_iconst (v := 4) C dX12_clearEvent_36 rfl ?_
  refine ww_iload_n C dX12_clearEvent_37 3 rfl rfl ?_
  refine ww_imul (v := (nI (4 * jj))) C dX12_clearEvent_38 (pk_mul 4 jj) ?_
  refine ww_iload_n C dX12_clearEvent_39 0 rfl rfl ?_
  refine ww_iadd (v := (nI ((4 * jj) + 1))) C dX12_clearEvent_40 (nI_add (4 * jj) 1) ?_
  refine ww_iconst (v := 0) C dX12_clearEvent_41 rfl ?_
  obtain ⟨f_11, ef_11⟩ : ∃ z : Nat → Int32, upd f_4 (nI ((4 * jj) + 1)).toNatClampNeg 0 = z := ⟨_, rfl⟩
  refine ww_iast (ws' := [(hm, .inr (12, [.ref m_manys, .ref m_reals, .ref m_factsOf, .ref m_possible, .int 0, .int 0, .ref m_tape, .int 0, .int 0, .int 0, .int 0, .int 0, .int 0, .int 0, .int 0, .ref m_ends, .ref m_letters, .ref m_actOf, .ref m_whom, .ref m_actMany, .ref m_tokens, .ref m_afters, .ref m_afterOf, .int 0, .ref m_pile, .ref m_caseMany, .ref m_happen, .ref m_hasIf, .ref m_becomes, .ref m_goneOf, .ref m_heard, .ref m_pairs, .ref m_heaps, .int 0, .int 0, .ref m_led, .ref m_newAt, .ref m_knowing, .ref m_firsts, .int 0, .ref m_secrets, .ref m_tried, .ref m_lanes, .ref m_lengths, .ref m_cells])), (m_caseMany, .inl (E.2.1 1, 4, .inl f_1)), (m_happen, .inl (E.2.1 1, 4, .inl f_2)), (m_hasIf, .inl (E.2.1 3, 16, .inl f_10)), (m_becomes, .inl (E.2.1 1, 16, .inl f_11)), (m_goneOf, .inl (E.2.1 1, 16, .inl f_5)), (m_heard, .inl (E.2.1 1, 64, .inl f_9))]) C 4 rfl (vp_in_nI (by omega) (by omega)) ef_11 rfl dX12_clearEvent_42 ?_
  refine ww_aload_n C dX12_clearEvent_43 2 rfl rfl ?_
  refine ww_get C fg_X12_65 0 rfl rfl dX12_clearEvent_44 ?_
  refine ww_iconst (v := 4) C dX12_clearEvent_47 rfl ?_
  refine ww_iload_n C dX12_clearEvent_48 3 rfl rfl ?_
  refine ww_imul (v := (nI (4 * jj))) C dX12_clearEvent_49 (pk_mul 4 jj) ?_
  refine ww_iload_n C dX12_clearEvent_50 0 rfl rfl ?_
  refine ww_iadd (v := (nI ((4 * jj) + 1))) C dX12_clearEvent_51 (nI_add (4 * jj) 1) ?_
  refine ww_iconst (v := 0) C dX12_clearEvent_52 rfl ?_
  obtain ⟨f_12, ef_12⟩ : ∃ z : Nat → Int32, upd f_5 (nI ((4 * jj) + 1)).toNatClampNeg 0 = z := ⟨_, rfl⟩
  refine ww_iast (ws' := [(hm, .inr (12, [.ref m_manys, .ref m_reals, .ref m_factsOf, .ref m_possible, .int 0, .int 0, .ref m_tape, .int 0, .int 0, .int 0, .int 0, .int 0, .int 0, .int 0, .int 0, .ref m_ends, .ref m_letters, .ref m_actOf, .ref m_whom, .ref m_actMany, .ref m_tokens, .ref m_afters, .ref m_afterOf, .int 0, .ref m_pile, .ref m_caseMany, .ref m_happen, .ref m_hasIf, .ref m_becomes, .ref m_goneOf, .ref m_heard, .ref m_pairs, .ref m_heaps, .int 0, .int 0, .ref m_led, .ref m_newAt, .ref m_knowing, .ref m_firsts, .int 0, .ref m_secrets, .ref m_tried, .ref m_lanes, .ref m_lengths, .ref m_cells])), (m_caseMany, .inl (E.2.1 1, 4, .inl f_1)), (m_happen, .inl (E.2.1 1, 4, .inl f_2)), (m_hasIf, .inl (E.2.1 3, 16, .inl f_10)), (m_becomes, .inl (E.2.1 1, 16, .inl f_11)), (m_goneOf, .inl (E.2.1 1, 16, .inl f_12)), (m_heard, .inl (E.2.1 1, 64, .inl f_9))]) C 5 rfl (vp_in_nI (by omega) (by omega)) ef_12 rfl dX12_clearEvent_53 ?_
  refine ww_iconst (v := 0) C dX12_clearEvent_54 rfl ?_
  refine ww_istore (lv' := [(4, .int 0), (3, .int 1), (0, .ref hm), (1, .int (nI jj)), (2, .int p1)]) C dX12_clearEvent_55 rfl rfl ?_
  refine ww_iload C dX12_clearEvent_57 0 rfl ?_
  refine ww_iconst (v := 4) C dX12_clearEvent_59 rfl ?_
  refine ww_icmp_ge_f (tgt := 86) C dX12_clearEvent_60 (by decide) (by decide) ?_
  refine ww_aload_n C dX12_clearEvent_63 2 rfl rfl ?_
  refine ww_get C fg_X12_68 0 rfl rfl dX12_clearEvent_64 ?_
  refine ww_bipush (v := 16) C dX12_clearEvent_67 rfl ?_
  refine ww_iload_n C dX12_clearEvent_69 3 rfl rfl ?_
  refine ww_imul (v := (nI (16 * jj))) C dX12_clearEvent_70 (pk_mul 16 jj) ?_
  refine ww_iconst (v := 4) C dX12_clearEvent_71 rfl ?_
  refine ww_iload C dX12_clearEvent_72 0 rfl ?_
  refine ww_imul (v := 0) C dX12_clearEvent_74 (by decide) ?_
  refine ww_iadd (v := (nI ((16 * jj) + 0))) C dX12_clearEvent_75 (nI_add (16 * jj) 0) ?_
  refine ww_iload_n C dX12_clearEvent_76 1 rfl rfl ?_
  refine ww_iadd (v := (nI (((16 * jj) + 0) + 1))) C dX12_clearEvent_77 (nI_add ((16 * jj) + 0) 1) ?_
  refine ww_iconst (v := 0) C dX12_clearEvent_78 rfl ?_
  obtain ⟨f_13, ef_13⟩ : ∃ z : Nat → Int32, upd f_9 (nI (((16 * jj) + 0) + 1)).toNatClampNeg 0 = z := ⟨_, rfl⟩
  refine ww_iast (ws' := [(hm, .inr (12, [.ref m_manys, .ref m_reals, .ref m_factsOf, .ref m_possible, .int 0, .int 0, .ref m_tape, .int 0, .int 0, .int 0, .int 0, .int 0, .int 0, .int 0, .int 0, .ref m_ends, .ref m_letters, .ref m_actOf, .ref m_whom, .ref m_actMany, .ref m_tokens, .ref m_afters, .ref m_afterOf, .int 0, .ref m_pile, .ref m_caseMany, .ref m_happen, .ref m_hasIf, .ref m_becomes, .ref m_goneOf, .ref m_heard, .ref m_pairs, .ref m_heaps, .int 0, .int 0, .ref m_led, .ref m_newAt, .ref m_knowing, .ref m_firsts, .int 0, .ref m_secrets, .ref m_tried, .ref m_lanes, .ref m_lengths, .ref m_cells])), (m_caseMany, .inl (E.2.1 1, 4, .inl f_1)), (m_happen, .inl (E.2.1 1, 4, .inl f_2)), (m_hasIf, .inl (E.2.1 3, 16, .inl f_10)), (m_becomes, .inl (E.2.1 1, 16, .inl f_11)), (m_goneOf, .inl (E.2.1 1, 16, .inl f_12)), (m_heard, .inl (E.2.1 1, 64, .inl f_13))]) C 6 rfl (vp_in_nI (by omega) (by omega)) ef_13 rfl dX12_clearEvent_79 ?_
  refine ww_iinc (j := 0) (v := 1) (lv' := [(4, .int 1), (3, .int 1), (0, .ref hm), (1, .int (nI jj)), (2, .int p1)]) C dX12_clearEvent_80 rfl rfl rfl rfl ?_
  refine ww_goto (tgt := 57) C dX12_clearEvent_83 (by decide) ?_
  refine ww_iload C dX12_clearEvent_57 0 rfl ?_
  refine ww_iconst (v := 4) C dX12_clearEvent_59 rfl ?_
  refine ww_icmp_ge_f (tgt := 86) C dX12_clearEvent_60 (by decide) (by decide) ?_
  refine ww_aload_n C dX12_clearEvent_63 2 rfl rfl ?_
  refine ww_get C fg_X12_68 0 rfl rfl dX12_clearEvent_64 ?_
  refine ww_bipush (v := 16) C dX12_clearEvent_67 rfl ?_
  refine ww_iload_n C dX12_clearEvent_69 3 rfl rfl ?_
  refine ww_imul (v := (nI (16 * jj))) C dX12_clearEvent_70 (pk_mul 16 jj) ?_
  refine ww_iconst (v := 4) C dX12_clearEvent_71 rfl ?_
  refine ww_iload C dX12_clearEvent_72 0 rfl ?_
  refine ww_imul (v := 4) C dX12_clearEvent_74 (by decide) ?_
  refine ww_iadd (v := (nI ((16 * jj) + 4))) C dX12_clearEvent_75 (nI_add (16 * jj) 4) ?_
  refine ww_iload_n C dX12_clearEvent_76 1 rfl rfl ?_
  refine ww_iadd (v := (nI (((16 * jj) + 4) + 1))) C dX12_clearEvent_77 (nI_add ((16 * jj) + 4) 1) ?_
  refine ww_iconst (v := 0) C dX12_clearEvent_78 rfl ?_
  obtain ⟨f_14, ef_14⟩ : ∃ z : Nat → Int32, upd f_13 (nI (((16 * jj) + 4) + 1)).toNatClampNeg 0 = z := ⟨_, rfl⟩
  refine ww_iast (ws' := [(hm, .inr (12, [.ref m_manys, .ref m_reals, .ref m_factsOf, .ref m_possible, .int 0, .int 0, .ref m_tape, .int 0, .int 0, .int 0, .int 0, .int 0, .int 0, .int 0, .int 0, .ref m_ends, .ref m_letters, .ref m_actOf, .ref m_whom, .ref m_actMany, .ref m_tokens, .ref m_afters, .ref m_afterOf, .int 0, .ref m_pile, .ref m_caseMany, .ref m_happen, .ref m_hasIf, .ref m_becomes, .ref m_goneOf, .ref m_heard, .ref m_pairs, .ref m_heaps, .int 0, .int 0, .ref m_led, .ref m_newAt, .ref m_knowing, .ref m_firsts, .int 0, .ref m_secrets, .ref m_tried, .ref m_lanes, .ref m_lengths, .ref m_cells])), (m_caseMany, .inl (E.2.1 1, 4, .inl f_1)), (m_happen, .inl (E.2.1 1, 4, .inl f_2)), (m_hasIf, .inl (E.2.1 3, 16, .inl f_10)), (m_becomes, .inl (E.2.1 1, 16, .inl f_11)), (m_goneOf, .inl (E.2.1 1, 16, .inl f_12)), (m_heard, .inl (E.2.1 1, 64, .inl f_14))]) C 6 rfl (vp_in_nI (by omega) (by omega)) ef_14 rfl dX12_clearEvent_79 ?_
  refine ww_iinc (j := 0) (v := 2) (lv' := [(4, .int 2), (3, .int 1), (0, .ref hm), (1, .int (nI jj)), (2, .int p1)]) C dX12_clearEvent_80 rfl rfl rfl rfl ?_
  refine ww_goto (tgt := 57) C dX12_clearEvent_83 (by decide) ?_
  refine ww_iload C dX12_clearEvent_57 0 rfl ?_
  refine ww_iconst (v := 4) C dX12_clearEvent_59 rfl ?_
  refine ww_icmp_ge_f (tgt := 86) C dX12_clearEvent_60 (by decide) (by decide) ?_
  refine ww_aload_n C dX12_clearEvent_63 2 rfl rfl ?_
  refine ww_get C fg_X12_68 0 rfl rfl dX12_clearEvent_64 ?_
  refine ww_bipush (v := 16) C dX12_clearEvent_67 rfl ?_
  refine ww_iload_n C dX12_clearEvent_69 3 rfl rfl ?_
  refine ww_imul (v := (nI (16 * jj))) C dX12_clearEvent_70 (pk_mul 16 jj) ?_
  refine ww_iconst (v := 4) C dX12_clearEvent_71 rfl ?_
  refine ww_iload C dX12_clearEvent_72 0 rfl ?_
  refine ww_imul (v := 8) C dX12_clearEvent_74 (by decide) ?_
  refine ww_iadd (v := (nI ((16 * jj) + 8))) C dX12_clearEvent_75 (nI_add (16 * jj) 8) ?_
  refine ww_iload_n C dX12_clearEvent_76 1 rfl rfl ?_
  refine ww_iadd (v := (nI (((16 * jj) + 8) + 1))) C dX12_clearEvent_77 (nI_add ((16 * jj) + 8) 1) ?_
  refine ww_iconst (v := 0) C dX12_clearEvent_78 rfl ?_
  obtain ⟨f_15, ef_15⟩ : ∃ z : Nat → Int32, upd f_14 (nI (((16 * jj) + 8) + 1)).toNatClampNeg 0 = z := ⟨_, rfl⟩
  refine ww_iast (ws' := [(hm, .inr (12, [.ref m_manys, .ref m_reals, .ref m_factsOf, .ref m_possible, .int 0, .int 0, .ref m_tape, .int 0, .int 0, .int 0, .int 0, .int 0, .int 0, .int 0, .int 0, .ref m_ends, .ref m_letters, .ref m_actOf, .ref m_whom, .ref m_actMany, .ref m_tokens, .ref m_afters, .ref m_afterOf, .int 0, .ref m_pile, .ref m_caseMany, .ref m_happen, .ref m_hasIf, .ref m_becomes, .ref m_goneOf, .ref m_heard, .ref m_pairs, .ref m_heaps, .int 0, .int 0, .ref m_led, .ref m_newAt, .ref m_knowing, .ref m_firsts, .int 0, .ref m_secrets, .ref m_tried, .ref m_lanes, .ref m_lengths, .ref m_cells])), (m_caseMany, .inl (E.2.1 1, 4, .inl f_1)), (m_happen, .inl (E.2.1 1, 4, .inl f_2)), (m_hasIf, .inl (E.2.1 3, 16, .inl f_10)), (m_becomes, .inl (E.2.1 1, 16, .inl f_11)), (m_goneOf, .inl (E.2.1 1, 16, .inl f_12)), (m_heard, .inl (E.2.1 1, 64, .inl f_15))]) C 6 rfl (vp_in_nI (by omega) (by omega)) ef_15 rfl dX12_clearEvent_79 ?_
  refine ww_iinc (j := 0) (v := 3) (lv' := [(4, .int 3), (3, .int 1), (0, .ref hm), (1, .int (nI jj)), (2, .int p1)]) C dX12_clearEvent_80 rfl rfl rfl rfl ?_
  refine ww_goto (tgt := 57) C dX12_clearEvent_83 (by decide) ?_
  refine ww_iload C dX12_clearEvent_57 0 rfl ?_
  refine ww_iconst (v := 4) C dX12_clearEvent_59 rfl ?_
  refine ww_icmp_ge_f (tgt := 86) C dX12_clearEvent_60 (by decide) (by decide) ?_
  refine ww_aload_n C dX12_clearEvent_63 2 rfl rfl ?_
  refine ww_get C fg_X12_68 0 rfl rfl dX12_clearEvent_64 ?_
  refine ww_bipush (v := 16) C dX12_clearEvent_67 rfl ?_
  refine ww_iload_n C dX12_clearEvent_69 3 rfl rfl ?_
  refine ww_imul (v := (nI (16 * jj))) C dX12_clearEvent_70 (pk_mul 16 jj) ?_
  refine ww_iconst (v := 4) C dX12_clearEvent_71 rfl ?_
  refine ww_iload C dX12_clearEvent_72 0 rfl ?_
  refine ww_imul (v := 12) C dX12_clearEvent_74 (by decide) ?_
  refine ww_iadd (v := (nI ((16 * jj) + 12))) C dX12_clearEvent_75 (nI_add (16 * jj) 12) ?_
  refine ww_iload_n C dX12_clearEvent_76 1 rfl rfl ?_
  refine ww_iadd (v := (nI (((16 * jj) + 12) + 1))) C dX12_clearEvent_77 (nI_add ((16 * jj) + 12) 1) ?_
  refine ww_iconst (v := 0) C dX12_clearEvent_78 rfl ?_
  obtain ⟨f_16, ef_16⟩ : ∃ z : Nat → Int32, upd f_15 (nI (((16 * jj) + 12) + 1)).toNatClampNeg 0 = z := ⟨_, rfl⟩
  refine ww_iast (ws' := [(hm, .inr (12, [.ref m_manys, .ref m_reals, .ref m_factsOf, .ref m_possible, .int 0, .int 0, .ref m_tape, .int 0, .int 0, .int 0, .int 0, .int 0, .int 0, .int 0, .int 0, .ref m_ends, .ref m_letters, .ref m_actOf, .ref m_whom, .ref m_actMany, .ref m_tokens, .ref m_afters, .ref m_afterOf, .int 0, .ref m_pile, .ref m_caseMany, .ref m_happen, .ref m_hasIf, .ref m_becomes, .ref m_goneOf, .ref m_heard, .ref m_pairs, .ref m_heaps, .int 0, .int 0, .ref m_led, .ref m_newAt, .ref m_knowing, .ref m_firsts, .int 0, .ref m_secrets, .ref m_tried, .ref m_lanes, .ref m_lengths, .ref m_cells])), (m_caseMany, .inl (E.2.1 1, 4, .inl f_1)), (m_happen, .inl (E.2.1 1, 4, .inl f_2)), (m_hasIf, .inl (E.2.1 3, 16, .inl f_10)), (m_becomes, .inl (E.2.1 1, 16, .inl f_11)), (m_goneOf, .inl (E.2.1 1, 16, .inl f_12)), (m_heard, .inl (E.2.1 1, 64, .inl f_16))]) C 6 rfl (vp_in_nI (by omega) (by omega)) ef_16 rfl dX12_clearEvent_79 ?_
  refine ww_iinc (j := 0) (v := 4) (lv' := [(4, .int 4), (3, .int 1), (0, .ref hm), (1, .int (nI jj)), (2, .int p1)]) C dX12_clearEvent_80 rfl rfl rfl rfl ?_
  refine ww_goto (tgt := 57) C dX12_clearEvent_83 (by decide) ?_
  refine ww_iload C dX12_clearEvent_57 0 rfl ?_
  refine ww_iconst (v := 4) C dX12_clearEvent_59 rfl ?_
  refine ww_icmp_ge_t (tgt := 86) C dX12_clearEvent_60 (by decide) (by decide) ?_
  refine ww_iinc (j := 1) (v := 2) (lv' := [(3, .int 2), (4, .int 4), (0, .ref hm), (1, .int (nI jj)), (2, .int p1)]) C dX12_clearEvent_86 rfl rfl rfl rfl ?_
  refine ww_goto (tgt := 16) C dX12_clearEvent_89 (by decide) ?_
  refine ww_iload_n C dX12_clearEvent_16 0 rfl rfl ?_
  refine ww_iconst (v := 4) C dX12_clearEvent_17 rfl ?_
  refine ww_icmp_ge_f (tgt := 92) C dX12_clearEvent_18 (by decide) (by decide) ?_
  refine ww_aload_n C dX12_clearEvent_21 2 rfl rfl ?_
  refine ww_get C fg_X12_58 0 rfl rfl dX12_clearEvent_22 ?_
  refine ww_iconst (v := 4) C dX12_clearEvent_25 rfl ?_
  refine ww_iload_n C dX12_clearEvent_26 3 rfl rfl ?_
  refine ww_imul (v := (nI (4 * jj))) C dX12_clearEvent_27 (pk_mul 4 jj) ?_
  refine ww_iload_n C dX12_clearEvent_28 0 rfl rfl ?_
  refine ww_iadd (v := (nI ((4 * jj) + 2))) C dX12_clearEvent_29 (nI_add (4 * jj) 2) ?_
  refine ww_iconst (v := 0) C dX12_clearEvent_30 rfl ?_
  obtain ⟨f_17, ef_17⟩ : ∃ z : Nat → Int32, upd f_10 (nI ((4 * jj) + 2)).toNatClampNeg (vp_nar .boolean 0) = z := ⟨_, rfl⟩
  refine ww_zast (ws' := [(hm, .inr (12, [.ref m_manys, .ref m_reals, .ref m_factsOf, .ref m_possible, .int 0, .int 0, .ref m_tape, .int 0, .int 0, .int 0, .int 0, .int 0, .int 0, .int 0, .int 0, .ref m_ends, .ref m_letters, .ref m_actOf, .ref m_whom, .ref m_actMany, .ref m_tokens, .ref m_afters, .ref m_afterOf, .int 0, .ref m_pile, .ref m_caseMany, .ref m_happen, .ref m_hasIf, .ref m_becomes, .ref m_goneOf, .ref m_heard, .ref m_pairs, .ref m_heaps, .int 0, .int 0, .ref m_led, .ref m_newAt, .ref m_knowing, .ref m_firsts, .int 0, .ref m_secrets, .ref m_tried, .ref m_lanes, .ref m_lengths, .ref m_cells])), (m_caseMany, .inl (E.2.1 1, 4, .inl f_1)), (m_happen, .inl (E.2.1 1, 4, .inl f_2)), (m_hasIf, .inl (E.2.1 3, 16, .inl f_17)), (m_becomes, .inl (E.2.1 1, 16, .inl f_11)), (m_goneOf, .inl (E.2.1 1, 16, .inl f_12)), (m_heard, .inl (E.2.1 1, 64, .inl f_16))]) C 3 rfl (vp_in_nI (by omega) (by omega)) ef_17 rfl dX12_clearEvent_31 ?_
  refine ww_aload_n C dX12_clearEvent_32 2 rfl rfl ?_
  refine ww_get C fg_X12_62 0 rfl rfl dX12_clearEvent_33 ?_
  refine ww_iconst (v := 4) C dX12_clearEvent_36 rfl ?_
  refine ww_iload_n C dX12_clearEvent_37 3 rfl rfl ?_
  refine ww_imul (v := (nI (4 * jj))) C dX12_clearEvent_38 (pk_mul 4 jj) ?_
  refine ww_iload_n C dX12_clearEvent_39 0 rfl rfl ?_
  refine ww_iadd (v := (nI ((4 * jj) + 2))) C dX12_clearEvent_40 (nI_add (4 * jj) 2) ?_
  refine ww_iconst (v := 0) C dX12_clearEvent_41 rfl ?_
  obtain ⟨f_18, ef_18⟩ : ∃ z : Nat → Int32, upd f_11 (nI ((4 * jj) + 2)).toNatClampNeg 0 = z := ⟨_, rfl⟩
  refine ww_iast (ws' := [(hm, .inr (12, [.ref m_manys, .ref m_reals, .ref m_factsOf, .ref m_possible, .int 0, .int 0, .ref m_tape, .int 0, .int 0, .int 0, .int 0, .int 0, .int 0, .int 0, .int 0, .ref m_ends, .ref m_letters, .ref m_actOf, .ref m_whom, .ref m_actMany, .ref m_tokens, .ref m_afters, .ref m_afterOf, .int 0, .ref m_pile, .ref m_caseMany, .ref m_happen, .ref m_hasIf, .ref m_becomes, .ref m_goneOf, .ref m_heard, .ref m_pairs, .ref m_heaps, .int 0, .int 0, .ref m_led, .ref m_newAt, .ref m_knowing, .ref m_firsts, .int 0, .ref m_secrets, .ref m_tried, .ref m_lanes, .ref m_lengths, .ref m_cells])), (m_caseMany, .inl (E.2.1 1, 4, .inl f_1)), (m_happen, .inl (E.2.1 1, 4, .inl f_2)), (m_hasIf, .inl (E.2.1 3, 16, .inl f_17)), (m_becomes, .inl (E.2.1 1, 16, .inl f_18)), (m_goneOf, .inl (E.2.1 1, 16, .inl f_12)), (m_heard, .inl (E.2.1 1, 64, .inl f_16))]) C 4 rfl (vp_in_nI (by omega) (by omega)) ef_18 rfl dX12_clearEvent_42 ?_
  refine ww_aload_n C dX12_clearEvent_43 2 rfl rfl ?_
  refine ww_get C fg_X12_65 0 rfl rfl dX12_clearEvent_44 ?_
  refine ww_iconst (v := 4) C dX12_clearEvent_47 rfl ?_
  refine ww_iload_n C dX12_clearEvent_48 3 rfl rfl ?_
  refine ww_imul (v := (nI (4 * jj))) C dX12_clearEvent_49 (pk_mul 4 jj) ?_
  refine ww_iload_n C dX12_clearEvent_50 0 rfl rfl ?_
  refine ww_iadd (v := (nI ((4 * jj) + 2))) C dX12_clearEvent_51 (nI_add (4 * jj) 2) ?_
  refine ww_iconst (v := 0) C dX12_clearEvent_52 rfl ?_
  obtain ⟨f_19, ef_19⟩ : ∃ z : Nat → Int32, upd f_12 (nI ((4 * jj) + 2)).toNatClampNeg 0 = z := ⟨_, rfl⟩
  refine ww_iast (ws' := [(hm, .inr (12, [.ref m_manys, .ref m_reals, .ref m_factsOf, .ref m_possible, .int 0, .int 0, .ref m_tape, .int 0, .int 0, .int 0, .int 0, .int 0, .int 0, .int 0, .int 0, .ref m_ends, .ref m_letters, .ref m_actOf, .ref m_whom, .ref m_actMany, .ref m_tokens, .ref m_afters, .ref m_afterOf, .int 0, .ref m_pile, .ref m_caseMany, .ref m_happen, .ref m_hasIf, .ref m_becomes, .ref m_goneOf, .ref m_heard, .ref m_pairs, .ref m_heaps, .int 0, .int 0, .ref m_led, .ref m_newAt, .ref m_knowing, .ref m_firsts, .int 0, .ref m_secrets, .ref m_tried, .ref m_lanes, .ref m_lengths, .ref m_cells])), (m_caseMany, .inl (E.2.1 1, 4, .inl f_1)), (m_happen, .inl (E.2.1 1, 4, .inl f_2)), (m_hasIf, .inl (E.2.1 3, 16, .inl f_17)), (m_becomes, .inl (E.2.1 1, 16, .inl f_18)), (m_goneOf, .inl (E.2.1 1, 16, .inl f_19)), (m_heard, .inl (E.2.1 1, 64, .inl f_16))]) C 5 rfl (vp_in_nI (by omega) (by omega)) ef_19 rfl dX12_clearEvent_53 ?_
  refine ww_iconst (v := 0) C dX12_clearEvent_54 rfl ?_
  refine ww_istore (lv' := [(4, .int 0), (3, .int 2), (0, .ref hm), (1, .int (nI jj)), (2, .int p1)]) C dX12_clearEvent_55 rfl rfl ?_
  refine ww_iload C dX12_clearEvent_57 0 rfl ?_
  refine ww_iconst (v := 4) C dX12_clearEvent_59 rfl ?_
  refine ww_icmp_ge_f (tgt := 86) C dX12_clearEvent_60 (by decide) (by decide) ?_
  refine ww_aload_n C dX12_clearEvent_63 2 rfl rfl ?_
  refine ww_get C fg_X12_68 0 rfl rfl dX12_clearEvent_64 ?_
  refine ww_bipush (v := 16) C dX12_clearEvent_67 rfl ?_
  refine ww_iload_n C dX12_clearEvent_69 3 rfl rfl ?_
  refine ww_imul (v := (nI (16 * jj))) C dX12_clearEvent_70 (pk_mul 16 jj) ?_
  refine ww_iconst (v := 4) C dX12_clearEvent_71 rfl ?_
  refine ww_iload C dX12_clearEvent_72 0 rfl ?_
  refine ww_imul (v := 0) C dX12_clearEvent_74 (by decide) ?_
  refine ww_iadd (v := (nI ((16 * jj) + 0))) C dX12_clearEvent_75 (nI_add (16 * jj) 0) ?_
  refine ww_iload_n C dX12_clearEvent_76 1 rfl rfl ?_
  refine ww_iadd (v := (nI (((16 * jj) + 0) + 2))) C dX12_clearEvent_77 (nI_add ((16 * jj) + 0) 2) ?_
  refine ww_iconst (v := 0) C dX12_clearEvent_78 rfl ?_
  obtain ⟨f_20, ef_20⟩ : ∃ z : Nat → Int32, upd f_16 (nI (((16 * jj) + 0) + 2)).toNatClampNeg 0 = z := ⟨_, rfl⟩
  refine ww_iast (ws' := [(hm, .inr (12, [.ref m_manys, .ref m_reals, .ref m_factsOf, .ref m_possible, .int 0, .int 0, .ref m_tape, .int 0, .int 0, .int 0, .int 0, .int 0, .int 0, .int 0, .int 0, .ref m_ends, .ref m_letters, .ref m_actOf, .ref m_whom, .ref m_actMany, .ref m_tokens, .ref m_afters, .ref m_afterOf, .int 0, .ref m_pile, .ref m_caseMany, .ref m_happen, .ref m_hasIf, .ref m_becomes, .ref m_goneOf, .ref m_heard, .ref m_pairs, .ref m_heaps, .int 0, .int 0, .ref m_led, .ref m_newAt, .ref m_knowing, .ref m_firsts, .int 0, .ref m_secrets, .ref m_tried, .ref m_lanes, .ref m_lengths, .ref m_cells])), (m_caseMany, .inl (E.2.1 1, 4, .inl f_1)), (m_happen, .inl (E.2.1 1, 4, .inl f_2)), (m_hasIf, .inl (E.2.1 3, 16, .inl f_17)), (m_becomes, .inl (E.2.1 1, 16, .inl f_18)), (m_goneOf, .inl (E.2.1 1, 16, .inl f_19)), (m_heard, .inl (E.2.1 1, 64, .inl f_20))]) C 6 rfl (vp_in_nI (by omega) (by omega)) ef_20 rfl dX12_clearEvent_79 ?_
  refine ww_iinc (j := 0) (v := 1) (lv' := [(4, .int 1), (3, .int 2), (0, .ref hm), (1, .int (nI jj)), (2, .int p1)]) C dX12_clearEvent_80 rfl rfl rfl rfl ?_
  refine ww_goto (tgt := 57) C dX12_clearEvent_83 (by decide) ?_
  refine ww_iload C dX12_clearEvent_57 0 rfl ?_
  refine ww_iconst (v := 4) C dX12_clearEvent_59 rfl ?_
  refine ww_icmp_ge_f (tgt := 86) C dX12_clearEvent_60 (by decide) (by decide) ?_
  refine ww_aload_n C dX12_clearEvent_63 2 rfl rfl ?_
  refine ww_get C fg_X12_68 0 rfl rfl dX12_clearEvent_64 ?_
  refine ww_bipush (v := 16) C dX12_clearEvent_67 rfl ?_
  refine ww_iload_n C dX12_clearEvent_69 3 rfl rfl ?_
  refine ww_imul (v := (nI (16 * jj))) C dX12_clearEvent_70 (pk_mul 16 jj) ?_
  refine ww_iconst (v := 4) C dX12_clearEvent_71 rfl ?_
  refine ww_iload C dX12_clearEvent_72 0 rfl ?_
  refine ww_imul (v := 4) C dX12_clearEvent_74 (by decide) ?_
  refine ww_iadd (v := (nI ((16 * jj) + 4))) C dX12_clearEvent_75 (nI_add (16 * jj) 4) ?_
  refine ww_iload_n C dX12_clearEvent_76 1 rfl rfl ?_
  refine ww_iadd (v := (nI (((16 * jj) + 4) + 2))) C dX12_clearEvent_77 (nI_add ((16 * jj) + 4) 2) ?_
  refine ww_iconst (v := 0) C dX12_clearEvent_78 rfl ?_
  obtain ⟨f_21, ef_21⟩ : ∃ z : Nat → Int32, upd f_20 (nI (((16 * jj) + 4) + 2)).toNatClampNeg 0 = z := ⟨_, rfl⟩
  refine ww_iast (ws' := [(hm, .inr (12, [.ref m_manys, .ref m_reals, .ref m_factsOf, .ref m_possible, .int 0, .int 0, .ref m_tape, .int 0, .int 0, .int 0, .int 0, .int 0, .int 0, .int 0, .int 0, .ref m_ends, .ref m_letters, .ref m_actOf, .ref m_whom, .ref m_actMany, .ref m_tokens, .ref m_afters, .ref m_afterOf, .int 0, .ref m_pile, .ref m_caseMany, .ref m_happen, .ref m_hasIf, .ref m_becomes, .ref m_goneOf, .ref m_heard, .ref m_pairs, .ref m_heaps, .int 0, .int 0, .ref m_led, .ref m_newAt, .ref m_knowing, .ref m_firsts, .int 0, .ref m_secrets, .ref m_tried, .ref m_lanes, .ref m_lengths, .ref m_cells])), (m_caseMany, .inl (E.2.1 1, 4, .inl f_1)), (m_happen, .inl (E.2.1 1, 4, .inl f_2)), (m_hasIf, .inl (E.2.1 3, 16, .inl f_17)), (m_becomes, .inl (E.2.1 1, 16, .inl f_18)), (m_goneOf, .inl (E.2.1 1, 16, .inl f_19)), (m_heard, .inl (E.2.1 1, 64, .inl f_21))]) C 6 rfl (vp_in_nI (by omega) (by omega)) ef_21 rfl dX12_clearEvent_79 ?_
  refine ww_iinc (j := 0) (v := 2) (lv' := [(4, .int 2), (3, .int 2), (0, .ref hm), (1, .int (nI jj)), (2, .int p1)]) C dX12_clearEvent_80 rfl rfl rfl rfl ?_
  refine ww_goto (tgt := 57) C dX12_clearEvent_83 (by decide) ?_
  refine ww_iload C dX12_clearEvent_57 0 rfl ?_
  refine ww_iconst (v := 4) C dX12_clearEvent_59 rfl ?_
  refine ww_icmp_ge_f (tgt := 86) C dX12_clearEvent_60 (by decide) (by decide) ?_
  refine ww_aload_n C dX12_clearEvent_63 2 rfl rfl ?_
  refine ww_get C fg_X12_68 0 rfl rfl dX12_clearEvent_64 ?_
  refine ww_bipush (v := 16) C dX12_clearEvent_67 rfl ?_
  refine ww_iload_n C dX12_clearEvent_69 3 rfl rfl ?_
  refine ww_imul (v := (nI (16 * jj))) C dX12_clearEvent_70 (pk_mul 16 jj) ?_
  refine ww_iconst (v := 4) C dX12_clearEvent_71 rfl ?_
  refine ww_iload C dX12_clearEvent_72 0 rfl ?_
  refine ww_imul (v := 8) C dX12_clearEvent_74 (by decide) ?_
  refine ww_iadd (v := (nI ((16 * jj) + 8))) C dX12_clearEvent_75 (nI_add (16 * jj) 8) ?_
  refine ww_iload_n C dX12_clearEvent_76 1 rfl rfl ?_
  refine ww_iadd (v := (nI (((16 * jj) + 8) + 2))) C dX12_clearEvent_77 (nI_add ((16 * jj) + 8) 2) ?_
  refine ww_iconst (v := 0) C dX12_clearEvent_78 rfl ?_
  obtain ⟨f_22, ef_22⟩ : ∃ z : Nat → Int32, upd f_21 (nI (((16 * jj) + 8) + 2)).toNatClampNeg 0 = z := ⟨_, rfl⟩
  refine ww_iast (ws' := [(hm, .inr (12, [.ref m_manys, .ref m_reals, .ref m_factsOf, .ref m_possible, .int 0, .int 0, .ref m_tape, .int 0, .int 0, .int 0, .int 0, .int 0, .int 0, .int 0, .int 0, .ref m_ends, .ref m_letters, .ref m_actOf, .ref m_whom, .ref m_actMany, .ref m_tokens, .ref m_afters, .ref m_afterOf, .int 0, .ref m_pile, .ref m_caseMany, .ref m_happen, .ref m_hasIf, .ref m_becomes, .ref m_goneOf, .ref m_heard, .ref m_pairs, .ref m_heaps, .int 0, .int 0, .ref m_led, .ref m_newAt, .ref m_knowing, .ref m_firsts, .int 0, .ref m_secrets, .ref m_tried, .ref m_lanes, .ref m_lengths, .ref m_cells])), (m_caseMany, .inl (E.2.1 1, 4, .inl f_1)), (m_happen, .inl (E.2.1 1, 4, .inl f_2)), (m_hasIf, .inl (E.2.1 3, 16, .inl f_17)), (m_becomes, .inl (E.2.1 1, 16, .inl f_18)), (m_goneOf, .inl (E.2.1 1, 16, .inl f_19)), (m_heard, .inl (E.2.1 1, 64, .inl f_22))]) C 6 rfl (vp_in_nI (by omega) (by omega)) ef_22 rfl dX12_clearEvent_79 ?_
  refine ww_iinc (j := 0) (v := 3) (lv' := [(4, .int 3), (3, .int 2), (0, .ref hm), (1, .int (nI jj)), (2, .int p1)]) C dX12_clearEvent_80 rfl rfl rfl rfl ?_
  refine ww_goto (tgt := 57) C dX12_clearEvent_83 (by decide) ?_
  refine ww_iload C dX12_clearEvent_57 0 rfl ?_
  refine ww_iconst (v := 4) C dX12_clearEvent_59 rfl ?_
  refine ww_icmp_ge_f (tgt := 86) C dX12_clearEvent_60 (by decide) (by decide) ?_
  refine ww_aload_n C dX12_clearEvent_63 2 rfl rfl ?_
  refine ww_get C fg_X12_68 0 rfl rfl dX12_clearEvent_64 ?_
  refine ww_bipush (v := 16) C dX12_clearEvent_67 rfl ?_
  refine ww_iload_n C dX12_clearEvent_69 3 rfl rfl ?_
  refine ww_imul (v := (nI (16 * jj))) C dX12_clearEvent_70 (pk_mul 16 jj) ?_
  refine ww_iconst (v := 4) C dX12_clearEvent_71 rfl ?_
  refine ww_iload C dX12_clearEvent_72 0 rfl ?_
  refine ww_imul (v := 12) C dX12_clearEvent_74 (by decide) ?_
  refine ww_iadd (v := (nI ((16 * jj) + 12))) C dX12_clearEvent_75 (nI_add (16 * jj) 12) ?_
  refine ww_iload_n C dX12_clearEvent_76 1 rfl rfl ?_
  refine ww_iadd (v := (nI (((16 * jj) + 12) + 2))) C dX12_clearEvent_77 (nI_add ((16 * jj) + 12) 2) ?_
  refine ww_iconst (v := 0) C dX12_clearEvent_78 rfl ?_
  obtain ⟨f_23, ef_23⟩ : ∃ z : Nat → Int32, upd f_22 (nI (((16 * jj) + 12) + 2)).toNatClampNeg 0 = z := ⟨_, rfl⟩
  refine ww_iast (ws' := [(hm, .inr (12, [.ref m_manys, .ref m_reals, .ref m_factsOf, .ref m_possible, .int 0, .int 0, .ref m_tape, .int 0, .int 0, .int 0, .int 0, .int 0, .int 0, .int 0, .int 0, .ref m_ends, .ref m_letters, .ref m_actOf, .ref m_whom, .ref m_actMany, .ref m_tokens, .ref m_afters, .ref m_afterOf, .int 0, .ref m_pile, .ref m_caseMany, .ref m_happen, .ref m_hasIf, .ref m_becomes, .ref m_goneOf, .ref m_heard, .ref m_pairs, .ref m_heaps, .int 0, .int 0, .ref m_led, .ref m_newAt, .ref m_knowing, .ref m_firsts, .int 0, .ref m_secrets, .ref m_tried, .ref m_lanes, .ref m_lengths, .ref m_cells])), (m_caseMany, .inl (E.2.1 1, 4, .inl f_1)), (m_happen, .inl (E.2.1 1, 4, .inl f_2)), (m_hasIf, .inl (E.2.1 3, 16, .inl f_17)), (m_becomes, .inl (E.2.1 1, 16, .inl f_18)), (m_goneOf, .inl (E.2.1 1, 16, .inl f_19)), (m_heard, .inl (E.2.1 1, 64, .inl f_23))]) C 6 rfl (vp_in_nI (by omega) (by omega)) ef_23 rfl dX12_clearEvent_79 ?_
  refine ww_iinc (j := 0) (v := 4) (lv' := [(4, .int 4), (3, .int 2), (0, .ref hm), (1, .int (nI jj)), (2, .int p1)]) C dX12_clearEvent_80 rfl rfl rfl rfl ?_
  refine ww_goto (tgt := 57) C dX12_clearEvent_83 (by decide) ?_
  refine ww_iload C dX12_clearEvent_57 0 rfl ?_
  refine ww_iconst (v := 4) C dX12_clearEvent_59 rfl ?_
  refine ww_icmp_ge_t (tgt := 86) C dX12_clearEvent_60 (by decide) (by decide) ?_
  refine ww_iinc (j := 1) (v := 3) (lv' := [(3, .int 3), (4, .int 4), (0, .ref hm), (1, .int (nI jj)), (2, .int p1)]) C dX12_clearEvent_86 rfl rfl rfl rfl ?_
  refine ww_goto (tgt := 16) C dX12_clearEvent_89 (by decide) ?_
  refine ww_iload_n C dX12_clearEvent_16 0 rfl rfl ?_
  refine ww_iconst (v := 4) C dX12_clearEvent_17 rfl ?_
  refine ww_icmp_ge_f (tgt := 92) C dX12_clearEvent_18 (by decide) (by decide) ?_
  refine ww_aload_n C dX12_clearEvent_21 2 rfl rfl ?_
  refine ww_get C fg_X12_58 0 rfl rfl dX12_clearEvent_22 ?_
  refine ww_iconst (v := 4) C dX12_clearEvent_25 rfl ?_
  refine ww_iload_n C dX12_clearEvent_26 3 rfl rfl ?_
  refine ww_imul (v := (nI (4 * jj))) C dX12_clearEvent_27 (pk_mul 4 jj) ?_
  refine ww_iload_n C dX12_clearEvent_28 0 rfl rfl ?_
  refine ww_iadd (v := (nI ((4 * jj) + 3))) C dX12_clearEvent_29 (nI_add (4 * jj) 3) ?_
  refine ww_iconst (v := 0) C dX12_clearEvent_30 rfl ?_
  obtain ⟨f_24, ef_24⟩ : ∃ z : Nat → Int32, upd f_17 (nI ((4 * jj) + 3)).toNatClampNeg (vp_nar .boolean 0) = z := ⟨_, rfl⟩
  refine ww_zast (ws' := [(hm, .inr (12, [.ref m_manys, .ref m_reals, .ref m_factsOf, .ref m_possible, .int 0, .int 0, .ref m_tape, .int 0, .int 0, .int 0, .int 0, .int 0, .int 0, .int 0, .int 0, .ref m_ends, .ref m_letters, .ref m_actOf, .ref m_whom, .ref m_actMany, .ref m_tokens, .ref m_afters, .ref m_afterOf, .int 0, .ref m_pile, .ref m_caseMany, .ref m_happen, .ref m_hasIf, .ref m_becomes, .ref m_goneOf, .ref m_heard, .ref m_pairs, .ref m_heaps, .int 0, .int 0, .ref m_led, .ref m_newAt, .ref m_knowing, .ref m_firsts, .int 0, .ref m_secrets, .ref m_tried, .ref m_lanes, .ref m_lengths, .ref m_cells])), (m_caseMany, .inl (E.2.1 1, 4, .inl f_1)), (m_happen, .inl (E.2.1 1, 4, .inl f_2)), (m_hasIf, .inl (E.2.1 3, 16, .inl f_24)), (m_becomes, .inl (E.2.1 1, 16, .inl f_18)), (m_goneOf, .inl (E.2.1 1, 16, .inl f_19)), (m_heard, .inl (E.2.1 1, 64, .inl f_23))]) C 3 rfl (vp_in_nI (by omega) (by omega)) ef_24 rfl dX12_clearEvent_31 ?_
  refine ww_aload_n C dX12_clearEvent_32 2 rfl rfl ?_
  refine ww_get C fg_X12_62 0 rfl rfl dX12_clearEvent_33 ?_
  refine ww_iconst (v := 4) C dX12_clearEvent_36 rfl ?_
  refine ww_iload_n C dX12_clearEvent_37 3 rfl rfl ?_
  refine ww_imul (v := (nI (4 * jj))) C dX12_clearEvent_38 (pk_mul 4 jj) ?_
  refine ww_iload_n C dX12_clearEvent_39 0 rfl rfl ?_
  refine ww_iadd (v := (nI ((4 * jj) + 3))) C dX12_clearEvent_40 (nI_add (4 * jj) 3) ?_
  refine ww_iconst (v := 0) C dX12_clearEvent_41 rfl ?_
  obtain ⟨f_25, ef_25⟩ : ∃ z : Nat → Int32, upd f_18 (nI ((4 * jj) + 3)).toNatClampNeg 0 = z := ⟨_, rfl⟩
  refine ww_iast (ws' := [(hm, .inr (12, [.ref m_manys, .ref m_reals, .ref m_factsOf, .ref m_possible, .int 0, .int 0, .ref m_tape, .int 0, .int 0, .int 0, .int 0, .int 0, .int 0, .int 0, .int 0, .ref m_ends, .ref m_letters, .ref m_actOf, .ref m_whom, .ref m_actMany, .ref m_tokens, .ref m_afters, .ref m_afterOf, .int 0, .ref m_pile, .ref m_caseMany, .ref m_happen, .ref m_hasIf, .ref m_becomes, .ref m_goneOf, .ref m_heard, .ref m_pairs, .ref m_heaps, .int 0, .int 0, .ref m_led, .ref m_newAt, .ref m_knowing, .ref m_firsts, .int 0, .ref m_secrets, .ref m_tried, .ref m_lanes, .ref m_lengths, .ref m_cells])), (m_caseMany, .inl (E.2.1 1, 4, .inl f_1)), (m_happen, .inl (E.2.1 1, 4, .inl f_2)), (m_hasIf, .inl (E.2.1 3, 16, .inl f_24)), (m_becomes, .inl (E.2.1 1, 16, .inl f_25)), (m_goneOf, .inl (E.2.1 1, 16, .inl f_19)), (m_heard, .inl (E.2.1 1, 64, .inl f_23))]) C 4 rfl (vp_in_nI (by omega) (by omega)) ef_25 rfl dX12_clearEvent_42 ?_
  refine ww_aload_n C dX12_clearEvent_43 2 rfl rfl ?_
  refine ww_get C fg_X12_65 0 rfl rfl dX12_clearEvent_44 ?_
  refine ww_iconst (v := 4) C dX12_clearEvent_47 rfl ?_
  refine ww_iload_n C dX12_clearEvent_48 3 rfl rfl ?_
  refine ww_imul (v := (nI (4 * jj))) C dX12_clearEvent_49 (pk_mul 4 jj) ?_
  refine ww_iload_n C dX12_clearEvent_50 0 rfl rfl ?_
  refine ww_iadd (v := (nI ((4 * jj) + 3))) C dX12_clearEvent_51 (nI_add (4 * jj) 3) ?_
  refine ww_iconst (v := 0) C dX12_clearEvent_52 rfl ?_
  obtain ⟨f_26, ef_26⟩ : ∃ z : Nat → Int32, upd f_19 (nI ((4 * jj) + 3)).toNatClampNeg 0 = z := ⟨_, rfl⟩
  refine ww_iast (ws' := [(hm, .inr (12, [.ref m_manys, .ref m_reals, .ref m_factsOf, .ref m_possible, .int 0, .int 0, .ref m_tape, .int 0, .int 0, .int 0, .int 0, .int 0, .int 0, .int 0, .int 0, .ref m_ends, .ref m_letters, .ref m_actOf, .ref m_whom, .ref m_actMany, .ref m_tokens, .ref m_afters, .ref m_afterOf, .int 0, .ref m_pile, .ref m_caseMany, .ref m_happen, .ref m_hasIf, .ref m_becomes, .ref m_goneOf, .ref m_heard, .ref m_pairs, .ref m_heaps, .int 0, .int 0, .ref m_led, .ref m_newAt, .ref m_knowing, .ref m_firsts, .int 0, .ref m_secrets, .ref m_tried, .ref m_lanes, .ref m_lengths, .ref m_cells])), (m_caseMany, .inl (E.2.1 1, 4, .inl f_1)), (m_happen, .inl (E.2.1 1, 4, .inl f_2)), (m_hasIf, .inl (E.2.1 3, 16, .inl f_24)), (m_becomes, .inl (E.2.1 1, 16, .inl f_25)), (m_goneOf, .inl (E.2.1 1, 16, .inl f_26)), (m_heard, .inl (E.2.1 1, 64, .inl f_23))]) C 5 rfl (vp_in_nI (by omega) (by omega)) ef_26 rfl dX12_clearEvent_53 ?_
  refine ww_iconst (v := 0) C dX12_clearEvent_54 rfl ?_
  refine ww_istore (lv' := [(4, .int 0), (3, .int 3), (0, .ref hm), (1, .int (nI jj)), (2, .int p1)]) C dX12_clearEvent_55 rfl rfl ?_
  refine ww_iload C dX12_clearEvent_57 0 rfl ?_
  refine ww_iconst (v := 4) C dX12_clearEvent_59 rfl ?_
  refine ww_icmp_ge_f (tgt := 86) C dX12_clearEvent_60 (by decide) (by decide) ?_
  refine ww_aload_n C dX12_clearEvent_63 2 rfl rfl ?_
  refine ww_get C fg_X12_68 0 rfl rfl dX12_clearEvent_64 ?_
  refine ww_bipush (v := 16) C dX12_clearEvent_67 rfl ?_
  refine ww_iload_n C dX12_clearEvent_69 3 rfl rfl ?_
  refine ww_imul (v := (nI (16 * jj))) C dX12_clearEvent_70 (pk_mul 16 jj) ?_
  refine ww_iconst (v := 4) C dX12_clearEvent_71 rfl ?_
  refine ww_iload C dX12_clearEvent_72 0 rfl ?_
  refine ww_imul (v := 0) C dX12_clearEvent_74 (by decide) ?_
  refine ww_iadd (v := (nI ((16 * jj) + 0))) C dX12_clearEvent_75 (nI_add (16 * jj) 0) ?_
  refine ww_iload_n C dX12_clearEvent_76 1 rfl rfl ?_
  refine ww_iadd (v := (nI (((16 * jj) + 0) + 3))) C dX12_clearEvent_77 (nI_add ((16 * jj) + 0) 3) ?_
  refine ww_iconst (v := 0) C dX12_clearEvent_78 rfl ?_
  obtain ⟨f_27, ef_27⟩ : ∃ z : Nat → Int32, upd f_23 (nI (((16 * jj) + 0) + 3)).toNatClampNeg 0 = z := ⟨_, rfl⟩
  refine ww_iast (ws' := [(hm, .inr (12, [.ref m_manys, .ref m_reals, .ref m_factsOf, .ref m_possible, .int 0, .int 0, .ref m_tape, .int 0, .int 0, .int 0, .int 0, .int 0, .int 0, .int 0, .int 0, .ref m_ends, .ref m_letters, .ref m_actOf, .ref m_whom, .ref m_actMany, .ref m_tokens, .ref m_afters, .ref m_afterOf, .int 0, .ref m_pile, .ref m_caseMany, .ref m_happen, .ref m_hasIf, .ref m_becomes, .ref m_goneOf, .ref m_heard, .ref m_pairs, .ref m_heaps, .int 0, .int 0, .ref m_led, .ref m_newAt, .ref m_knowing, .ref m_firsts, .int 0, .ref m_secrets, .ref m_tried, .ref m_lanes, .ref m_lengths, .ref m_cells])), (m_caseMany, .inl (E.2.1 1, 4, .inl f_1)), (m_happen, .inl (E.2.1 1, 4, .inl f_2)), (m_hasIf, .inl (E.2.1 3, 16, .inl f_24)), (m_becomes, .inl (E.2.1 1, 16, .inl f_25)), (m_goneOf, .inl (E.2.1 1, 16, .inl f_26)), (m_heard, .inl (E.2.1 1, 64, .inl f_27))]) C 6 rfl (vp_in_nI (by omega) (by omega)) ef_27 rfl dX12_clearEvent_79 ?_
  refine ww_iinc (j := 0) (v := 1) (lv' := [(4, .int 1), (3, .int 3), (0, .ref hm), (1, .int (nI jj)), (2, .int p1)]) C dX12_clearEvent_80 rfl rfl rfl rfl ?_
  refine ww_goto (tgt := 57) C dX12_clearEvent_83 (by decide) ?_
  refine ww_iload C dX12_clearEvent_57 0 rfl ?_
  refine ww_iconst (v := 4) C dX12_clearEvent_59 rfl ?_
  refine ww_icmp_ge_f (tgt := 86) C dX12_clearEvent_60 (by decide) (by decide) ?_
  refine ww_aload_n C dX12_clearEvent_63 2 rfl rfl ?_
  refine ww_get C fg_X12_68 0 rfl rfl dX12_clearEvent_64 ?_
  refine ww_bipush (v := 16) C dX12_clearEvent_67 rfl ?_
  refine ww_iload_n C dX12_clearEvent_69 3 rfl rfl ?_
  refine ww_imul (v := (nI (16 * jj))) C dX12_clearEvent_70 (pk_mul 16 jj) ?_
  refine ww_iconst (v := 4) C dX12_clearEvent_71 rfl ?_
  refine ww_iload C dX12_clearEvent_72 0 rfl ?_
  refine ww_imul (v := 4) C dX12_clearEvent_74 (by decide) ?_
  refine ww_iadd (v := (nI ((16 * jj) + 4))) C dX12_clearEvent_75 (nI_add (16 * jj) 4) ?_
  refine ww_iload_n C dX12_clearEvent_76 1 rfl rfl ?_
  refine ww_iadd (v := (nI (((16 * jj) + 4) + 3))) C dX12_clearEvent_77 (nI_add ((16 * jj) + 4) 3) ?_
  refine ww_iconst (v := 0) C dX12_clearEvent_78 rfl ?_
  obtain ⟨f_28, ef_28⟩ : ∃ z : Nat → Int32, upd f_27 (nI (((16 * jj) + 4) + 3)).toNatClampNeg 0 = z := ⟨_, rfl⟩
  refine ww_iast (ws' := [(hm, .inr (12, [.ref m_manys, .ref m_reals, .ref m_factsOf, .ref m_possible, .int 0, .int 0, .ref m_tape, .int 0, .int 0, .int 0, .int 0, .int 0, .int 0, .int 0, .int 0, .ref m_ends, .ref m_letters, .ref m_actOf, .ref m_whom, .ref m_actMany, .ref m_tokens, .ref m_afters, .ref m_afterOf, .int 0, .ref m_pile, .ref m_caseMany, .ref m_happen, .ref m_hasIf, .ref m_becomes, .ref m_goneOf, .ref m_heard, .ref m_pairs, .ref m_heaps, .int 0, .int 0, .ref m_led, .ref m_newAt, .ref m_knowing, .ref m_firsts, .int 0, .ref m_secrets, .ref m_tried, .ref m_lanes, .ref m_lengths, .ref m_cells])), (m_caseMany, .inl (E.2.1 1, 4, .inl f_1)), (m_happen, .inl (E.2.1 1, 4, .inl f_2)), (m_hasIf, .inl (E.2.1 3, 16, .inl f_24)), (m_becomes, .inl (E.2.1 1, 16, .inl f_25)), (m_goneOf, .inl (E.2.1 1, 16, .inl f_26)), (m_heard, .inl (E.2.1 1, 64, .inl f_28))]) C 6 rfl (vp_in_nI (by omega) (by omega)) ef_28 rfl dX12_clearEvent_79 ?_
  refine ww_iinc (j := 0) (v := 2) (lv' := [(4, .int 2), (3, .int 3), (0, .ref hm), (1, .int (nI jj)), (2, .int p1)]) C dX12_clearEvent_80 rfl rfl rfl rfl ?_
  refine ww_goto (tgt := 57) C dX12_clearEvent_83 (by decide) ?_
  refine ww_iload C dX12_clearEvent_57 0 rfl ?_
  refine ww_iconst (v := 4) C dX12_clearEvent_59 rfl ?_
  refine ww_icmp_ge_f (tgt := 86) C dX12_clearEvent_60 (by decide) (by decide) ?_
  refine ww_aload_n C dX12_clearEvent_63 2 rfl rfl ?_
  refine ww_get C fg_X12_68 0 rfl rfl dX12_clearEvent_64 ?_
  refine ww_bipush (v := 16) C dX12_clearEvent_67 rfl ?_
  refine ww_iload_n C dX12_clearEvent_69 3 rfl rfl ?_
  refine ww_imul (v := (nI (16 * jj))) C dX12_clearEvent_70 (pk_mul 16 jj) ?_
  refine ww_iconst (v := 4) C dX12_clearEvent_71 rfl ?_
  refine ww_iload C dX12_clearEvent_72 0 rfl ?_
  refine ww_imul (v := 8) C dX12_clearEvent_74 (by decide) ?_
  refine ww_iadd (v := (nI ((16 * jj) + 8))) C dX12_clearEvent_75 (nI_add (16 * jj) 8) ?_
  refine ww_iload_n C dX12_clearEvent_76 1 rfl rfl ?_
  refine ww_iadd (v := (nI (((16 * jj) + 8) + 3))) C dX12_clearEvent_77 (nI_add ((16 * jj) + 8) 3) ?_
  refine ww_iconst (v := 0) C dX12_clearEvent_78 rfl ?_
  obtain ⟨f_29, ef_29⟩ : ∃ z : Nat → Int32, upd f_28 (nI (((16 * jj) + 8) + 3)).toNatClampNeg 0 = z := ⟨_, rfl⟩
  refine ww_iast (ws' := [(hm, .inr (12, [.ref m_manys, .ref m_reals, .ref m_factsOf, .ref m_possible, .int 0, .int 0, .ref m_tape, .int 0, .int 0, .int 0, .int 0, .int 0, .int 0, .int 0, .int 0, .ref m_ends, .ref m_letters, .ref m_actOf, .ref m_whom, .ref m_actMany, .ref m_tokens, .ref m_afters, .ref m_afterOf, .int 0, .ref m_pile, .ref m_caseMany, .ref m_happen, .ref m_hasIf, .ref m_becomes, .ref m_goneOf, .ref m_heard, .ref m_pairs, .ref m_heaps, .int 0, .int 0, .ref m_led, .ref m_newAt, .ref m_knowing, .ref m_firsts, .int 0, .ref m_secrets, .ref m_tried, .ref m_lanes, .ref m_lengths, .ref m_cells])), (m_caseMany, .inl (E.2.1 1, 4, .inl f_1)), (m_happen, .inl (E.2.1 1, 4, .inl f_2)), (m_hasIf, .inl (E.2.1 3, 16, .inl f_24)), (m_becomes, .inl (E.2.1 1, 16, .inl f_25)), (m_goneOf, .inl (E.2.1 1, 16, .inl f_26)), (m_heard, .inl (E.2.1 1, 64, .inl f_29))]) C 6 rfl (vp_in_nI (by omega) (by omega)) ef_29 rfl dX12_clearEvent_79 ?_
  refine ww_iinc (j := 0) (v := 3) (lv' := [(4, .int 3), (3, .int 3), (0, .ref hm), (1, .int (nI jj)), (2, .int p1)]) C dX12_clearEvent_80 rfl rfl rfl rfl ?_
  refine ww_goto (tgt := 57) C dX12_clearEvent_83 (by decide) ?_
  refine ww_iload C dX12_clearEvent_57 0 rfl ?_
  refine ww_iconst (v := 4) C dX12_clearEvent_59 rfl ?_
  refine ww_icmp_ge_f (tgt := 86) C dX12_clearEvent_60 (by decide) (by decide) ?_
  refine ww_aload_n C dX12_clearEvent_63 2 rfl rfl ?_
  refine ww_get C fg_X12_68 0 rfl rfl dX12_clearEvent_64 ?_
  refine ww_bipush (v := 16) C dX12_clearEvent_67 rfl ?_
  refine ww_iload_n C dX12_clearEvent_69 3 rfl rfl ?_
  refine ww_imul (v := (nI (16 * jj))) C dX12_clearEvent_70 (pk_mul 16 jj) ?_
  refine ww_iconst (v := 4) C dX12_clearEvent_71 rfl ?_
  refine ww_iload C dX12_clearEvent_72 0 rfl ?_
  refine ww_imul (v := 12) C dX12_clearEvent_74 (by decide) ?_
  refine ww_iadd (v := (nI ((16 * jj) + 12))) C dX12_clearEvent_75 (nI_add (16 * jj) 12) ?_
  refine ww_iload_n C dX12_clearEvent_76 1 rfl rfl ?_
  refine ww_iadd (v := (nI (((16 * jj) + 12) + 3))) C dX12_clearEvent_77 (nI_add ((16 * jj) + 12) 3) ?_
  refine ww_iconst (v := 0) C dX12_clearEvent_78 rfl ?_
  obtain ⟨f_30, ef_30⟩ : ∃ z : Nat → Int32, upd f_29 (nI (((16 * jj) + 12) + 3)).toNatClampNeg 0 = z := ⟨_, rfl⟩
  refine ww_iast (ws' := [(hm, .inr (12, [.ref m_manys, .ref m_reals, .ref m_factsOf, .ref m_possible, .int 0, .int 0, .ref m_tape, .int 0, .int 0, .int 0, .int 0, .int 0, .int 0, .int 0, .int 0, .ref m_ends, .ref m_letters, .ref m_actOf, .ref m_whom, .ref m_actMany, .ref m_tokens, .ref m_afters, .ref m_afterOf, .int 0, .ref m_pile, .ref m_caseMany, .ref m_happen, .ref m_hasIf, .ref m_becomes, .ref m_goneOf, .ref m_heard, .ref m_pairs, .ref m_heaps, .int 0, .int 0, .ref m_led, .ref m_newAt, .ref m_knowing, .ref m_firsts, .int 0, .ref m_secrets, .ref m_tried, .ref m_lanes, .ref m_lengths, .ref m_cells])), (m_caseMany, .inl (E.2.1 1, 4, .inl f_1)), (m_happen, .inl (E.2.1 1, 4, .inl f_2)), (m_hasIf, .inl (E.2.1 3, 16, .inl f_24)), (m_becomes, .inl (E.2.1 1, 16, .inl f_25)), (m_goneOf, .inl (E.2.1 1, 16, .inl f_26)), (m_heard, .inl (E.2.1 1, 64, .inl f_30))]) C 6 rfl (vp_in_nI (by omega) (by omega)) ef_30 rfl dX12_clearEvent_79 ?_
  refine ww_iinc (j := 0) (v := 4) (lv' := [(4, .int 4), (3, .int 3), (0, .ref hm), (1, .int (nI jj)), (2, .int p1)]) C dX12_clearEvent_80 rfl rfl rfl rfl ?_
  refine ww_goto (tgt := 57) C dX12_clearEvent_83 (by decide) ?_
  refine ww_iload C dX12_clearEvent_57 0 rfl ?_
  refine ww_iconst (v := 4) C dX12_clearEvent_59 rfl ?_
  refine ww_icmp_ge_t (tgt := 86) C dX12_clearEvent_60 (by decide) (by decide) ?_
  refine ww_iinc (j := 1) (v := 4) (lv' := [(3, .int 4), (4, .int 4), (0, .ref hm), (1, .int (nI jj)), (2, .int p1)]) C dX12_clearEvent_86 rfl rfl rfl rfl ?_
  refine ww_goto (tgt := 16) C dX12_clearEvent_89 (by decide) ?_
  refine ww_iload_n C dX12_clearEvent_16 0 rfl rfl ?_
  refine ww_iconst (v := 4) C dX12_clearEvent_17 rfl ?_
  refine ww_icmp_ge_t (tgt := 92) C dX12_clearEvent_18 (by decide) (by decide) ?_
  exact ww_vret (u := []) C hT [] rfl rfl rfl rfl dX12_clearEvent_92 (rfl)
theorem dX12_event_0 : decode cX12_event 0 = .ok (.iload_n 1, 1) := by decide +kernel
theorem dX12_event_1 : decode cX12_event 1 = .ok (.i2l, 1) := by decide +kernel
theorem dX12_event_2 : decode cX12_event 2 = .ok (.lconst 0, 1) := by decide +kernel
theorem dX12_event_3 : decode cX12_event 3 = .ok (.ldc2_w 113, 3) := by decide +kernel
theorem dX12_event_6 : decode cX12_event 6 = .ok (.invokestatic 115, 3) := by decide +kernel
theorem dX12_event_9 : decode cX12_event 9 = .ok (.ifCond .eq 15, 3) := by decide +kernel
theorem dX12_event_12 : decode cX12_event 12 = .ok (.iload_n 2, 1) := by decide +kernel
theorem dX12_event_13 : decode cX12_event 13 = .ok (.i2l, 1) := by decide +kernel
theorem dX12_event_14 : decode cX12_event 14 = .ok (.lconst 1, 1) := by decide +kernel
theorem dX12_event_15 : decode cX12_event 15 = .ok (.ldc2_w 149, 3) := by decide +kernel
theorem wv_X12_149 : Cond.constantLong RX12 149 4 ∈ TB := tbm (tq6 (List.mem_of_getElem? (i := 31) (by decide +kernel))) (by decide +kernel)
theorem dX12_event_18 : decode cX12_event 18 = .ok (.invokestatic 115, 3) := by decide +kernel
theorem dX12_event_21 : decode cX12_event 21 = .ok (.ifCond .ne 5, 3) := by decide +kernel
theorem dX12_event_26 : decode cX12_event 26 = .ok (.aload_n 0, 1) := by decide +kernel
theorem dX12_event_27 : decode cX12_event 27 = .ok (.iload_n 1, 1) := by decide +kernel
theorem dX12_event_28 : decode cX12_event 28 = .ok (.iload_n 2, 1) := by decide +kernel
theorem dX12_event_29 : decode cX12_event 29 = .ok (.invokevirtual 240, 3) := by decide +kernel
theorem wl_X12_240 : Cond.methodLink RX12 240 yX12_clearEvent ∈ TB := tbm (tq6 (List.mem_of_getElem? (i := 117) (by decide +kernel))) (by decide +kernel)
theorem wc_X12_clearEvent : Cond.code yX12_clearEvent cX12_clearEvent 5 none ∈ TB := tbm (tq6 (List.mem_of_getElem? (i := 120) (rfl))) (by decide +kernel)
theorem wi_X12_clearEvent : Cond.instanceMethod yX12_clearEvent ∈ TB := tbm (tq6 (List.mem_of_getElem? (i := 119) (by decide +kernel))) (by decide +kernel)
theorem ws_X12_clearEvent : Cond.selects RX12 yX12_clearEvent yX12_clearEvent ∈ TB := tbm (tq0 (List.mem_of_getElem? (i := 54) (by decide +kernel))) (by decide +kernel)
theorem mi_X12_clearEvent : MI yX12_clearEvent cX12_clearEvent 5 none 2 := ⟨wc_X12_clearEvent, wn_X12, ⟨by decide +kernel, by decide +kernel, by decide +kernel⟩, wi_X12_clearEvent, ws_X12_clearEvent⟩
theorem dX12_event_32 : decode cX12_event 32 = .ok (.iconst 1, 1) := by decide +kernel
theorem dX12_event_33 : decode cX12_event 33 = .ok (.ireturn, 1) := by decide +kernel
theorem dX12_event_24 : decode cX12_event 24 = .ok (.iconst (-1), 1) := by decide +kernel
theorem dX12_event_25 : decode cX12_event 25 = .ok (.ireturn, 1) := by decide +kernel
set_option maxRecDepth 100000 in
set_option maxHeartbeats 4000000 in
theorem y_event (l : Launch) (E : EV) (hm : Nat) (p0 : Int32) (p1 : Int32) (m_manys : Nat) (m_reals : Nat) (m_factsOf : Nat) (m_possible : Nat) (m_tape : Nat) (m_ends : Nat) (m_letters : Nat) (m_actOf : Nat) (m_whom : Nat) (m_actMany : Nat) (m_tokens : Nat) (m_afters : Nat) (m_afterOf : Nat) (m_pile : Nat) (m_caseMany : Nat) (m_happen : Nat) (m_hasIf : Nat) (m_becomes : Nat) (m_goneOf : Nat) (m_heard : Nat) (m_pairs : Nat) (m_heaps : Nat) (m_led : Nat) (m_newAt : Nat) (m_knowing : Nat) (m_firsts : Nat) (m_secrets : Nat) (m_tried : Nat) (m_lanes : Nat) (m_lengths : Nat) (m_cells : Nat)  : CT l yX12_event (Cond.code yX12_event cX12_event 3 (some .int) :: TB) ({ frames := 1, cells := 0, slots := 0, locals := 25 }) E [.ref hm, .int p0, .int p1] [(hm, .inr (12, [.ref m_manys, .ref m_reals, .ref m_factsOf, .ref m_possible, .int 0, .int 0, .ref m_tape, .int 0, .int 0, .int 0, .int 0, .int 0, .int 0, .int 0, .int 0, .ref m_ends, .ref m_letters, .ref m_actOf, .ref m_whom, .ref m_actMany, .ref m_tokens, .ref m_afters, .ref m_afterOf, .int 0, .ref m_pile, .ref m_caseMany, .ref m_happen, .ref m_hasIf, .ref m_becomes, .ref m_goneOf, .ref m_heard, .ref m_pairs, .ref m_heaps, .int 0, .int 0, .ref m_led, .ref m_newAt, .ref m_knowing, .ref m_firsts, .int 0, .ref m_secrets, .ref m_tried, .ref m_lanes, .ref m_lengths, .ref m_cells])), (m_caseMany, .inl (E.2.1 1, 4, .inl (fun _ => 0))), (m_happen, .inl (E.2.1 1, 4, .inl (fun _ => 0))), (m_hasIf, .inl (E.2.1 3, 16, .inl (fun _ => 0))), (m_becomes, .inl (E.2.1 1, 16, .inl (fun _ => 0))), (m_goneOf, .inl (E.2.1 1, 16, .inl (fun _ => 0))), (m_heard, .inl (E.2.1 1, 64, .inl (fun _ => 0)))] (Qi E (fun (r : Int32) u => (r = (-1) ∧ u = [] ∧ (p0.toInt < 0 ∨ 3 < p0.toInt ∨ p1.toInt < 1 ∨ 4 < p1.toInt)) ∨ (r = 1 ∧ u = [] ∧ (0 ≤ p0.toInt) ∧ (p0.toInt ≤ 3) ∧ (1 ≤ p1.toInt) ∧ (p1.toInt ≤ 4)))) 0 0 := by
  refine ct_of rfl rfl ?_
  intro X C hT hin
  show WW X 3 E 0 [(0, .ref hm), (1, .int p0), (2, .int p1)] [] [(hm, .inr (12, [.ref m_manys, .ref m_reals, .ref m_factsOf, .ref m_possible, .int 0, .int 0, .ref m_tape, .int 0, .int 0, .int 0, .int 0, .int 0, .int 0, .int 0, .int 0, .ref m_ends, .ref m_letters, .ref m_actOf, .ref m_whom, .ref m_actMany, .ref m_tokens, .ref m_afters, .ref m_afterOf, .int 0, .ref m_pile, .ref m_caseMany, .ref m_happen, .ref m_hasIf, .ref m_becomes, .ref m_goneOf, .ref m_heard, .ref m_pairs, .ref m_heaps, .int 0, .int 0, .ref m_led, .ref m_newAt, .ref m_knowing, .ref m_firsts, .int 0, .ref m_secrets, .ref m_tried, .ref m_lanes, .ref m_lengths, .ref m_cells])), (m_caseMany, .inl (E.2.1 1, 4, .inl (fun _ => 0))), (m_happen, .inl (E.2.1 1, 4, .inl (fun _ => 0))), (m_hasIf, .inl (E.2.1 3, 16, .inl (fun _ => 0))), (m_becomes, .inl (E.2.1 1, 16, .inl (fun _ => 0))), (m_goneOf, .inl (E.2.1 1, 16, .inl (fun _ => 0))), (m_heard, .inl (E.2.1 1, 64, .inl (fun _ => 0)))] 0 0
  refine ww_iload_n C dX12_event_0 1 rfl rfl ?_
  refine ww_i2l (v := p0.toInt64) C dX12_event_1 rfl ?_
  refine ww_lconst (v := 0) C dX12_event_2 rfl ?_
  refine ww_ldc2 C wv_X12_113 dX12_event_3 ?_
  refine ww_ci (wr := [(hm, .inr (12, [.ref m_manys, .ref m_reals, .ref m_factsOf, .ref m_possible, .int 0, .int 0, .ref m_tape, .int 0, .int 0, .int 0, .int 0, .int 0, .int 0, .int 0, .int 0, .ref m_ends, .ref m_letters, .ref m_actOf, .ref m_whom, .ref m_actMany, .ref m_tokens, .ref m_afters, .ref m_afterOf, .int 0, .ref m_pile, .ref m_caseMany, .ref m_happen, .ref m_hasIf, .ref m_becomes, .ref m_goneOf, .ref m_heard, .ref m_pairs, .ref m_heaps, .int 0, .int 0, .ref m_led, .ref m_newAt, .ref m_knowing, .ref m_firsts, .int 0, .ref m_secrets, .ref m_tried, .ref m_lanes, .ref m_lengths, .ref m_cells])), (m_caseMany, .inl (E.2.1 1, 4, .inl (fun _ => 0))), (m_happen, .inl (E.2.1 1, 4, .inl (fun _ => 0))), (m_hasIf, .inl (E.2.1 3, 16, .inl (fun _ => 0))), (m_becomes, .inl (E.2.1 1, 16, .inl (fun _ => 0))), (m_goneOf, .inl (E.2.1 1, 16, .inl (fun _ => 0))), (m_heard, .inl (E.2.1 1, 64, .inl (fun _ => 0)))]) (k' := 0) (n' := 0) C (run_S (As := [.long p0.toInt64, .long 0, .long 3]) (rest := []) C (r_in X.2.1 E p0.toInt64 0 3 p0.toInt 0 3 (Int32.toInt_toInt64 _) rfl rfl) ms_X12_in wl_X12_115 rfl rfl rfl rfl dX12_event_6) [] [0, 1, 2, 3, 4, 5, 6] rfl rfl rfl rfl (fun r u hw => ?_)
  rcases hw with ⟨rfl, rfl, h_1, h_2⟩ | ⟨rfl, rfl, h_3⟩
  · refine ww_eq (ws' := [(hm, .inr (12, [.ref m_manys, .ref m_reals, .ref m_factsOf, .ref m_possible, .int 0, .int 0, .ref m_tape, .int 0, .int 0, .int 0, .int 0, .int 0, .int 0, .int 0, .int 0, .ref m_ends, .ref m_letters, .ref m_actOf, .ref m_whom, .ref m_actMany, .ref m_tokens, .ref m_afters, .ref m_afterOf, .int 0, .ref m_pile, .ref m_caseMany, .ref m_happen, .ref m_hasIf, .ref m_becomes, .ref m_goneOf, .ref m_heard, .ref m_pairs, .ref m_heaps, .int 0, .int 0, .ref m_led, .ref m_newAt, .ref m_knowing, .ref m_firsts, .int 0, .ref m_secrets, .ref m_tried, .ref m_lanes, .ref m_lengths, .ref m_cells])), (m_caseMany, .inl (E.2.1 1, 4, .inl (fun _ => 0))), (m_happen, .inl (E.2.1 1, 4, .inl (fun _ => 0))), (m_hasIf, .inl (E.2.1 3, 16, .inl (fun _ => 0))), (m_becomes, .inl (E.2.1 1, 16, .inl (fun _ => 0))), (m_goneOf, .inl (E.2.1 1, 16, .inl (fun _ => 0))), (m_heard, .inl (E.2.1 1, 64, .inl (fun _ => 0)))]) ?_ rfl rfl rfl
    refine ww_if_eq_f (tgt := 24) C dX12_event_9 (by decide) (by decide) ?_
    refine ww_iload_n C dX12_event_12 2 rfl rfl ?_
    refine ww_i2l (v := p1.toInt64) C dX12_event_13 rfl ?_
    refine ww_lconst (v := 1) C dX12_event_14 rfl ?_
    refine ww_ldc2 C wv_X12_149 dX12_event_15 ?_
    refine ww_ci (wr := [(hm, .inr (12, [.ref m_manys, .ref m_reals, .ref m_factsOf, .ref m_possible, .int 0, .int 0, .ref m_tape, .int 0, .int 0, .int 0, .int 0, .int 0, .int 0, .int 0, .int 0, .ref m_ends, .ref m_letters, .ref m_actOf, .ref m_whom, .ref m_actMany, .ref m_tokens, .ref m_afters, .ref m_afterOf, .int 0, .ref m_pile, .ref m_caseMany, .ref m_happen, .ref m_hasIf, .ref m_becomes, .ref m_goneOf, .ref m_heard, .ref m_pairs, .ref m_heaps, .int 0, .int 0, .ref m_led, .ref m_newAt, .ref m_knowing, .ref m_firsts, .int 0, .ref m_secrets, .ref m_tried, .ref m_lanes, .ref m_lengths, .ref m_cells])), (m_caseMany, .inl (E.2.1 1, 4, .inl (fun _ => 0))), (m_happen, .inl (E.2.1 1, 4, .inl (fun _ => 0))), (m_hasIf, .inl (E.2.1 3, 16, .inl (fun _ => 0))), (m_becomes, .inl (E.2.1 1, 16, .inl (fun _ => 0))), (m_goneOf, .inl (E.2.1 1, 16, .inl (fun _ => 0))), (m_heard, .inl (E.2.1 1, 64, .inl (fun _ => 0)))]) (k' := 0) (n' := 0) C (run_S (As := [.long p1.toInt64, .long 1, .long 4]) (rest := []) C (r_in X.2.1 E p1.toInt64 1 4 p1.toInt 1 4 (Int32.toInt_toInt64 _) rfl rfl) ms_X12_in wl_X12_115 rfl rfl rfl rfl dX12_event_18) [] [0, 1, 2, 3, 4, 5, 6] rfl rfl rfl rfl (fun r u hw => ?_)
    rcases hw with ⟨rfl, rfl, h_4, h_5⟩ | ⟨rfl, rfl, h_6⟩
    · refine ww_eq (ws' := [(hm, .inr (12, [.ref m_manys, .ref m_reals, .ref m_factsOf, .ref m_possible, .int 0, .int 0, .ref m_tape, .int 0, .int 0, .int 0, .int 0, .int 0, .int 0, .int 0, .int 0, .ref m_ends, .ref m_letters, .ref m_actOf, .ref m_whom, .ref m_actMany, .ref m_tokens, .ref m_afters, .ref m_afterOf, .int 0, .ref m_pile, .ref m_caseMany, .ref m_happen, .ref m_hasIf, .ref m_becomes, .ref m_goneOf, .ref m_heard, .ref m_pairs, .ref m_heaps, .int 0, .int 0, .ref m_led, .ref m_newAt, .ref m_knowing, .ref m_firsts, .int 0, .ref m_secrets, .ref m_tried, .ref m_lanes, .ref m_lengths, .ref m_cells])), (m_caseMany, .inl (E.2.1 1, 4, .inl (fun _ => 0))), (m_happen, .inl (E.2.1 1, 4, .inl (fun _ => 0))), (m_hasIf, .inl (E.2.1 3, 16, .inl (fun _ => 0))), (m_becomes, .inl (E.2.1 1, 16, .inl (fun _ => 0))), (m_goneOf, .inl (E.2.1 1, 16, .inl (fun _ => 0))), (m_heard, .inl (E.2.1 1, 64, .inl (fun _ => 0)))]) ?_ rfl rfl rfl
      refine ww_if_ne_t (tgt := 26) C dX12_event_21 (by decide) (by decide) ?_
      obtain ⟨j_7, hj_7, rfl⟩ := i_nat (x := p0) (N := 3) (by omega) (by omega)
      refine ww_aload_n C dX12_event_26 0 rfl rfl ?_
      refine ww_iload_n C dX12_event_27 1 rfl rfl ?_
      refine ww_iload_n C dX12_event_28 2 rfl rfl ?_
      refine ww_cv (wr := []) (k' := 0) (n' := 0) C (run_V (As := [.int (nI j_7), .int p1]) (rest := []) C (r_clearEvent X.2.1 E hm m_manys m_reals m_factsOf m_possible m_tape m_ends m_letters m_actOf m_whom m_actMany m_tokens m_afters m_afterOf m_pile m_caseMany m_happen m_hasIf m_becomes m_goneOf m_heard m_pairs m_heaps m_led m_newAt m_knowing m_firsts m_secrets m_tried m_lanes m_lengths m_cells j_7 p1 (by omega)) mi_X12_clearEvent wl_X12_240 rfl 0 12 rfl rfl rfl rfl rfl dX12_event_29) [0, 1, 2, 3, 4, 5, 6] [] rfl rfl rfl rfl (fun u hw => ?_)
      obtain ⟨rfl⟩ := hw
      refine ww_eq (ws' := []) ?_ rfl rfl rfl
      refine ww_iconst (v := 1) C dX12_event_32 rfl ?_
      exact ww_iret (u := []) C hT [] rfl rfl rfl rfl dX12_event_33 (Or.inr ⟨rfl, rfl, (by first | assumption | omega | decide), (by first | assumption | omega | decide), (by first | assumption | omega | decide), (by first | assumption | omega | decide)⟩)
    · refine ww_eq (ws' := [(hm, .inr (12, [.ref m_manys, .ref m_reals, .ref m_factsOf, .ref m_possible, .int 0, .int 0, .ref m_tape, .int 0, .int 0, .int 0, .int 0, .int 0, .int 0, .int 0, .int 0, .ref m_ends, .ref m_letters, .ref m_actOf, .ref m_whom, .ref m_actMany, .ref m_tokens, .ref m_afters, .ref m_afterOf, .int 0, .ref m_pile, .ref m_caseMany, .ref m_happen, .ref m_hasIf, .ref m_becomes, .ref m_goneOf, .ref m_heard, .ref m_pairs, .ref m_heaps, .int 0, .int 0, .ref m_led, .ref m_newAt, .ref m_knowing, .ref m_firsts, .int 0, .ref m_secrets, .ref m_tried, .ref m_lanes, .ref m_lengths, .ref m_cells])), (m_caseMany, .inl (E.2.1 1, 4, .inl (fun _ => 0))), (m_happen, .inl (E.2.1 1, 4, .inl (fun _ => 0))), (m_hasIf, .inl (E.2.1 3, 16, .inl (fun _ => 0))), (m_becomes, .inl (E.2.1 1, 16, .inl (fun _ => 0))), (m_goneOf, .inl (E.2.1 1, 16, .inl (fun _ => 0))), (m_heard, .inl (E.2.1 1, 64, .inl (fun _ => 0)))]) ?_ rfl rfl rfl
      refine ww_if_ne_f (tgt := 26) C dX12_event_21 (by decide) (rfl) ?_
      refine ww_iconst (v := (-1)) C dX12_event_24 rfl ?_
      exact ww_iret (u := []) C hT [] rfl rfl rfl rfl dX12_event_25 (Or.inl ⟨rfl, rfl, (by first | assumption | omega | decide)⟩)
  · refine ww_eq (ws' := [(hm, .inr (12, [.ref m_manys, .ref m_reals, .ref m_factsOf, .ref m_possible, .int 0, .int 0, .ref m_tape, .int 0, .int 0, .int 0, .int 0, .int 0, .int 0, .int 0, .int 0, .ref m_ends, .ref m_letters, .ref m_actOf, .ref m_whom, .ref m_actMany, .ref m_tokens, .ref m_afters, .ref m_afterOf, .int 0, .ref m_pile, .ref m_caseMany, .ref m_happen, .ref m_hasIf, .ref m_becomes, .ref m_goneOf, .ref m_heard, .ref m_pairs, .ref m_heaps, .int 0, .int 0, .ref m_led, .ref m_newAt, .ref m_knowing, .ref m_firsts, .int 0, .ref m_secrets, .ref m_tried, .ref m_lanes, .ref m_lengths, .ref m_cells])), (m_caseMany, .inl (E.2.1 1, 4, .inl (fun _ => 0))), (m_happen, .inl (E.2.1 1, 4, .inl (fun _ => 0))), (m_hasIf, .inl (E.2.1 3, 16, .inl (fun _ => 0))), (m_becomes, .inl (E.2.1 1, 16, .inl (fun _ => 0))), (m_goneOf, .inl (E.2.1 1, 16, .inl (fun _ => 0))), (m_heard, .inl (E.2.1 1, 64, .inl (fun _ => 0)))]) ?_ rfl rfl rfl
    refine ww_if_eq_t (tgt := 24) C dX12_event_9 (by decide) (rfl) ?_
    refine ww_iconst (v := (-1)) C dX12_event_24 rfl ?_
    exact ww_iret (u := []) C hT [] rfl rfl rfl rfl dX12_event_25 (Or.inl ⟨rfl, rfl, (by first | assumption | omega | decide)⟩)
theorem dX12_when_0 : decode cX12_when 0 = .ok (.aload_n 0, 1) := by decide +kernel
theorem dX12_when_1 : decode cX12_when 1 = .ok (.iload_n 1, 1) := by decide +kernel
theorem dX12_when_2 : decode cX12_when 2 = .ok (.iload_n 2, 1) := by decide +kernel
theorem dX12_when_3 : decode cX12_when 3 = .ok (.invokevirtual 243, 3) := by decide +kernel
theorem wl_X12_243 : Cond.methodLink RX12 243 yX12_isCase ∈ TB := tbm (tq6 (List.mem_of_getElem? (i := 125) (by decide +kernel))) (by decide +kernel)
theorem wc_X12_isCase : Cond.code yX12_isCase cX12_isCase 3 (some .boolean) ∈ TB := tbm (tq6 (List.mem_of_getElem? (i := 128) (rfl))) (by decide +kernel)
theorem wi_X12_isCase : Cond.instanceMethod yX12_isCase ∈ TB := tbm (tq6 (List.mem_of_getElem? (i := 127) (by decide +kernel))) (by decide +kernel)
theorem ws_X12_isCase : Cond.selects RX12 yX12_isCase yX12_isCase ∈ TB := tbm (tq0 (List.mem_of_getElem? (i := 55) (by decide +kernel))) (by decide +kernel)
theorem mi_X12_isCase : MI yX12_isCase cX12_isCase 3 (some .boolean) 2 := ⟨wc_X12_isCase, wn_X12, ⟨by decide +kernel, by decide +kernel, by decide +kernel⟩, wi_X12_isCase, ws_X12_isCase⟩
theorem dX12_when_6 : decode cX12_when 6 = .ok (.ifCond .eq 43, 3) := by decide +kernel
theorem dX12_when_49 : decode cX12_when 49 = .ok (.iconst (-1), 1) := by decide +kernel
theorem dX12_when_50 : decode cX12_when 50 = .ok (.ireturn, 1) := by decide +kernel
set_option maxRecDepth 100000 in
set_option maxHeartbeats 4000000 in
theorem y_when (l : Launch) (E : EV) (hm : Nat) (p0 : Int32) (p1 : Int32) (p2 : Int32) (p3 : Int32) (p4 : Int32) (m_manys : Nat) (m_reals : Nat) (m_factsOf : Nat) (m_possible : Nat) (m_tape : Nat) (m_ends : Nat) (m_letters : Nat) (m_actOf : Nat) (m_whom : Nat) (m_actMany : Nat) (m_tokens : Nat) (m_afters : Nat) (m_afterOf : Nat) (m_pile : Nat) (m_caseMany : Nat) (m_happen : Nat) (m_hasIf : Nat) (m_becomes : Nat) (m_goneOf : Nat) (m_heard : Nat) (m_pairs : Nat) (m_heaps : Nat) (m_led : Nat) (m_newAt : Nat) (m_knowing : Nat) (m_firsts : Nat) (m_secrets : Nat) (m_tried : Nat) (m_lanes : Nat) (m_lengths : Nat) (m_cells : Nat)  : CT l yX12_when (Cond.code yX12_when cX12_when 6 (some .int) :: TB) ({ frames := 3, cells := 0, slots := 0, locals := 68 }) E [.ref hm, .int p0, .int p1, .int p2, .int p3, .int p4] [(hm, .inr (12, [.ref m_manys, .ref m_reals, .ref m_factsOf, .ref m_possible, .int 0, .int 0, .ref m_tape, .int 0, .int 0, .int 0, .int 0, .int 0, .int 0, .int 0, .int 0, .ref m_ends, .ref m_letters, .ref m_actOf, .ref m_whom, .ref m_actMany, .ref m_tokens, .ref m_afters, .ref m_afterOf, .int 0, .ref m_pile, .ref m_caseMany, .ref m_happen, .ref m_hasIf, .ref m_becomes, .ref m_goneOf, .ref m_heard, .ref m_pairs, .ref m_heaps, .int 0, .int 0, .ref m_led, .ref m_newAt, .ref m_knowing, .ref m_firsts, .int 0, .ref m_secrets, .ref m_tried, .ref m_lanes, .ref m_lengths, .ref m_cells])), (m_caseMany, .inl (E.2.1 1, 4, .inl (fun _ => 0)))] (Qi E (fun (r : Int32) u => (r = (-1) ∧ u = []))) 0 0 := by
  refine ct_of rfl rfl ?_
  intro X C hT hin
  show WW X 6 E 0 [(0, .ref hm), (1, .int p0), (2, .int p1), (3, .int p2), (4, .int p3), (5, .int p4)] [] [(hm, .inr (12, [.ref m_manys, .ref m_reals, .ref m_factsOf, .ref m_possible, .int 0, .int 0, .ref m_tape, .int 0, .int 0, .int 0, .int 0, .int 0, .int 0, .int 0, .int 0, .ref m_ends, .ref m_letters, .ref m_actOf, .ref m_whom, .ref m_actMany, .ref m_tokens, .ref m_afters, .ref m_afterOf, .int 0, .ref m_pile, .ref m_caseMany, .ref m_happen, .ref m_hasIf, .ref m_becomes, .ref m_goneOf, .ref m_heard, .ref m_pairs, .ref m_heaps, .int 0, .int 0, .ref m_led, .ref m_newAt, .ref m_knowing, .ref m_firsts, .int 0, .ref m_secrets, .ref m_tried, .ref m_lanes, .ref m_lengths, .ref m_cells])), (m_caseMany, .inl (E.2.1 1, 4, .inl (fun _ => 0)))] 0 0
  refine ww_aload_n C dX12_when_0 0 rfl rfl ?_
  refine ww_iload_n C dX12_when_1 1 rfl rfl ?_
  refine ww_iload_n C dX12_when_2 2 rfl rfl ?_
  refine ww_ci (wr := []) (k' := 0) (n' := 0) C (run_V (As := [.int p0, .int p1]) (rest := []) C (r_isCase X.2.1 E hm p0 p1 m_manys m_reals m_factsOf m_possible m_tape m_ends m_letters m_actOf m_whom m_actMany m_tokens m_afters m_afterOf m_pile m_caseMany m_happen m_hasIf m_becomes m_goneOf m_heard m_pairs m_heaps m_led m_newAt m_knowing m_firsts m_secrets m_tried m_lanes m_lengths m_cells) mi_X12_isCase wl_X12_243 rfl 0 12 rfl rfl rfl rfl rfl dX12_when_3) [0, 1] [] rfl rfl rfl rfl (fun r u hw => ?_)
  obtain ⟨rfl, rfl⟩ := hw
  refine ww_eq (ws' := [(hm, .inr (12, [.ref m_manys, .ref m_reals, .ref m_factsOf, .ref m_possible, .int 0, .int 0, .ref m_tape, .int 0, .int 0, .int 0, .int 0, .int 0, .int 0, .int 0, .int 0, .ref m_ends, .ref m_letters, .ref m_actOf, .ref m_whom, .ref m_actMany, .ref m_tokens, .ref m_afters, .ref m_afterOf, .int 0, .ref m_pile, .ref m_caseMany, .ref m_happen, .ref m_hasIf, .ref m_becomes, .ref m_goneOf, .ref m_heard, .ref m_pairs, .ref m_heaps, .int 0, .int 0, .ref m_led, .ref m_newAt, .ref m_knowing, .ref m_firsts, .int 0, .ref m_secrets, .ref m_tried, .ref m_lanes, .ref m_lengths, .ref m_cells])), (m_caseMany, .inl (E.2.1 1, 4, .inl (fun _ => 0)))]) ?_ rfl rfl rfl
  refine ww_if_eq_t (tgt := 49) C dX12_when_6 (by decide) (rfl) ?_
  refine ww_iconst (v := (-1)) C dX12_when_49 rfl ?_
  exact ww_iret (u := []) C hT [] rfl rfl rfl rfl dX12_when_50 (⟨rfl, rfl⟩)
theorem dX12_hears_0 : decode cX12_hears 0 = .ok (.aload_n 0, 1) := by decide +kernel
theorem dX12_hears_1 : decode cX12_hears 1 = .ok (.iload_n 1, 1) := by decide +kernel
theorem dX12_hears_2 : decode cX12_hears 2 = .ok (.iload_n 3, 1) := by decide +kernel
theorem dX12_hears_3 : decode cX12_hears 3 = .ok (.invokevirtual 243, 3) := by decide +kernel
theorem dX12_hears_6 : decode cX12_hears 6 = .ok (.ifCond .eq 20, 3) := by decide +kernel
theorem dX12_hears_26 : decode cX12_hears 26 = .ok (.iconst (-1), 1) := by decide +kernel
theorem dX12_hears_27 : decode cX12_hears 27 = .ok (.ireturn, 1) := by decide +kernel
set_option maxRecDepth 100000 in
set_option maxHeartbeats 4000000 in
theorem y_hears (l : Launch) (E : EV) (hm : Nat) (p0 : Int32) (p1 : Int32) (p2 : Int32) (p3 : Int32) (p4 : Int32) (m_manys : Nat) (m_reals : Nat) (m_factsOf : Nat) (m_possible : Nat) (m_tape : Nat) (m_ends : Nat) (m_letters : Nat) (m_actOf : Nat) (m_whom : Nat) (m_actMany : Nat) (m_tokens : Nat) (m_afters : Nat) (m_afterOf : Nat) (m_pile : Nat) (m_caseMany : Nat) (m_happen : Nat) (m_hasIf : Nat) (m_becomes : Nat) (m_goneOf : Nat) (m_heard : Nat) (m_pairs : Nat) (m_heaps : Nat) (m_led : Nat) (m_newAt : Nat) (m_knowing : Nat) (m_firsts : Nat) (m_secrets : Nat) (m_tried : Nat) (m_lanes : Nat) (m_lengths : Nat) (m_cells : Nat)  : CT l yX12_hears (Cond.code yX12_hears cX12_hears 8 (some .int) :: TB) ({ frames := 3, cells := 0, slots := 0, locals := 68 }) E [.ref hm, .int p0, .int p1, .int p2, .int p3, .int p4] [(hm, .inr (12, [.ref m_manys, .ref m_reals, .ref m_factsOf, .ref m_possible, .int 0, .int 0, .ref m_tape, .int 0, .int 0, .int 0, .int 0, .int 0, .int 0, .int 0, .int 0, .ref m_ends, .ref m_letters, .ref m_actOf, .ref m_whom, .ref m_actMany, .ref m_tokens, .ref m_afters, .ref m_afterOf, .int 0, .ref m_pile, .ref m_caseMany, .ref m_happen, .ref m_hasIf, .ref m_becomes, .ref m_goneOf, .ref m_heard, .ref m_pairs, .ref m_heaps, .int 0, .int 0, .ref m_led, .ref m_newAt, .ref m_knowing, .ref m_firsts, .int 0, .ref m_secrets, .ref m_tried, .ref m_lanes, .ref m_lengths, .ref m_cells])), (m_caseMany, .inl (E.2.1 1, 4, .inl (fun _ => 0)))] (Qi E (fun (r : Int32) u => (r = (-1) ∧ u = []))) 0 0 := by
  refine ct_of rfl rfl ?_
  intro X C hT hin
  show WW X 8 E 0 [(0, .ref hm), (1, .int p0), (2, .int p1), (3, .int p2), (4, .int p3), (5, .int p4)] [] [(hm, .inr (12, [.ref m_manys, .ref m_reals, .ref m_factsOf, .ref m_possible, .int 0, .int 0, .ref m_tape, .int 0, .int 0, .int 0, .int 0, .int 0, .int 0, .int 0, .int 0, .ref m_ends, .ref m_letters, .ref m_actOf, .ref m_whom, .ref m_actMany, .ref m_tokens, .ref m_afters, .ref m_afterOf, .int 0, .ref m_pile, .ref m_caseMany, .ref m_happen, .ref m_hasIf, .ref m_becomes, .ref m_goneOf, .ref m_heard, .ref m_pairs, .ref m_heaps, .int 0, .int 0, .ref m_led, .ref m_newAt, .ref m_knowing, .ref m_firsts, .int 0, .ref m_secrets, .ref m_tried, .ref m_lanes, .ref m_lengths, .ref m_cells])), (m_caseMany, .inl (E.2.1 1, 4, .inl (fun _ => 0)))] 0 0
  refine ww_aload_n C dX12_hears_0 0 rfl rfl ?_
  refine ww_iload_n C dX12_hears_1 1 rfl rfl ?_
  refine ww_iload_n C dX12_hears_2 3 rfl rfl ?_
  refine ww_ci (wr := []) (k' := 0) (n' := 0) C (run_V (As := [.int p0, .int p2]) (rest := []) C (r_isCase X.2.1 E hm p0 p2 m_manys m_reals m_factsOf m_possible m_tape m_ends m_letters m_actOf m_whom m_actMany m_tokens m_afters m_afterOf m_pile m_caseMany m_happen m_hasIf m_becomes m_goneOf m_heard m_pairs m_heaps m_led m_newAt m_knowing m_firsts m_secrets m_tried m_lanes m_lengths m_cells) mi_X12_isCase wl_X12_243 rfl 0 12 rfl rfl rfl rfl rfl dX12_hears_3) [0, 1] [] rfl rfl rfl rfl (fun r u hw => ?_)
  obtain ⟨rfl, rfl⟩ := hw
  refine ww_eq (ws' := [(hm, .inr (12, [.ref m_manys, .ref m_reals, .ref m_factsOf, .ref m_possible, .int 0, .int 0, .ref m_tape, .int 0, .int 0, .int 0, .int 0, .int 0, .int 0, .int 0, .int 0, .ref m_ends, .ref m_letters, .ref m_actOf, .ref m_whom, .ref m_actMany, .ref m_tokens, .ref m_afters, .ref m_afterOf, .int 0, .ref m_pile, .ref m_caseMany, .ref m_happen, .ref m_hasIf, .ref m_becomes, .ref m_goneOf, .ref m_heard, .ref m_pairs, .ref m_heaps, .int 0, .int 0, .ref m_led, .ref m_newAt, .ref m_knowing, .ref m_firsts, .int 0, .ref m_secrets, .ref m_tried, .ref m_lanes, .ref m_lengths, .ref m_cells])), (m_caseMany, .inl (E.2.1 1, 4, .inl (fun _ => 0)))]) ?_ rfl rfl rfl
  refine ww_if_eq_t (tgt := 26) C dX12_hears_6 (by decide) (rfl) ?_
  refine ww_iconst (v := (-1)) C dX12_hears_26 rfl ?_
  exact ww_iret (u := []) C hT [] rfl rfl rfl rfl dX12_hears_27 (⟨rfl, rfl⟩)
theorem dX12_happens_0 : decode cX12_happens 0 = .ok (.aload_n 0, 1) := by decide +kernel
theorem dX12_happens_1 : decode cX12_happens 1 = .ok (.iload_n 1, 1) := by decide +kernel
theorem dX12_happens_2 : decode cX12_happens 2 = .ok (.iload_n 2, 1) := by decide +kernel
theorem dX12_happens_3 : decode cX12_happens 3 = .ok (.invokevirtual 243, 3) := by decide +kernel
theorem dX12_happens_6 : decode cX12_happens 6 = .ok (.ifCond .ne 5, 3) := by decide +kernel
theorem dX12_happens_9 : decode cX12_happens 9 = .ok (.iconst (-1), 1) := by decide +kernel
theorem dX12_happens_10 : decode cX12_happens 10 = .ok (.ireturn, 1) := by decide +kernel
set_option maxRecDepth 100000 in
set_option maxHeartbeats 4000000 in
theorem y_happens (l : Launch) (E : EV) (hm : Nat) (p0 : Int32) (p1 : Int32) (m_manys : Nat) (m_reals : Nat) (m_factsOf : Nat) (m_possible : Nat) (m_tape : Nat) (m_ends : Nat) (m_letters : Nat) (m_actOf : Nat) (m_whom : Nat) (m_actMany : Nat) (m_tokens : Nat) (m_afters : Nat) (m_afterOf : Nat) (m_pile : Nat) (m_caseMany : Nat) (m_happen : Nat) (m_hasIf : Nat) (m_becomes : Nat) (m_goneOf : Nat) (m_heard : Nat) (m_pairs : Nat) (m_heaps : Nat) (m_led : Nat) (m_newAt : Nat) (m_knowing : Nat) (m_firsts : Nat) (m_secrets : Nat) (m_tried : Nat) (m_lanes : Nat) (m_lengths : Nat) (m_cells : Nat)  : CT l yX12_happens (Cond.code yX12_happens cX12_happens 4 (some .int) :: TB) ({ frames := 3, cells := 0, slots := 0, locals := 68 }) E [.ref hm, .int p0, .int p1] [(hm, .inr (12, [.ref m_manys, .ref m_reals, .ref m_factsOf, .ref m_possible, .int 0, .int 0, .ref m_tape, .int 0, .int 0, .int 0, .int 0, .int 0, .int 0, .int 0, .int 0, .ref m_ends, .ref m_letters, .ref m_actOf, .ref m_whom, .ref m_actMany, .ref m_tokens, .ref m_afters, .ref m_afterOf, .int 0, .ref m_pile, .ref m_caseMany, .ref m_happen, .ref m_hasIf, .ref m_becomes, .ref m_goneOf, .ref m_heard, .ref m_pairs, .ref m_heaps, .int 0, .int 0, .ref m_led, .ref m_newAt, .ref m_knowing, .ref m_firsts, .int 0, .ref m_secrets, .ref m_tried, .ref m_lanes, .ref m_lengths, .ref m_cells])), (m_caseMany, .inl (E.2.1 1, 4, .inl (fun _ => 0)))] (Qi E (fun (r : Int32) u => (r = (-1) ∧ u = []))) 0 0 := by
  refine ct_of rfl rfl ?_
  intro X C hT hin
  show WW X 4 E 0 [(0, .ref hm), (1, .int p0), (2, .int p1)] [] [(hm, .inr (12, [.ref m_manys, .ref m_reals, .ref m_factsOf, .ref m_possible, .int 0, .int 0, .ref m_tape, .int 0, .int 0, .int 0, .int 0, .int 0, .int 0, .int 0, .int 0, .ref m_ends, .ref m_letters, .ref m_actOf, .ref m_whom, .ref m_actMany, .ref m_tokens, .ref m_afters, .ref m_afterOf, .int 0, .ref m_pile, .ref m_caseMany, .ref m_happen, .ref m_hasIf, .ref m_becomes, .ref m_goneOf, .ref m_heard, .ref m_pairs, .ref m_heaps, .int 0, .int 0, .ref m_led, .ref m_newAt, .ref m_knowing, .ref m_firsts, .int 0, .ref m_secrets, .ref m_tried, .ref m_lanes, .ref m_lengths, .ref m_cells])), (m_caseMany, .inl (E.2.1 1, 4, .inl (fun _ => 0)))] 0 0
  refine ww_aload_n C dX12_happens_0 0 rfl rfl ?_
  refine ww_iload_n C dX12_happens_1 1 rfl rfl ?_
  refine ww_iload_n C dX12_happens_2 2 rfl rfl ?_
  refine ww_ci (wr := []) (k' := 0) (n' := 0) C (run_V (As := [.int p0, .int p1]) (rest := []) C (r_isCase X.2.1 E hm p0 p1 m_manys m_reals m_factsOf m_possible m_tape m_ends m_letters m_actOf m_whom m_actMany m_tokens m_afters m_afterOf m_pile m_caseMany m_happen m_hasIf m_becomes m_goneOf m_heard m_pairs m_heaps m_led m_newAt m_knowing m_firsts m_secrets m_tried m_lanes m_lengths m_cells) mi_X12_isCase wl_X12_243 rfl 0 12 rfl rfl rfl rfl rfl dX12_happens_3) [0, 1] [] rfl rfl rfl rfl (fun r u hw => ?_)
  obtain ⟨rfl, rfl⟩ := hw
  refine ww_eq (ws' := [(hm, .inr (12, [.ref m_manys, .ref m_reals, .ref m_factsOf, .ref m_possible, .int 0, .int 0, .ref m_tape, .int 0, .int 0, .int 0, .int 0, .int 0, .int 0, .int 0, .int 0, .ref m_ends, .ref m_letters, .ref m_actOf, .ref m_whom, .ref m_actMany, .ref m_tokens, .ref m_afters, .ref m_afterOf, .int 0, .ref m_pile, .ref m_caseMany, .ref m_happen, .ref m_hasIf, .ref m_becomes, .ref m_goneOf, .ref m_heard, .ref m_pairs, .ref m_heaps, .int 0, .int 0, .ref m_led, .ref m_newAt, .ref m_knowing, .ref m_firsts, .int 0, .ref m_secrets, .ref m_tried, .ref m_lanes, .ref m_lengths, .ref m_cells])), (m_caseMany, .inl (E.2.1 1, 4, .inl (fun _ => 0)))]) ?_ rfl rfl rfl
  refine ww_if_ne_f (tgt := 11) C dX12_happens_6 (by decide) (rfl) ?_
  refine ww_iconst (v := (-1)) C dX12_happens_9 rfl ?_
  exact ww_iret (u := []) C hT [] rfl rfl rfl rfl dX12_happens_10 (⟨rfl, rfl⟩)
theorem dX12_word_0 : decode cX12_word 0 = .ok (.iload_n 1, 1) := by decide +kernel
theorem dX12_word_1 : decode cX12_word 1 = .ok (.i2l, 1) := by decide +kernel
theorem dX12_word_2 : decode cX12_word 2 = .ok (.lconst 0, 1) := by decide +kernel
theorem dX12_word_3 : decode cX12_word 3 = .ok (.ldc2_w 113, 3) := by decide +kernel
theorem dX12_word_6 : decode cX12_word 6 = .ok (.invokestatic 115, 3) := by decide +kernel
theorem dX12_word_9 : decode cX12_word 9 = .ok (.ifCond .eq 36, 3) := by decide +kernel
theorem dX12_word_12 : decode cX12_word 12 = .ok (.iload_n 2, 1) := by decide +kernel
theorem dX12_word_13 : decode cX12_word 13 = .ok (.i2l, 1) := by decide +kernel
theorem dX12_word_14 : decode cX12_word 14 = .ok (.lconst 0, 1) := by decide +kernel
theorem dX12_word_15 : decode cX12_word 15 = .ok (.ldc2_w 254, 3) := by decide +kernel
theorem wv_X12_254 : Cond.constantLong RX12 254 2 ∈ TB := tbm (tq6 (List.mem_of_getElem? (i := 153) (by decide +kernel))) (by decide +kernel)
theorem dX12_word_18 : decode cX12_word 18 = .ok (.invokestatic 115, 3) := by decide +kernel
theorem dX12_word_21 : decode cX12_word 21 = .ok (.ifCond .eq 24, 3) := by decide +kernel
theorem dX12_word_24 : decode cX12_word 24 = .ok (.aload_n 0, 1) := by decide +kernel
theorem dX12_word_25 : decode cX12_word 25 = .ok (.iload_n 3, 1) := by decide +kernel
theorem dX12_word_26 : decode cX12_word 26 = .ok (.invokevirtual 247, 3) := by decide +kernel
theorem wl_X12_247 : Cond.methodLink RX12 247 yX12_isPlain ∈ TB := tbm (tq6 (List.mem_of_getElem? (i := 133) (by decide +kernel))) (by decide +kernel)
theorem wc_X12_isPlain : Cond.code yX12_isPlain cX12_isPlain 2 (some .boolean) ∈ TB := tbm (tq6 (List.mem_of_getElem? (i := 136) (rfl))) (by decide +kernel)
theorem wi_X12_isPlain : Cond.instanceMethod yX12_isPlain ∈ TB := tbm (tq6 (List.mem_of_getElem? (i := 135) (by decide +kernel))) (by decide +kernel)
theorem ws_X12_isPlain : Cond.selects RX12 yX12_isPlain yX12_isPlain ∈ TB := tbm (tq0 (List.mem_of_getElem? (i := 57) (by decide +kernel))) (by decide +kernel)
theorem mi_X12_isPlain : MI yX12_isPlain cX12_isPlain 2 (some .boolean) 1 := ⟨wc_X12_isPlain, wn_X12, ⟨by decide +kernel, by decide +kernel, by decide +kernel⟩, wi_X12_isPlain, ws_X12_isPlain⟩
theorem dX12_word_29 : decode cX12_word 29 = .ok (.ifCond .eq 16, 3) := by decide +kernel
theorem dX12_word_45 : decode cX12_word 45 = .ok (.iconst (-1), 1) := by decide +kernel
theorem dX12_word_46 : decode cX12_word 46 = .ok (.ireturn, 1) := by decide +kernel
set_option maxRecDepth 100000 in
set_option maxHeartbeats 4000000 in
theorem y_word (l : Launch) (E : EV) (hm : Nat) (p0 : Int32) (p1 : Int32) (p2 : Int32) (p3 : Int32) (m_manys : Nat) (m_reals : Nat) (m_factsOf : Nat) (m_possible : Nat) (m_tape : Nat) (m_ends : Nat) (m_letters : Nat) (m_actOf : Nat) (m_whom : Nat) (m_actMany : Nat) (m_tokens : Nat) (m_afters : Nat) (m_afterOf : Nat) (m_pile : Nat) (m_caseMany : Nat) (m_happen : Nat) (m_hasIf : Nat) (m_becomes : Nat) (m_goneOf : Nat) (m_heard : Nat) (m_pairs : Nat) (m_heaps : Nat) (m_led : Nat) (m_newAt : Nat) (m_knowing : Nat) (m_firsts : Nat) (m_secrets : Nat) (m_tried : Nat) (m_lanes : Nat) (m_lengths : Nat) (m_cells : Nat)  : CT l yX12_word (Cond.code yX12_word cX12_word 7 (some .int) :: TB) ({ frames := 3, cells := 0, slots := 0, locals := 67 }) E [.ref hm, .int p0, .int p1, .int p2, .int p3] [(hm, .inr (12, [.ref m_manys, .ref m_reals, .ref m_factsOf, .ref m_possible, .int 0, .int 0, .ref m_tape, .int 0, .int 0, .int 0, .int 0, .int 0, .int 0, .int 0, .int 0, .ref m_ends, .ref m_letters, .ref m_actOf, .ref m_whom, .ref m_actMany, .ref m_tokens, .ref m_afters, .ref m_afterOf, .int 0, .ref m_pile, .ref m_caseMany, .ref m_happen, .ref m_hasIf, .ref m_becomes, .ref m_goneOf, .ref m_heard, .ref m_pairs, .ref m_heaps, .int 0, .int 0, .ref m_led, .ref m_newAt, .ref m_knowing, .ref m_firsts, .int 0, .ref m_secrets, .ref m_tried, .ref m_lanes, .ref m_lengths, .ref m_cells])), (m_tokens, .inl (E.2.1 1, 9, .inl (fun _ => 0)))] (Qi E (fun (r : Int32) u => (r = (-1) ∧ u = []))) 0 0 := by
  refine ct_of rfl rfl ?_
  intro X C hT hin
  show WW X 7 E 0 [(0, .ref hm), (1, .int p0), (2, .int p1), (3, .int p2), (4, .int p3)] [] [(hm, .inr (12, [.ref m_manys, .ref m_reals, .ref m_factsOf, .ref m_possible, .int 0, .int 0, .ref m_tape, .int 0, .int 0, .int 0, .int 0, .int 0, .int 0, .int 0, .int 0, .ref m_ends, .ref m_letters, .ref m_actOf, .ref m_whom, .ref m_actMany, .ref m_tokens, .ref m_afters, .ref m_afterOf, .int 0, .ref m_pile, .ref m_caseMany, .ref m_happen, .ref m_hasIf, .ref m_becomes, .ref m_goneOf, .ref m_heard, .ref m_pairs, .ref m_heaps, .int 0, .int 0, .ref m_led, .ref m_newAt, .ref m_knowing, .ref m_firsts, .int 0, .ref m_secrets, .ref m_tried, .ref m_lanes, .ref m_lengths, .ref m_cells])), (m_tokens, .inl (E.2.1 1, 9, .inl (fun _ => 0)))] 0 0
  refine ww_iload_n C dX12_word_0 1 rfl rfl ?_
  refine ww_i2l (v := p0.toInt64) C dX12_word_1 rfl ?_
  refine ww_lconst (v := 0) C dX12_word_2 rfl ?_
  refine ww_ldc2 C wv_X12_113 dX12_word_3 ?_
  refine ww_ci (wr := [(hm, .inr (12, [.ref m_manys, .ref m_reals, .ref m_factsOf, .ref m_possible, .int 0, .int 0, .ref m_tape, .int 0, .int 0, .int 0, .int 0, .int 0, .int 0, .int 0, .int 0, .ref m_ends, .ref m_letters, .ref m_actOf, .ref m_whom, .ref m_actMany, .ref m_tokens, .ref m_afters, .ref m_afterOf, .int 0, .ref m_pile, .ref m_caseMany, .ref m_happen, .ref m_hasIf, .ref m_becomes, .ref m_goneOf, .ref m_heard, .ref m_pairs, .ref m_heaps, .int 0, .int 0, .ref m_led, .ref m_newAt, .ref m_knowing, .ref m_firsts, .int 0, .ref m_secrets, .ref m_tried, .ref m_lanes, .ref m_lengths, .ref m_cells])), (m_tokens, .inl (E.2.1 1, 9, .inl (fun _ => 0)))]) (k' := 0) (n' := 0) C (run_S (As := [.long p0.toInt64, .long 0, .long 3]) (rest := []) C (r_in X.2.1 E p0.toInt64 0 3 p0.toInt 0 3 (Int32.toInt_toInt64 _) rfl rfl) ms_X12_in wl_X12_115 rfl rfl rfl rfl dX12_word_6) [] [0, 1] rfl rfl rfl rfl (fun r u hw => ?_)
  rcases hw with ⟨rfl, rfl, h_1, h_2⟩ | ⟨rfl, rfl, h_3⟩
  · refine ww_eq (ws' := [(hm, .inr (12, [.ref m_manys, .ref m_reals, .ref m_factsOf, .ref m_possible, .int 0, .int 0, .ref m_tape, .int 0, .int 0, .int 0, .int 0, .int 0, .int 0, .int 0, .int 0, .ref m_ends, .ref m_letters, .ref m_actOf, .ref m_whom, .ref m_actMany, .ref m_tokens, .ref m_afters, .ref m_afterOf, .int 0, .ref m_pile, .ref m_caseMany, .ref m_happen, .ref m_hasIf, .ref m_becomes, .ref m_goneOf, .ref m_heard, .ref m_pairs, .ref m_heaps, .int 0, .int 0, .ref m_led, .ref m_newAt, .ref m_knowing, .ref m_firsts, .int 0, .ref m_secrets, .ref m_tried, .ref m_lanes, .ref m_lengths, .ref m_cells])), (m_tokens, .inl (E.2.1 1, 9, .inl (fun _ => 0)))]) ?_ rfl rfl rfl
    refine ww_if_eq_f (tgt := 45) C dX12_word_9 (by decide) (by decide) ?_
    refine ww_iload_n C dX12_word_12 2 rfl rfl ?_
    refine ww_i2l (v := p1.toInt64) C dX12_word_13 rfl ?_
    refine ww_lconst (v := 0) C dX12_word_14 rfl ?_
    refine ww_ldc2 C wv_X12_254 dX12_word_15 ?_
    refine ww_ci (wr := [(hm, .inr (12, [.ref m_manys, .ref m_reals, .ref m_factsOf, .ref m_possible, .int 0, .int 0, .ref m_tape, .int 0, .int 0, .int 0, .int 0, .int 0, .int 0, .int 0, .int 0, .ref m_ends, .ref m_letters, .ref m_actOf, .ref m_whom, .ref m_actMany, .ref m_tokens, .ref m_afters, .ref m_afterOf, .int 0, .ref m_pile, .ref m_caseMany, .ref m_happen, .ref m_hasIf, .ref m_becomes, .ref m_goneOf, .ref m_heard, .ref m_pairs, .ref m_heaps, .int 0, .int 0, .ref m_led, .ref m_newAt, .ref m_knowing, .ref m_firsts, .int 0, .ref m_secrets, .ref m_tried, .ref m_lanes, .ref m_lengths, .ref m_cells])), (m_tokens, .inl (E.2.1 1, 9, .inl (fun _ => 0)))]) (k' := 0) (n' := 0) C (run_S (As := [.long p1.toInt64, .long 0, .long 2]) (rest := []) C (r_in X.2.1 E p1.toInt64 0 2 p1.toInt 0 2 (Int32.toInt_toInt64 _) rfl rfl) ms_X12_in wl_X12_115 rfl rfl rfl rfl dX12_word_18) [] [0, 1] rfl rfl rfl rfl (fun r u hw => ?_)
    rcases hw with ⟨rfl, rfl, h_4, h_5⟩ | ⟨rfl, rfl, h_6⟩
    · refine ww_eq (ws' := [(hm, .inr (12, [.ref m_manys, .ref m_reals, .ref m_factsOf, .ref m_possible, .int 0, .int 0, .ref m_tape, .int 0, .int 0, .int 0, .int 0, .int 0, .int 0, .int 0, .int 0, .ref m_ends, .ref m_letters, .ref m_actOf, .ref m_whom, .ref m_actMany, .ref m_tokens, .ref m_afters, .ref m_afterOf, .int 0, .ref m_pile, .ref m_caseMany, .ref m_happen, .ref m_hasIf, .ref m_becomes, .ref m_goneOf, .ref m_heard, .ref m_pairs, .ref m_heaps, .int 0, .int 0, .ref m_led, .ref m_newAt, .ref m_knowing, .ref m_firsts, .int 0, .ref m_secrets, .ref m_tried, .ref m_lanes, .ref m_lengths, .ref m_cells])), (m_tokens, .inl (E.2.1 1, 9, .inl (fun _ => 0)))]) ?_ rfl rfl rfl
      refine ww_if_eq_f (tgt := 45) C dX12_word_21 (by decide) (by decide) ?_
      refine ww_aload_n C dX12_word_24 0 rfl rfl ?_
      refine ww_iload_n C dX12_word_25 3 rfl rfl ?_
      refine ww_ci (wr := []) (k' := 0) (n' := 0) C (run_V (As := [.int p2]) (rest := []) C (r_isPlain X.2.1 E hm p2 m_manys m_reals m_factsOf m_possible m_tape m_ends m_letters m_actOf m_whom m_actMany m_tokens m_afters m_afterOf m_pile m_caseMany m_happen m_hasIf m_becomes m_goneOf m_heard m_pairs m_heaps m_led m_newAt m_knowing m_firsts m_secrets m_tried m_lanes m_lengths m_cells) mi_X12_isPlain wl_X12_247 rfl 0 12 rfl rfl rfl rfl rfl dX12_word_26) [0, 1] [] rfl rfl rfl rfl (fun r u hw => ?_)
      obtain ⟨rfl, rfl⟩ := hw
      refine ww_eq (ws' := [(hm, .inr (12, [.ref m_manys, .ref m_reals, .ref m_factsOf, .ref m_possible, .int 0, .int 0, .ref m_tape, .int 0, .int 0, .int 0, .int 0, .int 0, .int 0, .int 0, .int 0, .ref m_ends, .ref m_letters, .ref m_actOf, .ref m_whom, .ref m_actMany, .ref m_tokens, .ref m_afters, .ref m_afterOf, .int 0, .ref m_pile, .ref m_caseMany, .ref m_happen, .ref m_hasIf, .ref m_becomes, .ref m_goneOf, .ref m_heard, .ref m_pairs, .ref m_heaps, .int 0, .int 0, .ref m_led, .ref m_newAt, .ref m_knowing, .ref m_firsts, .int 0, .ref m_secrets, .ref m_tried, .ref m_lanes, .ref m_lengths, .ref m_cells])), (m_tokens, .inl (E.2.1 1, 9, .inl (fun _ => 0)))]) ?_ rfl rfl rfl
      refine ww_if_eq_t (tgt := 45) C dX12_word_29 (by decide) (rfl) ?_
      refine ww_iconst (v := (-1)) C dX12_word_45 rfl ?_
      exact ww_iret (u := []) C hT [] rfl rfl rfl rfl dX12_word_46 (⟨rfl, rfl⟩)
    · refine ww_eq (ws' := [(hm, .inr (12, [.ref m_manys, .ref m_reals, .ref m_factsOf, .ref m_possible, .int 0, .int 0, .ref m_tape, .int 0, .int 0, .int 0, .int 0, .int 0, .int 0, .int 0, .int 0, .ref m_ends, .ref m_letters, .ref m_actOf, .ref m_whom, .ref m_actMany, .ref m_tokens, .ref m_afters, .ref m_afterOf, .int 0, .ref m_pile, .ref m_caseMany, .ref m_happen, .ref m_hasIf, .ref m_becomes, .ref m_goneOf, .ref m_heard, .ref m_pairs, .ref m_heaps, .int 0, .int 0, .ref m_led, .ref m_newAt, .ref m_knowing, .ref m_firsts, .int 0, .ref m_secrets, .ref m_tried, .ref m_lanes, .ref m_lengths, .ref m_cells])), (m_tokens, .inl (E.2.1 1, 9, .inl (fun _ => 0)))]) ?_ rfl rfl rfl
      refine ww_if_eq_t (tgt := 45) C dX12_word_21 (by decide) (rfl) ?_
      refine ww_iconst (v := (-1)) C dX12_word_45 rfl ?_
      exact ww_iret (u := []) C hT [] rfl rfl rfl rfl dX12_word_46 (⟨rfl, rfl⟩)
  · refine ww_eq (ws' := [(hm, .inr (12, [.ref m_manys, .ref m_reals, .ref m_factsOf, .ref m_possible, .int 0, .int 0, .ref m_tape, .int 0, .int 0, .int 0, .int 0, .int 0, .int 0, .int 0, .int 0, .ref m_ends, .ref m_letters, .ref m_actOf, .ref m_whom, .ref m_actMany, .ref m_tokens, .ref m_afters, .ref m_afterOf, .int 0, .ref m_pile, .ref m_caseMany, .ref m_happen, .ref m_hasIf, .ref m_becomes, .ref m_goneOf, .ref m_heard, .ref m_pairs, .ref m_heaps, .int 0, .int 0, .ref m_led, .ref m_newAt, .ref m_knowing, .ref m_firsts, .int 0, .ref m_secrets, .ref m_tried, .ref m_lanes, .ref m_lengths, .ref m_cells])), (m_tokens, .inl (E.2.1 1, 9, .inl (fun _ => 0)))]) ?_ rfl rfl rfl
    refine ww_if_eq_t (tgt := 45) C dX12_word_9 (by decide) (rfl) ?_
    refine ww_iconst (v := (-1)) C dX12_word_45 rfl ?_
    exact ww_iret (u := []) C hT [] rfl rfl rfl rfl dX12_word_46 (⟨rfl, rfl⟩)
theorem dX12_lay_0 : decode cX12_lay 0 = .ok (.aload_n 0, 1) := by decide +kernel
theorem dX12_lay_1 : decode cX12_lay 1 = .ok (.iload_n 1, 1) := by decide +kernel
theorem dX12_lay_2 : decode cX12_lay 2 = .ok (.invokevirtual 237, 3) := by decide +kernel
theorem dX12_lay_5 : decode cX12_lay 5 = .ok (.ifCond .ne 5, 3) := by decide +kernel
theorem dX12_lay_8 : decode cX12_lay 8 = .ok (.iconst (-1), 1) := by decide +kernel
theorem dX12_lay_9 : decode cX12_lay 9 = .ok (.ireturn, 1) := by decide +kernel
set_option maxRecDepth 100000 in
set_option maxHeartbeats 4000000 in
theorem y_lay (l : Launch) (E : EV) (hm : Nat) (p0 : Int32) (m_manys : Nat) (m_reals : Nat) (m_factsOf : Nat) (m_possible : Nat) (m_tape : Nat) (m_ends : Nat) (m_letters : Nat) (m_actOf : Nat) (m_whom : Nat) (m_actMany : Nat) (m_tokens : Nat) (m_afters : Nat) (m_afterOf : Nat) (m_pile : Nat) (m_caseMany : Nat) (m_happen : Nat) (m_hasIf : Nat) (m_becomes : Nat) (m_goneOf : Nat) (m_heard : Nat) (m_pairs : Nat) (m_heaps : Nat) (m_led : Nat) (m_newAt : Nat) (m_knowing : Nat) (m_firsts : Nat) (m_secrets : Nat) (m_tried : Nat) (m_lanes : Nat) (m_lengths : Nat) (m_cells : Nat)  : CT l yX12_lay (Cond.code yX12_lay cX12_lay 2 (some .int) :: TB) ({ frames := 2, cells := 0, slots := 0, locals := 46 }) E [.ref hm, .int p0] [(hm, .inr (12, [.ref m_manys, .ref m_reals, .ref m_factsOf, .ref m_possible, .int 0, .int 0, .ref m_tape, .int 0, .int 0, .int 0, .int 0, .int 0, .int 0, .int 0, .int 0, .ref m_ends, .ref m_letters, .ref m_actOf, .ref m_whom, .ref m_actMany, .ref m_tokens, .ref m_afters, .ref m_afterOf, .int 0, .ref m_pile, .ref m_caseMany, .ref m_happen, .ref m_hasIf, .ref m_becomes, .ref m_goneOf, .ref m_heard, .ref m_pairs, .ref m_heaps, .int 0, .int 0, .ref m_led, .ref m_newAt, .ref m_knowing, .ref m_firsts, .int 0, .ref m_secrets, .ref m_tried, .ref m_lanes, .ref m_lengths, .ref m_cells])), (m_caseMany, .inl (E.2.1 1, 4, .inl (fun _ => 0)))] (Qi E (fun (r : Int32) u => (r = (-1) ∧ u = []))) 0 0 := by
  refine ct_of rfl rfl ?_
  intro X C hT hin
  show WW X 2 E 0 [(0, .ref hm), (1, .int p0)] [] [(hm, .inr (12, [.ref m_manys, .ref m_reals, .ref m_factsOf, .ref m_possible, .int 0, .int 0, .ref m_tape, .int 0, .int 0, .int 0, .int 0, .int 0, .int 0, .int 0, .int 0, .ref m_ends, .ref m_letters, .ref m_actOf, .ref m_whom, .ref m_actMany, .ref m_tokens, .ref m_afters, .ref m_afterOf, .int 0, .ref m_pile, .ref m_caseMany, .ref m_happen, .ref m_hasIf, .ref m_becomes, .ref m_goneOf, .ref m_heard, .ref m_pairs, .ref m_heaps, .int 0, .int 0, .ref m_led, .ref m_newAt, .ref m_knowing, .ref m_firsts, .int 0, .ref m_secrets, .ref m_tried, .ref m_lanes, .ref m_lengths, .ref m_cells])), (m_caseMany, .inl (E.2.1 1, 4, .inl (fun _ => 0)))] 0 0
  refine ww_aload_n C dX12_lay_0 0 rfl rfl ?_
  refine ww_iload_n C dX12_lay_1 1 rfl rfl ?_
  refine ww_ci (wr := []) (k' := 0) (n' := 0) C (run_V (As := [.int p0]) (rest := []) C (r_isEvent X.2.1 E hm p0 m_manys m_reals m_factsOf m_possible m_tape m_ends m_letters m_actOf m_whom m_actMany m_tokens m_afters m_afterOf m_pile m_caseMany m_happen m_hasIf m_becomes m_goneOf m_heard m_pairs m_heaps m_led m_newAt m_knowing m_firsts m_secrets m_tried m_lanes m_lengths m_cells) mi_X12_isEvent wl_X12_237 rfl 0 12 rfl rfl rfl rfl rfl dX12_lay_2) [0, 1] [] rfl rfl rfl rfl (fun r u hw => ?_)
  obtain ⟨rfl, rfl⟩ := hw
  refine ww_eq (ws' := [(hm, .inr (12, [.ref m_manys, .ref m_reals, .ref m_factsOf, .ref m_possible, .int 0, .int 0, .ref m_tape, .int 0, .int 0, .int 0, .int 0, .int 0, .int 0, .int 0, .int 0, .ref m_ends, .ref m_letters, .ref m_actOf, .ref m_whom, .ref m_actMany, .ref m_tokens, .ref m_afters, .ref m_afterOf, .int 0, .ref m_pile, .ref m_caseMany, .ref m_happen, .ref m_hasIf, .ref m_becomes, .ref m_goneOf, .ref m_heard, .ref m_pairs, .ref m_heaps, .int 0, .int 0, .ref m_led, .ref m_newAt, .ref m_knowing, .ref m_firsts, .int 0, .ref m_secrets, .ref m_tried, .ref m_lanes, .ref m_lengths, .ref m_cells])), (m_caseMany, .inl (E.2.1 1, 4, .inl (fun _ => 0)))]) ?_ rfl rfl rfl
  refine ww_if_ne_f (tgt := 10) C dX12_lay_5 (by decide) (rfl) ?_
  refine ww_iconst (v := (-1)) C dX12_lay_8 rfl ?_
  exact ww_iret (u := []) C hT [] rfl rfl rfl rfl dX12_lay_9 (⟨rfl, rfl⟩)
