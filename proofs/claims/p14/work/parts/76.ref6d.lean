theorem dX12_isEvent_0 : decode cX12_isEvent 0 = .ok (.iload_n 1, 1) := dl_27 (by decide +kernel)
theorem dX12_isEvent_1 : decode cX12_isEvent 1 = .ok (.i2l, 1) := dl_133 (by decide +kernel)
theorem dX12_isEvent_2 : decode cX12_isEvent 2 = .ok (.lconst 0, 1) := dl_9 (by decide +kernel)
theorem dX12_isEvent_3 : decode cX12_isEvent 3 = .ok (.ldc2_w 113, 3) := dl_20 (by decide +kernel)
theorem dX12_isEvent_6 : decode cX12_isEvent 6 = .ok (.invokestatic 115, 3) := dl_184 (by decide +kernel)
theorem dX12_isEvent_9 : decode cX12_isEvent 9 = .ok (.ifCond .eq 16, 3) := dl_153 (by decide +kernel)
theorem dX12_isEvent_12 : decode cX12_isEvent 12 = .ok (.aload_n 0, 1) := dl_42 (by decide +kernel)
theorem dX12_isEvent_13 : decode cX12_isEvent 13 = .ok (.getfield 52, 3) := dl_180 (by decide +kernel)
theorem wf_X12_52 : Cond.fieldLink RX12 52 RX12 "caseMany" "[I" ∈ TB := tbm (tq5 (List.mem_of_getElem? (i := 103) (by decide +kernel))) (by decide +kernel)
theorem fg_X12_52 : FG RX12 52 12 25 := ⟨RX12, TX12, 45, uw_X12, wf_X12_52, rfl, by decide, rfl⟩
theorem dX12_isEvent_16 : decode cX12_isEvent 16 = .ok (.iload_n 1, 1) := dl_27 (by decide +kernel)
theorem dX12_isEvent_17 : decode cX12_isEvent 17 = .ok (.iaload, 1) := dl_46 (by decide +kernel)
theorem dX12_isEvent_18 : decode cX12_isEvent 18 = .ok (.ifCond .le 7, 3) := dl_158 (by decide +kernel)
theorem dX12_isEvent_25 : decode cX12_isEvent 25 = .ok (.iconst 0, 1) := dl_3 (by decide +kernel)
theorem dX12_isEvent_26 : decode cX12_isEvent 26 = .ok (.ireturn, 1) := dl_172 (by decide +kernel)
theorem dX12_isEvent_21 : decode cX12_isEvent 21 = .ok (.iconst 1, 1) := dl_4 (by decide +kernel)
theorem dX12_isEvent_22 : decode cX12_isEvent 22 = .ok (.goto 4, 3) := dl_167 (by decide +kernel)
set_option maxRecDepth 100000 in
set_option maxHeartbeats 4000000 in
theorem r_isEvent (l : Launch) (E : EV) (ro : va_W) (hm : Nat) (k : Int32) (m_manys : Nat) (m_reals : Nat) (m_factsOf : Nat) (m_possible : Nat) (q_undos : Nat) (q_models : Nat) (m_tape : Nat) (q_taped : Nat) (q_fault : Int32) (q_wrong : Int32) (q_wrongAt : Int32) (q_spot : Int32) (q_place : Int32) (q_token : Int32) (q_value : Int32) (m_ends : Nat) (m_letters : Nat) (m_actOf : Nat) (m_whom : Nat) (m_actMany : Nat) (m_tokens : Nat) (m_afters : Nat) (m_afterOf : Nat) (q_counted : Int32) (m_pile : Nat) (m_caseMany : Nat) (m_happen : Nat) (m_hasIf : Nat) (m_becomes : Nat) (m_goneOf : Nat) (m_heard : Nat) (m_pairs : Nat) (m_heaps : Nat) (q_rounds : Int32) (q_heapMany : Int32) (m_led : Nat) (m_newAt : Nat) (m_knowing : Nat) (m_firsts : Nat) (q_people : Nat) (m_secrets : Nat) (m_tried : Nat) (m_lanes : Nat) (m_lengths : Nat) (m_cells : Nat) (f_caseMany : Nat → Int32) (hb_caseMany : NB 4 4 f_caseMany) : CT l yX12_isEvent (Cond.code yX12_isEvent cX12_isEvent 2 (some .boolean) :: TB) ({ frames := 1, cells := 0, slots := 0, locals := 25 }) E ro [.ref hm, .int k] [(hm, .inr (12, [.ref m_manys, .ref m_reals, .ref m_factsOf, .ref m_possible, .int (nI q_undos), .int (nI q_models), .ref m_tape, .int (nI q_taped), .int q_fault, .int q_wrong, .int q_wrongAt, .int q_spot, .int q_place, .int q_token, .int q_value, .ref m_ends, .ref m_letters, .ref m_actOf, .ref m_whom, .ref m_actMany, .ref m_tokens, .ref m_afters, .ref m_afterOf, .int q_counted, .ref m_pile, .ref m_caseMany, .ref m_happen, .ref m_hasIf, .ref m_becomes, .ref m_goneOf, .ref m_heard, .ref m_pairs, .ref m_heaps, .int q_rounds, .int q_heapMany, .ref m_led, .ref m_newAt, .ref m_knowing, .ref m_firsts, .int (nI q_people), .ref m_secrets, .ref m_tried, .ref m_lanes, .ref m_lengths, .ref m_cells])), (m_caseMany, .inl (E.2.1 1, 4, .inl f_caseMany))] (Qi E (fun (rz : Int32) uz => (rz = 1 ∧ uz = [(hm, .inr (12, [.ref m_manys, .ref m_reals, .ref m_factsOf, .ref m_possible, .int (nI q_undos), .int (nI q_models), .ref m_tape, .int (nI q_taped), .int q_fault, .int q_wrong, .int q_wrongAt, .int q_spot, .int q_place, .int q_token, .int q_value, .ref m_ends, .ref m_letters, .ref m_actOf, .ref m_whom, .ref m_actMany, .ref m_tokens, .ref m_afters, .ref m_afterOf, .int q_counted, .ref m_pile, .ref m_caseMany, .ref m_happen, .ref m_hasIf, .ref m_becomes, .ref m_goneOf, .ref m_heard, .ref m_pairs, .ref m_heaps, .int q_rounds, .int q_heapMany, .ref m_led, .ref m_newAt, .ref m_knowing, .ref m_firsts, .int (nI q_people), .ref m_secrets, .ref m_tried, .ref m_lanes, .ref m_lengths, .ref m_cells])), (m_caseMany, .inl (E.2.1 1, 4, .inl f_caseMany))] ∧ (0 ≤ k.toInt) ∧ (k.toInt ≤ 3) ∧ (0 < cN f_caseMany k.toNatClampNeg)) ∨ (rz = 0 ∧ uz = [(hm, .inr (12, [.ref m_manys, .ref m_reals, .ref m_factsOf, .ref m_possible, .int (nI q_undos), .int (nI q_models), .ref m_tape, .int (nI q_taped), .int q_fault, .int q_wrong, .int q_wrongAt, .int q_spot, .int q_place, .int q_token, .int q_value, .ref m_ends, .ref m_letters, .ref m_actOf, .ref m_whom, .ref m_actMany, .ref m_tokens, .ref m_afters, .ref m_afterOf, .int q_counted, .ref m_pile, .ref m_caseMany, .ref m_happen, .ref m_hasIf, .ref m_becomes, .ref m_goneOf, .ref m_heard, .ref m_pairs, .ref m_heaps, .int q_rounds, .int q_heapMany, .ref m_led, .ref m_newAt, .ref m_knowing, .ref m_firsts, .int (nI q_people), .ref m_secrets, .ref m_tried, .ref m_lanes, .ref m_lengths, .ref m_cells])), (m_caseMany, .inl (E.2.1 1, 4, .inl f_caseMany))] ∧ (k.toInt < 0 ∨ 3 < k.toInt ∨ cN f_caseMany k.toNatClampNeg = 0)))) 0 0 := by
  refine ct_of rfl rfl ?_
  intro X C hT hin hro
  show WW X 2 E 0 [(0, .ref hm), (1, .int k)] [] [(hm, .inr (12, [.ref m_manys, .ref m_reals, .ref m_factsOf, .ref m_possible, .int (nI q_undos), .int (nI q_models), .ref m_tape, .int (nI q_taped), .int q_fault, .int q_wrong, .int q_wrongAt, .int q_spot, .int q_place, .int q_token, .int q_value, .ref m_ends, .ref m_letters, .ref m_actOf, .ref m_whom, .ref m_actMany, .ref m_tokens, .ref m_afters, .ref m_afterOf, .int q_counted, .ref m_pile, .ref m_caseMany, .ref m_happen, .ref m_hasIf, .ref m_becomes, .ref m_goneOf, .ref m_heard, .ref m_pairs, .ref m_heaps, .int q_rounds, .int q_heapMany, .ref m_led, .ref m_newAt, .ref m_knowing, .ref m_firsts, .int (nI q_people), .ref m_secrets, .ref m_tried, .ref m_lanes, .ref m_lengths, .ref m_cells])), (m_caseMany, .inl (E.2.1 1, 4, .inl f_caseMany))] 0 0
  refine ww_iload_n C dX12_isEvent_0 1 rfl rfl ?_
  refine ww_i2l (v := k.toInt64) C dX12_isEvent_1 rfl ?_
  refine ww_lconst (v := 0) C dX12_isEvent_2 rfl ?_
  refine ww_ldc2 C wv_X12_113 dX12_isEvent_3 ?_
  refine ww_ci (wr := [(hm, .inr (12, [.ref m_manys, .ref m_reals, .ref m_factsOf, .ref m_possible, .int (nI q_undos), .int (nI q_models), .ref m_tape, .int (nI q_taped), .int q_fault, .int q_wrong, .int q_wrongAt, .int q_spot, .int q_place, .int q_token, .int q_value, .ref m_ends, .ref m_letters, .ref m_actOf, .ref m_whom, .ref m_actMany, .ref m_tokens, .ref m_afters, .ref m_afterOf, .int q_counted, .ref m_pile, .ref m_caseMany, .ref m_happen, .ref m_hasIf, .ref m_becomes, .ref m_goneOf, .ref m_heard, .ref m_pairs, .ref m_heaps, .int q_rounds, .int q_heapMany, .ref m_led, .ref m_newAt, .ref m_knowing, .ref m_firsts, .int (nI q_people), .ref m_secrets, .ref m_tried, .ref m_lanes, .ref m_lengths, .ref m_cells])), (m_caseMany, .inl (E.2.1 1, 4, .inl f_caseMany))]) (k' := 0) (n' := 0) C (run_S (As := [.long k.toInt64, .long 0, .long 3]) (rest := []) C (r_in X.2.1 E ro k.toInt64 0 3 k.toInt 0 3 (Int32.toInt_toInt64 _) rfl rfl) ms_X12_in wl_X12_115 rfl rfl rfl rfl dX12_isEvent_6) (roK hro) [] [0, 1] rfl rfl rfl rfl (fun r_1 uz hw => ?_)
  rcases hw with hw | hw
  · refine an3 hw ?_
    clear hw
    intro he_4 he_5 h_2 hw
    have h_3 := hw
    clear hw
    have he_4 := he_4.symm
    subst he_4
    subst he_5
    refine ww_eq (ws' := [(hm, .inr (12, [.ref m_manys, .ref m_reals, .ref m_factsOf, .ref m_possible, .int (nI q_undos), .int (nI q_models), .ref m_tape, .int (nI q_taped), .int q_fault, .int q_wrong, .int q_wrongAt, .int q_spot, .int q_place, .int q_token, .int q_value, .ref m_ends, .ref m_letters, .ref m_actOf, .ref m_whom, .ref m_actMany, .ref m_tokens, .ref m_afters, .ref m_afterOf, .int q_counted, .ref m_pile, .ref m_caseMany, .ref m_happen, .ref m_hasIf, .ref m_becomes, .ref m_goneOf, .ref m_heard, .ref m_pairs, .ref m_heaps, .int q_rounds, .int q_heapMany, .ref m_led, .ref m_newAt, .ref m_knowing, .ref m_firsts, .int (nI q_people), .ref m_secrets, .ref m_tried, .ref m_lanes, .ref m_lengths, .ref m_cells])), (m_caseMany, .inl (E.2.1 1, 4, .inl f_caseMany))]) ?_ rfl rfl rfl
    refine ww_if_eq_f (tgt := 25) C dX12_isEvent_9 (by decide) (by decide) ?_
    obtain ⟨j_9, hj_9, rfl⟩ := i_nat (x := k) (N := 3) (by omega) (by omega)
    have hzj_9 := nI_toInt (n := j_9) (by omega)
    refine ww_aload_n C dX12_isEvent_12 0 rfl rfl ?_
    refine ww_get C fg_X12_52 0 rfl rfl dX12_isEvent_13 ?_
    refine ww_iload_n C dX12_isEvent_16 1 rfl rfl ?_
    have hbx_10 := (hb_caseMany j_9 (by omega)).2
    refine ww_iald (v := (nI (cN f_caseMany j_9))) C 1 rfl (vp_in_nI (by omega) (by omega)) (ldn (by omega) (hb_caseMany j_9 (by omega)).1) dX12_isEvent_17 ?_
    refine ww_if_le (tgt := 25) C dX12_isEvent_18 (by decide) (fun c_11 => ?_) (fun c_11 => ?_)
    · have zc_11 : ((cN f_caseMany j_9 : Nat) : Int) ≤ 0 := i_le (nI_toInt (n := cN f_caseMany j_9) (by omega)) rfl c_11
      refine ww_iconst (v := 0) C dX12_isEvent_25 rfl ?_
      exact ww_zret (u := [(hm, .inr (12, [.ref m_manys, .ref m_reals, .ref m_factsOf, .ref m_possible, .int (nI q_undos), .int (nI q_models), .ref m_tape, .int (nI q_taped), .int q_fault, .int q_wrong, .int q_wrongAt, .int q_spot, .int q_place, .int q_token, .int q_value, .ref m_ends, .ref m_letters, .ref m_actOf, .ref m_whom, .ref m_actMany, .ref m_tokens, .ref m_afters, .ref m_afterOf, .int q_counted, .ref m_pile, .ref m_caseMany, .ref m_happen, .ref m_hasIf, .ref m_becomes, .ref m_goneOf, .ref m_heard, .ref m_pairs, .ref m_heaps, .int q_rounds, .int q_heapMany, .ref m_led, .ref m_newAt, .ref m_knowing, .ref m_firsts, .int (nI q_people), .ref m_secrets, .ref m_tried, .ref m_lanes, .ref m_lengths, .ref m_cells])), (m_caseMany, .inl (E.2.1 1, 4, .inl f_caseMany))]) C hT [0, 1] rfl rfl rfl rfl rfl dX12_isEvent_26 (Or.inr ⟨rfl, rfl, (Or.inr (Or.inr (by rw [nI_clamp (by omega)]; omega)))⟩)
    · have zc_11 : ((cN f_caseMany j_9 : Nat) : Int) > 0 := i_nle (nI_toInt (n := cN f_caseMany j_9) (by omega)) rfl c_11
      refine ww_iconst (v := 1) C dX12_isEvent_21 rfl ?_
      refine ww_goto (tgt := 26) C dX12_isEvent_22 (by decide) ?_
      exact ww_zret (u := [(hm, .inr (12, [.ref m_manys, .ref m_reals, .ref m_factsOf, .ref m_possible, .int (nI q_undos), .int (nI q_models), .ref m_tape, .int (nI q_taped), .int q_fault, .int q_wrong, .int q_wrongAt, .int q_spot, .int q_place, .int q_token, .int q_value, .ref m_ends, .ref m_letters, .ref m_actOf, .ref m_whom, .ref m_actMany, .ref m_tokens, .ref m_afters, .ref m_afterOf, .int q_counted, .ref m_pile, .ref m_caseMany, .ref m_happen, .ref m_hasIf, .ref m_becomes, .ref m_goneOf, .ref m_heard, .ref m_pairs, .ref m_heaps, .int q_rounds, .int q_heapMany, .ref m_led, .ref m_newAt, .ref m_knowing, .ref m_firsts, .int (nI q_people), .ref m_secrets, .ref m_tried, .ref m_lanes, .ref m_lengths, .ref m_cells])), (m_caseMany, .inl (E.2.1 1, 4, .inl f_caseMany))]) C hT [0, 1] rfl rfl rfl rfl rfl dX12_isEvent_26 (Or.inl ⟨rfl, rfl, (by first | assumption | omega | decide), (by first | assumption | omega | decide), (by rw [nI_clamp (by omega)]; omega)⟩)
  · refine an2 hw ?_
    clear hw
    intro he_7 he_8 hw
    have h_6 := hw
    clear hw
    have he_7 := he_7.symm
    subst he_7
    subst he_8
    refine ww_eq (ws' := [(hm, .inr (12, [.ref m_manys, .ref m_reals, .ref m_factsOf, .ref m_possible, .int (nI q_undos), .int (nI q_models), .ref m_tape, .int (nI q_taped), .int q_fault, .int q_wrong, .int q_wrongAt, .int q_spot, .int q_place, .int q_token, .int q_value, .ref m_ends, .ref m_letters, .ref m_actOf, .ref m_whom, .ref m_actMany, .ref m_tokens, .ref m_afters, .ref m_afterOf, .int q_counted, .ref m_pile, .ref m_caseMany, .ref m_happen, .ref m_hasIf, .ref m_becomes, .ref m_goneOf, .ref m_heard, .ref m_pairs, .ref m_heaps, .int q_rounds, .int q_heapMany, .ref m_led, .ref m_newAt, .ref m_knowing, .ref m_firsts, .int (nI q_people), .ref m_secrets, .ref m_tried, .ref m_lanes, .ref m_lengths, .ref m_cells])), (m_caseMany, .inl (E.2.1 1, 4, .inl f_caseMany))]) ?_ rfl rfl rfl
    refine ww_if_eq_t (tgt := 25) C dX12_isEvent_9 (by decide) (rfl) ?_
    refine ww_iconst (v := 0) C dX12_isEvent_25 rfl ?_
    exact ww_zret (u := [(hm, .inr (12, [.ref m_manys, .ref m_reals, .ref m_factsOf, .ref m_possible, .int (nI q_undos), .int (nI q_models), .ref m_tape, .int (nI q_taped), .int q_fault, .int q_wrong, .int q_wrongAt, .int q_spot, .int q_place, .int q_token, .int q_value, .ref m_ends, .ref m_letters, .ref m_actOf, .ref m_whom, .ref m_actMany, .ref m_tokens, .ref m_afters, .ref m_afterOf, .int q_counted, .ref m_pile, .ref m_caseMany, .ref m_happen, .ref m_hasIf, .ref m_becomes, .ref m_goneOf, .ref m_heard, .ref m_pairs, .ref m_heaps, .int q_rounds, .int q_heapMany, .ref m_led, .ref m_newAt, .ref m_knowing, .ref m_firsts, .int (nI q_people), .ref m_secrets, .ref m_tried, .ref m_lanes, .ref m_lengths, .ref m_cells])), (m_caseMany, .inl (E.2.1 1, 4, .inl f_caseMany))]) C hT [0, 1] rfl rfl rfl rfl rfl dX12_isEvent_26 (Or.inr ⟨rfl, rfl, (by omega)⟩)
theorem dX12_isCase_0 : decode cX12_isCase 0 = .ok (.aload_n 0, 1) := dl_42 (by decide +kernel)
theorem dX12_isCase_1 : decode cX12_isCase 1 = .ok (.iload_n 1, 1) := dl_27 (by decide +kernel)
theorem dX12_isCase_2 : decode cX12_isCase 2 = .ok (.invokevirtual 237, 3) := dl_182 (by decide +kernel)
theorem wl_X12_237 : Cond.methodLink RX12 237 yX12_isEvent ∈ TB := tbm (tq6 (List.mem_of_getElem? (i := 129) (by decide +kernel))) (by decide +kernel)
theorem wc_X12_isEvent : Cond.code yX12_isEvent cX12_isEvent 2 (some .boolean) ∈ TB := tbm (tq6 (List.mem_of_getElem? (i := 132) (rfl))) (by decide +kernel)
theorem wi_X12_isEvent : Cond.instanceMethod yX12_isEvent ∈ TB := tbm (tq6 (List.mem_of_getElem? (i := 131) (by decide +kernel))) (by decide +kernel)
theorem ws_X12_isEvent : Cond.selects RX12 yX12_isEvent yX12_isEvent ∈ TB := tbm (tq0 (List.mem_of_getElem? (i := 56) (by decide +kernel))) (by decide +kernel)
theorem mi_X12_isEvent : MI yX12_isEvent cX12_isEvent 2 (some .boolean) 1 := ⟨wc_X12_isEvent, wn_X12, ⟨by decide +kernel, by decide +kernel, by decide +kernel⟩, wi_X12_isEvent, ws_X12_isEvent⟩
theorem dX12_isCase_5 : decode cX12_isCase 5 = .ok (.ifCond .eq 25, 3) := dl_153 (by decide +kernel)
theorem dX12_isCase_8 : decode cX12_isCase 8 = .ok (.iload_n 2, 1) := dl_28 (by decide +kernel)
theorem dX12_isCase_9 : decode cX12_isCase 9 = .ok (.i2l, 1) := dl_133 (by decide +kernel)
theorem dX12_isCase_10 : decode cX12_isCase 10 = .ok (.lconst 0, 1) := dl_9 (by decide +kernel)
theorem dX12_isCase_11 : decode cX12_isCase 11 = .ok (.aload_n 0, 1) := dl_42 (by decide +kernel)
theorem dX12_isCase_12 : decode cX12_isCase 12 = .ok (.getfield 52, 3) := dl_180 (by decide +kernel)
theorem dX12_isCase_15 : decode cX12_isCase 15 = .ok (.iload_n 1, 1) := dl_27 (by decide +kernel)
theorem dX12_isCase_16 : decode cX12_isCase 16 = .ok (.iaload, 1) := dl_46 (by decide +kernel)
theorem dX12_isCase_17 : decode cX12_isCase 17 = .ok (.iconst 1, 1) := dl_4 (by decide +kernel)
theorem dX12_isCase_18 : decode cX12_isCase 18 = .ok (.isub, 1) := dl_100 (by decide +kernel)
theorem dX12_isCase_19 : decode cX12_isCase 19 = .ok (.i2l, 1) := dl_133 (by decide +kernel)
theorem dX12_isCase_20 : decode cX12_isCase 20 = .ok (.invokestatic 115, 3) := dl_184 (by decide +kernel)
theorem dX12_isCase_23 : decode cX12_isCase 23 = .ok (.ifCond .eq 7, 3) := dl_153 (by decide +kernel)
theorem dX12_isCase_26 : decode cX12_isCase 26 = .ok (.iconst 1, 1) := dl_4 (by decide +kernel)
theorem dX12_isCase_27 : decode cX12_isCase 27 = .ok (.goto 4, 3) := dl_167 (by decide +kernel)
theorem dX12_isCase_31 : decode cX12_isCase 31 = .ok (.ireturn, 1) := dl_172 (by decide +kernel)
theorem dX12_isCase_30 : decode cX12_isCase 30 = .ok (.iconst 0, 1) := dl_3 (by decide +kernel)
set_option maxRecDepth 100000 in
set_option maxHeartbeats 4000000 in
theorem r_isCase (l : Launch) (E : EV) (ro : va_W) (hm : Nat) (k : Int32) (i : Int32) (m_manys : Nat) (m_reals : Nat) (m_factsOf : Nat) (m_possible : Nat) (q_undos : Nat) (q_models : Nat) (m_tape : Nat) (q_taped : Nat) (q_fault : Int32) (q_wrong : Int32) (q_wrongAt : Int32) (q_spot : Int32) (q_place : Int32) (q_token : Int32) (q_value : Int32) (m_ends : Nat) (m_letters : Nat) (m_actOf : Nat) (m_whom : Nat) (m_actMany : Nat) (m_tokens : Nat) (m_afters : Nat) (m_afterOf : Nat) (q_counted : Int32) (m_pile : Nat) (m_caseMany : Nat) (m_happen : Nat) (m_hasIf : Nat) (m_becomes : Nat) (m_goneOf : Nat) (m_heard : Nat) (m_pairs : Nat) (m_heaps : Nat) (q_rounds : Int32) (q_heapMany : Int32) (m_led : Nat) (m_newAt : Nat) (m_knowing : Nat) (m_firsts : Nat) (q_people : Nat) (m_secrets : Nat) (m_tried : Nat) (m_lanes : Nat) (m_lengths : Nat) (m_cells : Nat) (f_caseMany : Nat → Int32) (hb_caseMany : NB 4 4 f_caseMany) : CT l yX12_isCase (Cond.code yX12_isCase cX12_isCase 3 (some .boolean) :: TB) ({ frames := 2, cells := 0, slots := 0, locals := 46 }) E ro [.ref hm, .int k, .int i] [(hm, .inr (12, [.ref m_manys, .ref m_reals, .ref m_factsOf, .ref m_possible, .int (nI q_undos), .int (nI q_models), .ref m_tape, .int (nI q_taped), .int q_fault, .int q_wrong, .int q_wrongAt, .int q_spot, .int q_place, .int q_token, .int q_value, .ref m_ends, .ref m_letters, .ref m_actOf, .ref m_whom, .ref m_actMany, .ref m_tokens, .ref m_afters, .ref m_afterOf, .int q_counted, .ref m_pile, .ref m_caseMany, .ref m_happen, .ref m_hasIf, .ref m_becomes, .ref m_goneOf, .ref m_heard, .ref m_pairs, .ref m_heaps, .int q_rounds, .int q_heapMany, .ref m_led, .ref m_newAt, .ref m_knowing, .ref m_firsts, .int (nI q_people), .ref m_secrets, .ref m_tried, .ref m_lanes, .ref m_lengths, .ref m_cells])), (m_caseMany, .inl (E.2.1 1, 4, .inl f_caseMany))] (Qi E (fun (rz : Int32) uz => (rz = 1 ∧ uz = [(hm, .inr (12, [.ref m_manys, .ref m_reals, .ref m_factsOf, .ref m_possible, .int (nI q_undos), .int (nI q_models), .ref m_tape, .int (nI q_taped), .int q_fault, .int q_wrong, .int q_wrongAt, .int q_spot, .int q_place, .int q_token, .int q_value, .ref m_ends, .ref m_letters, .ref m_actOf, .ref m_whom, .ref m_actMany, .ref m_tokens, .ref m_afters, .ref m_afterOf, .int q_counted, .ref m_pile, .ref m_caseMany, .ref m_happen, .ref m_hasIf, .ref m_becomes, .ref m_goneOf, .ref m_heard, .ref m_pairs, .ref m_heaps, .int q_rounds, .int q_heapMany, .ref m_led, .ref m_newAt, .ref m_knowing, .ref m_firsts, .int (nI q_people), .ref m_secrets, .ref m_tried, .ref m_lanes, .ref m_lengths, .ref m_cells])), (m_caseMany, .inl (E.2.1 1, 4, .inl f_caseMany))] ∧ (0 ≤ k.toInt) ∧ (k.toInt ≤ 3) ∧ (0 ≤ i.toInt) ∧ (i.toInt ≤ 3) ∧ (i.toInt < cN f_caseMany k.toNatClampNeg) ∧ (CSE (cN f_caseMany) k i)) ∨ (rz = 0 ∧ uz = [(hm, .inr (12, [.ref m_manys, .ref m_reals, .ref m_factsOf, .ref m_possible, .int (nI q_undos), .int (nI q_models), .ref m_tape, .int (nI q_taped), .int q_fault, .int q_wrong, .int q_wrongAt, .int q_spot, .int q_place, .int q_token, .int q_value, .ref m_ends, .ref m_letters, .ref m_actOf, .ref m_whom, .ref m_actMany, .ref m_tokens, .ref m_afters, .ref m_afterOf, .int q_counted, .ref m_pile, .ref m_caseMany, .ref m_happen, .ref m_hasIf, .ref m_becomes, .ref m_goneOf, .ref m_heard, .ref m_pairs, .ref m_heaps, .int q_rounds, .int q_heapMany, .ref m_led, .ref m_newAt, .ref m_knowing, .ref m_firsts, .int (nI q_people), .ref m_secrets, .ref m_tried, .ref m_lanes, .ref m_lengths, .ref m_cells])), (m_caseMany, .inl (E.2.1 1, 4, .inl f_caseMany))] ∧ (¬ CSE (cN f_caseMany) k i)))) 0 0 := by
  refine ct_of rfl rfl ?_
  intro X C hT hin hro
  show WW X 3 E 0 [(0, .ref hm), (1, .int k), (2, .int i)] [] [(hm, .inr (12, [.ref m_manys, .ref m_reals, .ref m_factsOf, .ref m_possible, .int (nI q_undos), .int (nI q_models), .ref m_tape, .int (nI q_taped), .int q_fault, .int q_wrong, .int q_wrongAt, .int q_spot, .int q_place, .int q_token, .int q_value, .ref m_ends, .ref m_letters, .ref m_actOf, .ref m_whom, .ref m_actMany, .ref m_tokens, .ref m_afters, .ref m_afterOf, .int q_counted, .ref m_pile, .ref m_caseMany, .ref m_happen, .ref m_hasIf, .ref m_becomes, .ref m_goneOf, .ref m_heard, .ref m_pairs, .ref m_heaps, .int q_rounds, .int q_heapMany, .ref m_led, .ref m_newAt, .ref m_knowing, .ref m_firsts, .int (nI q_people), .ref m_secrets, .ref m_tried, .ref m_lanes, .ref m_lengths, .ref m_cells])), (m_caseMany, .inl (E.2.1 1, 4, .inl f_caseMany))] 0 0
  refine ww_aload_n C dX12_isCase_0 0 rfl rfl ?_
  refine ww_iload_n C dX12_isCase_1 1 rfl rfl ?_
  refine ww_ci (wr := []) (k' := 0) (n' := 0) C (run_V (As := [.int k]) (rest := []) C (r_isEvent X.2.1 E ro hm k m_manys m_reals m_factsOf m_possible q_undos q_models m_tape q_taped q_fault q_wrong q_wrongAt q_spot q_place q_token q_value m_ends m_letters m_actOf m_whom m_actMany m_tokens m_afters m_afterOf q_counted m_pile m_caseMany m_happen m_hasIf m_becomes m_goneOf m_heard m_pairs m_heaps q_rounds q_heapMany m_led m_newAt m_knowing m_firsts q_people m_secrets m_tried m_lanes m_lengths m_cells f_caseMany hb_caseMany) mi_X12_isEvent wl_X12_237 rfl 0 12 rfl rfl rfl rfl rfl dX12_isCase_2) (roK hro) [0, 1] [] rfl rfl rfl rfl (fun r_1 uz hw => ?_)
  rcases hw with hw | hw
  · refine an4 hw ?_
    clear hw
    intro he_5 he_6 h_2 h_3 hw
    have h_4 := hw
    clear hw
    have he_5 := he_5.symm
    subst he_5
    subst he_6
    refine ww_eq (ws' := [(hm, .inr (12, [.ref m_manys, .ref m_reals, .ref m_factsOf, .ref m_possible, .int (nI q_undos), .int (nI q_models), .ref m_tape, .int (nI q_taped), .int q_fault, .int q_wrong, .int q_wrongAt, .int q_spot, .int q_place, .int q_token, .int q_value, .ref m_ends, .ref m_letters, .ref m_actOf, .ref m_whom, .ref m_actMany, .ref m_tokens, .ref m_afters, .ref m_afterOf, .int q_counted, .ref m_pile, .ref m_caseMany, .ref m_happen, .ref m_hasIf, .ref m_becomes, .ref m_goneOf, .ref m_heard, .ref m_pairs, .ref m_heaps, .int q_rounds, .int q_heapMany, .ref m_led, .ref m_newAt, .ref m_knowing, .ref m_firsts, .int (nI q_people), .ref m_secrets, .ref m_tried, .ref m_lanes, .ref m_lengths, .ref m_cells])), (m_caseMany, .inl (E.2.1 1, 4, .inl f_caseMany))]) ?_ rfl rfl rfl
    refine ww_if_eq_f (tgt := 30) C dX12_isCase_5 (by decide) (by decide) ?_
    obtain ⟨j_10, hj_10, rfl⟩ := i_nat (x := k) (N := 3) (by omega) (by omega)
    have hzj_10 := nI_toInt (n := j_10) (by omega)
    refine ww_iload_n C dX12_isCase_8 2 rfl rfl ?_
    refine ww_i2l (v := i.toInt64) C dX12_isCase_9 rfl ?_
    refine ww_lconst (v := 0) C dX12_isCase_10 rfl ?_
    refine ww_aload_n C dX12_isCase_11 0 rfl rfl ?_
    refine ww_get C fg_X12_52 0 rfl rfl dX12_isCase_12 ?_
    refine ww_iload_n C dX12_isCase_15 1 rfl rfl ?_
    have hbx_11 := (hb_caseMany j_10 (by omega)).2
    refine ww_iald (v := (nI (cN f_caseMany j_10))) C 1 rfl (vp_in_nI (by omega) (by omega)) (ldn (by omega) (hb_caseMany j_10 (by omega)).1) dX12_isCase_16 ?_
    refine ww_iconst (v := 1) C dX12_isCase_17 rfl ?_
    obtain ⟨x_12, ex_12⟩ : ∃ z : Int32, (nI (cN f_caseMany j_10)) - (1 : Int32) = z := ⟨_, rfl⟩
    have zx_12 : x_12.toInt = ((cN f_caseMany j_10 : Nat) : Int) - 1 := by rw [← ex_12]; exact i_sub (nI_toInt (n := cN f_caseMany j_10) (by omega)) rfl (by omega) (by omega)
    refine ww_isub (v := x_12) C dX12_isCase_18 ex_12 ?_
    refine ww_i2l (v := x_12.toInt64) C dX12_isCase_19 rfl ?_
    refine ww_ci (wr := [(hm, .inr (12, [.ref m_manys, .ref m_reals, .ref m_factsOf, .ref m_possible, .int (nI q_undos), .int (nI q_models), .ref m_tape, .int (nI q_taped), .int q_fault, .int q_wrong, .int q_wrongAt, .int q_spot, .int q_place, .int q_token, .int q_value, .ref m_ends, .ref m_letters, .ref m_actOf, .ref m_whom, .ref m_actMany, .ref m_tokens, .ref m_afters, .ref m_afterOf, .int q_counted, .ref m_pile, .ref m_caseMany, .ref m_happen, .ref m_hasIf, .ref m_becomes, .ref m_goneOf, .ref m_heard, .ref m_pairs, .ref m_heaps, .int q_rounds, .int q_heapMany, .ref m_led, .ref m_newAt, .ref m_knowing, .ref m_firsts, .int (nI q_people), .ref m_secrets, .ref m_tried, .ref m_lanes, .ref m_lengths, .ref m_cells])), (m_caseMany, .inl (E.2.1 1, 4, .inl f_caseMany))]) (k' := 0) (n' := 0) C (run_S (As := [.long i.toInt64, .long 0, .long x_12.toInt64]) (rest := []) C (r_in X.2.1 E ro i.toInt64 0 x_12.toInt64 i.toInt 0 (((cN f_caseMany j_10 : Nat) : Int) - 1) (Int32.toInt_toInt64 _) rfl ((Int32.toInt_toInt64 _).trans zx_12)) ms_X12_in wl_X12_115 rfl rfl rfl rfl dX12_isCase_20) (roK hro) [] [0, 1] rfl rfl rfl rfl (fun r_13 uz hw => ?_)
    rcases hw with hw | hw
    · refine an3 hw ?_
      clear hw
      intro he_16 he_17 h_14 hw
      have h_15 := hw
      clear hw
      have he_16 := he_16.symm
      subst he_16
      subst he_17
      refine ww_eq (ws' := [(hm, .inr (12, [.ref m_manys, .ref m_reals, .ref m_factsOf, .ref m_possible, .int (nI q_undos), .int (nI q_models), .ref m_tape, .int (nI q_taped), .int q_fault, .int q_wrong, .int q_wrongAt, .int q_spot, .int q_place, .int q_token, .int q_value, .ref m_ends, .ref m_letters, .ref m_actOf, .ref m_whom, .ref m_actMany, .ref m_tokens, .ref m_afters, .ref m_afterOf, .int q_counted, .ref m_pile, .ref m_caseMany, .ref m_happen, .ref m_hasIf, .ref m_becomes, .ref m_goneOf, .ref m_heard, .ref m_pairs, .ref m_heaps, .int q_rounds, .int q_heapMany, .ref m_led, .ref m_newAt, .ref m_knowing, .ref m_firsts, .int (nI q_people), .ref m_secrets, .ref m_tried, .ref m_lanes, .ref m_lengths, .ref m_cells])), (m_caseMany, .inl (E.2.1 1, 4, .inl f_caseMany))]) ?_ rfl rfl rfl
      refine ww_if_eq_f (tgt := 30) C dX12_isCase_23 (by decide) (by decide) ?_
      refine ww_iconst (v := 1) C dX12_isCase_26 rfl ?_
      refine ww_goto (tgt := 31) C dX12_isCase_27 (by decide) ?_
      exact ww_zret (u := [(hm, .inr (12, [.ref m_manys, .ref m_reals, .ref m_factsOf, .ref m_possible, .int (nI q_undos), .int (nI q_models), .ref m_tape, .int (nI q_taped), .int q_fault, .int q_wrong, .int q_wrongAt, .int q_spot, .int q_place, .int q_token, .int q_value, .ref m_ends, .ref m_letters, .ref m_actOf, .ref m_whom, .ref m_actMany, .ref m_tokens, .ref m_afters, .ref m_afterOf, .int q_counted, .ref m_pile, .ref m_caseMany, .ref m_happen, .ref m_hasIf, .ref m_becomes, .ref m_goneOf, .ref m_heard, .ref m_pairs, .ref m_heaps, .int q_rounds, .int q_heapMany, .ref m_led, .ref m_newAt, .ref m_knowing, .ref m_firsts, .int (nI q_people), .ref m_secrets, .ref m_tried, .ref m_lanes, .ref m_lengths, .ref m_cells])), (m_caseMany, .inl (E.2.1 1, 4, .inl f_caseMany))]) C hT [0, 1] rfl rfl rfl rfl rfl dX12_isCase_31 (Or.inl ⟨rfl, rfl, (by first | assumption | omega | decide), (by first | assumption | omega | decide), (by first | assumption | omega | decide), (by first | assumption | omega | decide), (by rw [nI_clamp (by omega)]; omega), ⟨by omega, by omega, by omega, by rw [nI_clamp (by omega)]; omega⟩⟩)
    · refine an2 hw ?_
      clear hw
      intro he_19 he_20 hw
      have h_18 := hw
      clear hw
      have he_19 := he_19.symm
      subst he_19
      subst he_20
      refine ww_eq (ws' := [(hm, .inr (12, [.ref m_manys, .ref m_reals, .ref m_factsOf, .ref m_possible, .int (nI q_undos), .int (nI q_models), .ref m_tape, .int (nI q_taped), .int q_fault, .int q_wrong, .int q_wrongAt, .int q_spot, .int q_place, .int q_token, .int q_value, .ref m_ends, .ref m_letters, .ref m_actOf, .ref m_whom, .ref m_actMany, .ref m_tokens, .ref m_afters, .ref m_afterOf, .int q_counted, .ref m_pile, .ref m_caseMany, .ref m_happen, .ref m_hasIf, .ref m_becomes, .ref m_goneOf, .ref m_heard, .ref m_pairs, .ref m_heaps, .int q_rounds, .int q_heapMany, .ref m_led, .ref m_newAt, .ref m_knowing, .ref m_firsts, .int (nI q_people), .ref m_secrets, .ref m_tried, .ref m_lanes, .ref m_lengths, .ref m_cells])), (m_caseMany, .inl (E.2.1 1, 4, .inl f_caseMany))]) ?_ rfl rfl rfl
      refine ww_if_eq_t (tgt := 30) C dX12_isCase_23 (by decide) (rfl) ?_
      refine ww_iconst (v := 0) C dX12_isCase_30 rfl ?_
      exact ww_zret (u := [(hm, .inr (12, [.ref m_manys, .ref m_reals, .ref m_factsOf, .ref m_possible, .int (nI q_undos), .int (nI q_models), .ref m_tape, .int (nI q_taped), .int q_fault, .int q_wrong, .int q_wrongAt, .int q_spot, .int q_place, .int q_token, .int q_value, .ref m_ends, .ref m_letters, .ref m_actOf, .ref m_whom, .ref m_actMany, .ref m_tokens, .ref m_afters, .ref m_afterOf, .int q_counted, .ref m_pile, .ref m_caseMany, .ref m_happen, .ref m_hasIf, .ref m_becomes, .ref m_goneOf, .ref m_heard, .ref m_pairs, .ref m_heaps, .int q_rounds, .int q_heapMany, .ref m_led, .ref m_newAt, .ref m_knowing, .ref m_firsts, .int (nI q_people), .ref m_secrets, .ref m_tried, .ref m_lanes, .ref m_lengths, .ref m_cells])), (m_caseMany, .inl (E.2.1 1, 4, .inl f_caseMany))]) C hT [0, 1] rfl rfl rfl rfl rfl dX12_isCase_31 (Or.inr ⟨rfl, rfl, (fun h9 => by have h6 := h9.2.2.1; have h5 := h9.2.2.2; rw [nI_clamp (by omega)] at h5; omega)⟩)
  · refine an2 hw ?_
    clear hw
    intro he_8 he_9 hw
    have h_7 := hw
    clear hw
    have he_8 := he_8.symm
    subst he_8
    subst he_9
    refine ww_eq (ws' := [(hm, .inr (12, [.ref m_manys, .ref m_reals, .ref m_factsOf, .ref m_possible, .int (nI q_undos), .int (nI q_models), .ref m_tape, .int (nI q_taped), .int q_fault, .int q_wrong, .int q_wrongAt, .int q_spot, .int q_place, .int q_token, .int q_value, .ref m_ends, .ref m_letters, .ref m_actOf, .ref m_whom, .ref m_actMany, .ref m_tokens, .ref m_afters, .ref m_afterOf, .int q_counted, .ref m_pile, .ref m_caseMany, .ref m_happen, .ref m_hasIf, .ref m_becomes, .ref m_goneOf, .ref m_heard, .ref m_pairs, .ref m_heaps, .int q_rounds, .int q_heapMany, .ref m_led, .ref m_newAt, .ref m_knowing, .ref m_firsts, .int (nI q_people), .ref m_secrets, .ref m_tried, .ref m_lanes, .ref m_lengths, .ref m_cells])), (m_caseMany, .inl (E.2.1 1, 4, .inl f_caseMany))]) ?_ rfl rfl rfl
    refine ww_if_eq_t (tgt := 30) C dX12_isCase_5 (by decide) (rfl) ?_
    refine ww_iconst (v := 0) C dX12_isCase_30 rfl ?_
    exact ww_zret (u := [(hm, .inr (12, [.ref m_manys, .ref m_reals, .ref m_factsOf, .ref m_possible, .int (nI q_undos), .int (nI q_models), .ref m_tape, .int (nI q_taped), .int q_fault, .int q_wrong, .int q_wrongAt, .int q_spot, .int q_place, .int q_token, .int q_value, .ref m_ends, .ref m_letters, .ref m_actOf, .ref m_whom, .ref m_actMany, .ref m_tokens, .ref m_afters, .ref m_afterOf, .int q_counted, .ref m_pile, .ref m_caseMany, .ref m_happen, .ref m_hasIf, .ref m_becomes, .ref m_goneOf, .ref m_heard, .ref m_pairs, .ref m_heaps, .int q_rounds, .int q_heapMany, .ref m_led, .ref m_newAt, .ref m_knowing, .ref m_firsts, .int (nI q_people), .ref m_secrets, .ref m_tried, .ref m_lanes, .ref m_lengths, .ref m_cells])), (m_caseMany, .inl (E.2.1 1, 4, .inl f_caseMany))]) C hT [0, 1] rfl rfl rfl rfl rfl dX12_isCase_31 (Or.inr ⟨rfl, rfl, (fun h9 => by have h8 := h9.1; have h7 := h9.2.1; have h6 := h9.2.2.1; have h5 := h9.2.2.2; omega)⟩)
/-- four places of an event are 0, the others as they were -/
def Z4 (e i : Nat) (f g : Nat → Int32) : Prop := (∀ c, c < i → g (4 * e + c) = 0) ∧ ∀ j, (j < 4 * e ∨ 4 * e + 4 ≤ j) → g j = f j
theorem Z4.nil {e : Nat} {f : Nat → Int32} : Z4 e 0 f f := ⟨fun c h => absurd h (Nat.not_lt_zero _), fun _ _ => rfl⟩
theorem Z4.ext {e i : Nat} {f g g' : Nat → Int32} (h : Z4 e i f g) (hi : i < 4) (e1 : upd g (4 * e + i) 0 = g') : Z4 e (i + 1) f g' := by
  refine ⟨fun c hc => ?_, fun j hj => ?_⟩
  · rw [← e1]
    by_cases q : c = i
    · rw [q, pk_us]
    · rw [pk_un (by omega)]; exact h.1 c (by omega)
  · rw [← e1, pk_un (by omega)]; exact h.2 j hj
theorem nar_b0 : vp_nar .boolean 0 = 0 := by decide
theorem nar_b1 : vp_nar .boolean 1 = 1 := by decide
theorem up_b0 {f g : Nat → Int32} {k : Nat} (e : upd f k (vp_nar .boolean 0) = g) : upd f k 0 = g := (congrArg (upd f k) nar_b0.symm).trans e
theorem up_b1 {f g : Nat → Int32} {k : Nat} (e : upd f k (vp_nar .boolean 1) = g) : upd f k 1 = g := (congrArg (upd f k) nar_b1.symm).trans e
theorem dX12_clearEvent_0 : decode cX12_clearEvent 0 = .ok (.aload_n 0, 1) := dl_42 (by decide +kernel)
theorem dX12_clearEvent_1 : decode cX12_clearEvent 1 = .ok (.getfield 52, 3) := dl_180 (by decide +kernel)
theorem dX12_clearEvent_4 : decode cX12_clearEvent 4 = .ok (.iload_n 1, 1) := dl_27 (by decide +kernel)
theorem dX12_clearEvent_5 : decode cX12_clearEvent 5 = .ok (.iload_n 2, 1) := dl_28 (by decide +kernel)
theorem dX12_clearEvent_6 : decode cX12_clearEvent 6 = .ok (.iastore, 1) := dl_79 (by decide +kernel)
theorem dX12_clearEvent_7 : decode cX12_clearEvent 7 = .ok (.aload_n 0, 1) := dl_42 (by decide +kernel)
theorem dX12_clearEvent_8 : decode cX12_clearEvent 8 = .ok (.getfield 55, 3) := dl_180 (by decide +kernel)
theorem wf_X12_55 : Cond.fieldLink RX12 55 RX12 "happen" "[I" ∈ TB := tbm (tq5 (List.mem_of_getElem? (i := 104) (by decide +kernel))) (by decide +kernel)
theorem fg_X12_55 : FG RX12 55 12 26 := ⟨RX12, TX12, 45, uw_X12, wf_X12_55, rfl, by decide, rfl⟩
theorem dX12_clearEvent_11 : decode cX12_clearEvent 11 = .ok (.iload_n 1, 1) := dl_27 (by decide +kernel)
theorem dX12_clearEvent_12 : decode cX12_clearEvent 12 = .ok (.iconst 0, 1) := dl_3 (by decide +kernel)
theorem dX12_clearEvent_13 : decode cX12_clearEvent 13 = .ok (.iastore, 1) := dl_79 (by decide +kernel)
theorem dX12_clearEvent_14 : decode cX12_clearEvent 14 = .ok (.iconst 0, 1) := dl_3 (by decide +kernel)
theorem dX12_clearEvent_15 : decode cX12_clearEvent 15 = .ok (.istore_n 3, 1) := dl_62 (by decide +kernel)
theorem dX12_clearEvent_16 : decode cX12_clearEvent 16 = .ok (.iload_n 3, 1) := dl_29 (by decide +kernel)
theorem dX12_clearEvent_17 : decode cX12_clearEvent 17 = .ok (.iconst 4, 1) := dl_7 (by decide +kernel)
theorem dX12_clearEvent_18 : decode cX12_clearEvent 18 = .ok (.if_icmp .ge 74, 3) := dl_162 (by decide +kernel)
theorem dX12_clearEvent_92 : decode cX12_clearEvent 92 = .ok (.return_, 1) := dl_177 (by decide +kernel)
theorem dX12_clearEvent_21 : decode cX12_clearEvent 21 = .ok (.aload_n 0, 1) := dl_42 (by decide +kernel)
theorem dX12_clearEvent_22 : decode cX12_clearEvent 22 = .ok (.getfield 58, 3) := dl_180 (by decide +kernel)
theorem wf_X12_58 : Cond.fieldLink RX12 58 RX12 "hasIf" "[Z" ∈ TB := tbm (tq5 (List.mem_of_getElem? (i := 105) (by decide +kernel))) (by decide +kernel)
theorem fg_X12_58 : FG RX12 58 12 27 := ⟨RX12, TX12, 45, uw_X12, wf_X12_58, rfl, by decide, rfl⟩
theorem dX12_clearEvent_25 : decode cX12_clearEvent 25 = .ok (.iconst 4, 1) := dl_7 (by decide +kernel)
theorem dX12_clearEvent_26 : decode cX12_clearEvent 26 = .ok (.iload_n 1, 1) := dl_27 (by decide +kernel)
theorem dX12_clearEvent_27 : decode cX12_clearEvent 27 = .ok (.imul, 1) := dl_104 (by decide +kernel)
theorem dX12_clearEvent_28 : decode cX12_clearEvent 28 = .ok (.iload_n 3, 1) := dl_29 (by decide +kernel)
theorem dX12_clearEvent_29 : decode cX12_clearEvent 29 = .ok (.iadd, 1) := dl_96 (by decide +kernel)
theorem dX12_clearEvent_30 : decode cX12_clearEvent 30 = .ok (.iconst 0, 1) := dl_3 (by decide +kernel)
theorem dX12_clearEvent_31 : decode cX12_clearEvent 31 = .ok (.bastore, 1) := dl_84 (by decide +kernel)
theorem dX12_clearEvent_32 : decode cX12_clearEvent 32 = .ok (.aload_n 0, 1) := dl_42 (by decide +kernel)
theorem dX12_clearEvent_33 : decode cX12_clearEvent 33 = .ok (.getfield 62, 3) := dl_180 (by decide +kernel)
theorem wf_X12_62 : Cond.fieldLink RX12 62 RX12 "becomes" "[I" ∈ TB := tbm (tq5 (List.mem_of_getElem? (i := 106) (by decide +kernel))) (by decide +kernel)
theorem fg_X12_62 : FG RX12 62 12 28 := ⟨RX12, TX12, 45, uw_X12, wf_X12_62, rfl, by decide, rfl⟩
theorem dX12_clearEvent_36 : decode cX12_clearEvent 36 = .ok (.iconst 4, 1) := dl_7 (by decide +kernel)
theorem dX12_clearEvent_37 : decode cX12_clearEvent 37 = .ok (.iload_n 1, 1) := dl_27 (by decide +kernel)
theorem dX12_clearEvent_38 : decode cX12_clearEvent 38 = .ok (.imul, 1) := dl_104 (by decide +kernel)
theorem dX12_clearEvent_39 : decode cX12_clearEvent 39 = .ok (.iload_n 3, 1) := dl_29 (by decide +kernel)
theorem dX12_clearEvent_40 : decode cX12_clearEvent 40 = .ok (.iadd, 1) := dl_96 (by decide +kernel)
theorem dX12_clearEvent_41 : decode cX12_clearEvent 41 = .ok (.iconst 0, 1) := dl_3 (by decide +kernel)
theorem dX12_clearEvent_42 : decode cX12_clearEvent 42 = .ok (.iastore, 1) := dl_79 (by decide +kernel)
theorem dX12_clearEvent_43 : decode cX12_clearEvent 43 = .ok (.aload_n 0, 1) := dl_42 (by decide +kernel)
theorem dX12_clearEvent_44 : decode cX12_clearEvent 44 = .ok (.getfield 65, 3) := dl_180 (by decide +kernel)
theorem wf_X12_65 : Cond.fieldLink RX12 65 RX12 "goneOf" "[I" ∈ TB := tbm (tq5 (List.mem_of_getElem? (i := 107) (by decide +kernel))) (by decide +kernel)
theorem fg_X12_65 : FG RX12 65 12 29 := ⟨RX12, TX12, 45, uw_X12, wf_X12_65, rfl, by decide, rfl⟩
theorem dX12_clearEvent_47 : decode cX12_clearEvent 47 = .ok (.iconst 4, 1) := dl_7 (by decide +kernel)
theorem dX12_clearEvent_48 : decode cX12_clearEvent 48 = .ok (.iload_n 1, 1) := dl_27 (by decide +kernel)
theorem dX12_clearEvent_49 : decode cX12_clearEvent 49 = .ok (.imul, 1) := dl_104 (by decide +kernel)
theorem dX12_clearEvent_50 : decode cX12_clearEvent 50 = .ok (.iload_n 3, 1) := dl_29 (by decide +kernel)
theorem dX12_clearEvent_51 : decode cX12_clearEvent 51 = .ok (.iadd, 1) := dl_96 (by decide +kernel)
theorem dX12_clearEvent_52 : decode cX12_clearEvent 52 = .ok (.iconst 0, 1) := dl_3 (by decide +kernel)
theorem dX12_clearEvent_53 : decode cX12_clearEvent 53 = .ok (.iastore, 1) := dl_79 (by decide +kernel)
theorem dX12_clearEvent_54 : decode cX12_clearEvent 54 = .ok (.iconst 0, 1) := dl_3 (by decide +kernel)
theorem dX12_clearEvent_55 : decode cX12_clearEvent 55 = .ok (.istore 4, 2) := dl_54 (by decide +kernel)
theorem dX12_clearEvent_57 : decode cX12_clearEvent 57 = .ok (.iload 4, 2) := dl_21 (by decide +kernel)
theorem dX12_clearEvent_59 : decode cX12_clearEvent 59 = .ok (.iconst 4, 1) := dl_7 (by decide +kernel)
theorem dX12_clearEvent_60 : decode cX12_clearEvent 60 = .ok (.if_icmp .ge 26, 3) := dl_162 (by decide +kernel)
theorem dX12_clearEvent_86 : decode cX12_clearEvent 86 = .ok (.iinc 3 1, 3) := dl_132 (by decide +kernel)
theorem dX12_clearEvent_89 : decode cX12_clearEvent 89 = .ok (.goto (-73), 3) := dl_167 (by decide +kernel)
theorem dX12_clearEvent_63 : decode cX12_clearEvent 63 = .ok (.aload_n 0, 1) := dl_42 (by decide +kernel)
theorem dX12_clearEvent_64 : decode cX12_clearEvent 64 = .ok (.getfield 68, 3) := dl_180 (by decide +kernel)
theorem wf_X12_68 : Cond.fieldLink RX12 68 RX12 "heard" "[I" ∈ TB := tbm (tq5 (List.mem_of_getElem? (i := 108) (by decide +kernel))) (by decide +kernel)
theorem fg_X12_68 : FG RX12 68 12 30 := ⟨RX12, TX12, 45, uw_X12, wf_X12_68, rfl, by decide, rfl⟩
theorem dX12_clearEvent_67 : decode cX12_clearEvent 67 = .ok (.bipush 16, 2) := dl_16 (by decide +kernel)
theorem dX12_clearEvent_69 : decode cX12_clearEvent 69 = .ok (.iload_n 1, 1) := dl_27 (by decide +kernel)
theorem dX12_clearEvent_70 : decode cX12_clearEvent 70 = .ok (.imul, 1) := dl_104 (by decide +kernel)
theorem dX12_clearEvent_71 : decode cX12_clearEvent 71 = .ok (.iconst 4, 1) := dl_7 (by decide +kernel)
theorem dX12_clearEvent_72 : decode cX12_clearEvent 72 = .ok (.iload 4, 2) := dl_21 (by decide +kernel)
theorem dX12_clearEvent_74 : decode cX12_clearEvent 74 = .ok (.imul, 1) := dl_104 (by decide +kernel)
theorem dX12_clearEvent_75 : decode cX12_clearEvent 75 = .ok (.iadd, 1) := dl_96 (by decide +kernel)
theorem dX12_clearEvent_76 : decode cX12_clearEvent 76 = .ok (.iload_n 3, 1) := dl_29 (by decide +kernel)
theorem dX12_clearEvent_77 : decode cX12_clearEvent 77 = .ok (.iadd, 1) := dl_96 (by decide +kernel)
theorem dX12_clearEvent_78 : decode cX12_clearEvent 78 = .ok (.iconst 0, 1) := dl_3 (by decide +kernel)
theorem dX12_clearEvent_79 : decode cX12_clearEvent 79 = .ok (.iastore, 1) := dl_79 (by decide +kernel)
theorem dX12_clearEvent_80 : decode cX12_clearEvent 80 = .ok (.iinc 4 1, 3) := dl_132 (by decide +kernel)
theorem dX12_clearEvent_83 : decode cX12_clearEvent 83 = .ok (.goto (-26), 3) := dl_167 (by decide +kernel)
set_option maxRecDepth 100000 in
set_option maxHeartbeats 4000000 in
theorem r_clearEvent (l : Launch) (E : EV) (ro : va_W) (hm : Nat) (e : Nat) (n : Nat) (m_manys : Nat) (m_reals : Nat) (m_factsOf : Nat) (m_possible : Nat) (q_undos : Nat) (q_models : Nat) (m_tape : Nat) (q_taped : Nat) (q_fault : Int32) (q_wrong : Int32) (q_wrongAt : Int32) (q_spot : Int32) (q_place : Int32) (q_token : Int32) (q_value : Int32) (m_ends : Nat) (m_letters : Nat) (m_actOf : Nat) (m_whom : Nat) (m_actMany : Nat) (m_tokens : Nat) (m_afters : Nat) (m_afterOf : Nat) (q_counted : Int32) (m_pile : Nat) (m_caseMany : Nat) (m_happen : Nat) (m_hasIf : Nat) (m_becomes : Nat) (m_goneOf : Nat) (m_heard : Nat) (m_pairs : Nat) (m_heaps : Nat) (q_rounds : Int32) (q_heapMany : Int32) (m_led : Nat) (m_newAt : Nat) (m_knowing : Nat) (m_firsts : Nat) (q_people : Nat) (m_secrets : Nat) (m_tried : Nat) (m_lanes : Nat) (m_lengths : Nat) (m_cells : Nat) (f_caseMany : Nat → Int32) (f_happen : Nat → Int32) (f_hasIf : Nat → Int32) (f_becomes : Nat → Int32) (f_goneOf : Nat → Int32) (f_heard : Nat → Int32) (hb_caseMany : NB 4 4 f_caseMany) (hb_happen : NB 4 3 f_happen) (hhp : HP f_caseMany f_happen) (he : e < 4) (hn : n ≤ 4) (hn1 : 1 ≤ n) : CT l yX12_clearEvent (Cond.code yX12_clearEvent cX12_clearEvent 5 none :: TB) ({ frames := 0, cells := 0, slots := 0, locals := 0 }) E ro [.ref hm, .int (nI e), .int (nI n)] [(hm, .inr (12, [.ref m_manys, .ref m_reals, .ref m_factsOf, .ref m_possible, .int (nI q_undos), .int (nI q_models), .ref m_tape, .int (nI q_taped), .int q_fault, .int q_wrong, .int q_wrongAt, .int q_spot, .int q_place, .int q_token, .int q_value, .ref m_ends, .ref m_letters, .ref m_actOf, .ref m_whom, .ref m_actMany, .ref m_tokens, .ref m_afters, .ref m_afterOf, .int q_counted, .ref m_pile, .ref m_caseMany, .ref m_happen, .ref m_hasIf, .ref m_becomes, .ref m_goneOf, .ref m_heard, .ref m_pairs, .ref m_heaps, .int q_rounds, .int q_heapMany, .ref m_led, .ref m_newAt, .ref m_knowing, .ref m_firsts, .int (nI q_people), .ref m_secrets, .ref m_tried, .ref m_lanes, .ref m_lengths, .ref m_cells])), (m_caseMany, .inl (E.2.1 1, 4, .inl f_caseMany)), (m_happen, .inl (E.2.1 1, 4, .inl f_happen)), (m_hasIf, .inl (E.2.1 3, 16, .inl f_hasIf)), (m_becomes, .inl (E.2.1 1, 16, .inl f_becomes)), (m_goneOf, .inl (E.2.1 1, 16, .inl f_goneOf)), (m_heard, .inl (E.2.1 1, 64, .inl f_heard))] (Qv E (fun uz => (∃ (f_caseManyz : Nat → Int32) (f_happenz : Nat → Int32) (f_hasIfz : Nat → Int32) (f_becomesz : Nat → Int32) (f_goneOfz : Nat → Int32) (f_heardz : Nat → Int32), uz = [(hm, .inr (12, [.ref m_manys, .ref m_reals, .ref m_factsOf, .ref m_possible, .int (nI q_undos), .int (nI q_models), .ref m_tape, .int (nI q_taped), .int q_fault, .int q_wrong, .int q_wrongAt, .int q_spot, .int q_place, .int q_token, .int q_value, .ref m_ends, .ref m_letters, .ref m_actOf, .ref m_whom, .ref m_actMany, .ref m_tokens, .ref m_afters, .ref m_afterOf, .int q_counted, .ref m_pile, .ref m_caseMany, .ref m_happen, .ref m_hasIf, .ref m_becomes, .ref m_goneOf, .ref m_heard, .ref m_pairs, .ref m_heaps, .int q_rounds, .int q_heapMany, .ref m_led, .ref m_newAt, .ref m_knowing, .ref m_firsts, .int (nI q_people), .ref m_secrets, .ref m_tried, .ref m_lanes, .ref m_lengths, .ref m_cells])), (m_caseMany, .inl (E.2.1 1, 4, .inl f_caseManyz)), (m_happen, .inl (E.2.1 1, 4, .inl f_happenz)), (m_hasIf, .inl (E.2.1 3, 16, .inl f_hasIfz)), (m_becomes, .inl (E.2.1 1, 16, .inl f_becomesz)), (m_goneOf, .inl (E.2.1 1, 16, .inl f_goneOfz)), (m_heard, .inl (E.2.1 1, 64, .inl f_heardz))] ∧ (NB 4 4 f_caseManyz) ∧ (NB 4 3 f_happenz) ∧ (HP f_caseManyz f_happenz) ∧ (upd f_caseMany e (nI n) = f_caseManyz) ∧ (upd f_happen e (nI 0) = f_happenz) ∧ (HZ e 4 0 f_heard f_heardz) ∧ (Z4 e 4 f_hasIf f_hasIfz) ∧ (Z4 e 4 f_becomes f_becomesz) ∧ (Z4 e 4 f_goneOf f_goneOfz)))) 0 0 := by
  refine ct_of rfl rfl ?_
  intro X C hT hin hro
  show WW X 5 E 0 [(0, .ref hm), (1, .int (nI e)), (2, .int (nI n))] [] [(hm, .inr (12, [.ref m_manys, .ref m_reals, .ref m_factsOf, .ref m_possible, .int (nI q_undos), .int (nI q_models), .ref m_tape, .int (nI q_taped), .int q_fault, .int q_wrong, .int q_wrongAt, .int q_spot, .int q_place, .int q_token, .int q_value, .ref m_ends, .ref m_letters, .ref m_actOf, .ref m_whom, .ref m_actMany, .ref m_tokens, .ref m_afters, .ref m_afterOf, .int q_counted, .ref m_pile, .ref m_caseMany, .ref m_happen, .ref m_hasIf, .ref m_becomes, .ref m_goneOf, .ref m_heard, .ref m_pairs, .ref m_heaps, .int q_rounds, .int q_heapMany, .ref m_led, .ref m_newAt, .ref m_knowing, .ref m_firsts, .int (nI q_people), .ref m_secrets, .ref m_tried, .ref m_lanes, .ref m_lengths, .ref m_cells])), (m_caseMany, .inl (E.2.1 1, 4, .inl f_caseMany)), (m_happen, .inl (E.2.1 1, 4, .inl f_happen)), (m_hasIf, .inl (E.2.1 3, 16, .inl f_hasIf)), (m_becomes, .inl (E.2.1 1, 16, .inl f_becomes)), (m_goneOf, .inl (E.2.1 1, 16, .inl f_goneOf)), (m_heard, .inl (E.2.1 1, 64, .inl f_heard))] 0 0
  refine ww_aload_n C dX12_clearEvent_0 0 rfl rfl ?_
  refine ww_get C fg_X12_52 0 rfl rfl dX12_clearEvent_1 ?_
  refine ww_iload_n C dX12_clearEvent_4 1 rfl rfl ?_
  refine ww_iload_n C dX12_clearEvent_5 2 rfl rfl ?_
  obtain ⟨f_1, ef_1⟩ : ∃ z : Nat → Int32, upd f_caseMany e (nI n) = z := ⟨_, rfl⟩
  refine ww_iast (ws' := [(hm, .inr (12, [.ref m_manys, .ref m_reals, .ref m_factsOf, .ref m_possible, .int (nI q_undos), .int (nI q_models), .ref m_tape, .int (nI q_taped), .int q_fault, .int q_wrong, .int q_wrongAt, .int q_spot, .int q_place, .int q_token, .int q_value, .ref m_ends, .ref m_letters, .ref m_actOf, .ref m_whom, .ref m_actMany, .ref m_tokens, .ref m_afters, .ref m_afterOf, .int q_counted, .ref m_pile, .ref m_caseMany, .ref m_happen, .ref m_hasIf, .ref m_becomes, .ref m_goneOf, .ref m_heard, .ref m_pairs, .ref m_heaps, .int q_rounds, .int q_heapMany, .ref m_led, .ref m_newAt, .ref m_knowing, .ref m_firsts, .int (nI q_people), .ref m_secrets, .ref m_tried, .ref m_lanes, .ref m_lengths, .ref m_cells])), (m_caseMany, .inl (E.2.1 1, 4, .inl f_1)), (m_happen, .inl (E.2.1 1, 4, .inl f_happen)), (m_hasIf, .inl (E.2.1 3, 16, .inl f_hasIf)), (m_becomes, .inl (E.2.1 1, 16, .inl f_becomes)), (m_goneOf, .inl (E.2.1 1, 16, .inl f_goneOf)), (m_heard, .inl (E.2.1 1, 64, .inl f_heard))]) C 1 rfl (vp_in_nI (by omega) (by omega)) (ldn2 (by omega) ef_1) rfl dX12_clearEvent_6 ?_
  refine ww_aload_n C dX12_clearEvent_7 0 rfl rfl ?_
  refine ww_get C fg_X12_55 0 rfl rfl dX12_clearEvent_8 ?_
  refine ww_iload_n C dX12_clearEvent_11 1 rfl rfl ?_
  refine ww_iconst (v := 0) C dX12_clearEvent_12 rfl ?_
  obtain ⟨f_2, ef_2⟩ : ∃ z : Nat → Int32, upd f_happen e 0 = z := ⟨_, rfl⟩
  refine ww_iast (ws' := [(hm, .inr (12, [.ref m_manys, .ref m_reals, .ref m_factsOf, .ref m_possible, .int (nI q_undos), .int (nI q_models), .ref m_tape, .int (nI q_taped), .int q_fault, .int q_wrong, .int q_wrongAt, .int q_spot, .int q_place, .int q_token, .int q_value, .ref m_ends, .ref m_letters, .ref m_actOf, .ref m_whom, .ref m_actMany, .ref m_tokens, .ref m_afters, .ref m_afterOf, .int q_counted, .ref m_pile, .ref m_caseMany, .ref m_happen, .ref m_hasIf, .ref m_becomes, .ref m_goneOf, .ref m_heard, .ref m_pairs, .ref m_heaps, .int q_rounds, .int q_heapMany, .ref m_led, .ref m_newAt, .ref m_knowing, .ref m_firsts, .int (nI q_people), .ref m_secrets, .ref m_tried, .ref m_lanes, .ref m_lengths, .ref m_cells])), (m_caseMany, .inl (E.2.1 1, 4, .inl f_1)), (m_happen, .inl (E.2.1 1, 4, .inl f_2)), (m_hasIf, .inl (E.2.1 3, 16, .inl f_hasIf)), (m_becomes, .inl (E.2.1 1, 16, .inl f_becomes)), (m_goneOf, .inl (E.2.1 1, 16, .inl f_goneOf)), (m_heard, .inl (E.2.1 1, 64, .inl f_heard))]) C 2 rfl (vp_in_nI (by omega) (by omega)) (ldn2 (by omega) ef_2) rfl dX12_clearEvent_13 ?_
  refine ww_iconst (v := 0) C dX12_clearEvent_14 rfl ?_
  refine ww_istore_n (lv' := [(3, .int 0), (0, .ref hm), (1, .int (nI e)), (2, .int (nI n))]) C dX12_clearEvent_15 rfl rfl rfl ?_
  have loop_16 : ∀ (fu : Nat) (i1 : Nat) (g1 : Nat → Int32) (g2 : Nat → Int32) (g3 : Nat → Int32) (g4 : Nat → Int32), (i1 ≤ 4) → (HZ e i1 0 f_heard g4) → (Z4 e i1 f_hasIf g1) → (Z4 e i1 f_becomes g2) → (Z4 e i1 f_goneOf g3) → 4 - i1 < fu → WW X 5 E 16 [(3, .int (nI i1)), (0, .ref hm), (1, .int (nI e)), (2, .int (nI n))] [] [(hm, .inr (12, [.ref m_manys, .ref m_reals, .ref m_factsOf, .ref m_possible, .int (nI q_undos), .int (nI q_models), .ref m_tape, .int (nI q_taped), .int q_fault, .int q_wrong, .int q_wrongAt, .int q_spot, .int q_place, .int q_token, .int q_value, .ref m_ends, .ref m_letters, .ref m_actOf, .ref m_whom, .ref m_actMany, .ref m_tokens, .ref m_afters, .ref m_afterOf, .int q_counted, .ref m_pile, .ref m_caseMany, .ref m_happen, .ref m_hasIf, .ref m_becomes, .ref m_goneOf, .ref m_heard, .ref m_pairs, .ref m_heaps, .int q_rounds, .int q_heapMany, .ref m_led, .ref m_newAt, .ref m_knowing, .ref m_firsts, .int (nI q_people), .ref m_secrets, .ref m_tried, .ref m_lanes, .ref m_lengths, .ref m_cells])), (m_caseMany, .inl (E.2.1 1, 4, .inl f_1)), (m_happen, .inl (E.2.1 1, 4, .inl f_2)), (m_hasIf, .inl (E.2.1 3, 16, .inl g1)), (m_becomes, .inl (E.2.1 1, 16, .inl g2)), (m_goneOf, .inl (E.2.1 1, 16, .inl g3)), (m_heard, .inl (E.2.1 1, 64, .inl g4))] 0 0 := by
    intro fu
    induction fu with
    | zero => intro i1 g1 g2 g3 g4 hi1 hhz hz_hasIf hz_becomes hz_goneOf hmeas; exact absurd hmeas (Nat.not_lt_zero _)
    | succ fu ih_16 =>
      intro i1 g1 g2 g3 g4 hi1 hhz hz_hasIf hz_becomes hz_goneOf hmeas
      refine ww_iload_n C dX12_clearEvent_16 0 rfl rfl ?_
      refine ww_iconst (v := 4) C dX12_clearEvent_17 rfl ?_
      refine ww_icmp_ge (tgt := 92) C dX12_clearEvent_18 (by decide) (fun c_3 => ?_) (fun c_3 => ?_)
      · have zc_3 : ((i1 : Nat) : Int) ≥ 4 := i_le rfl (nI_toInt (n := i1) (by omega)) c_3
        exact ww_vret (u := [(hm, .inr (12, [.ref m_manys, .ref m_reals, .ref m_factsOf, .ref m_possible, .int (nI q_undos), .int (nI q_models), .ref m_tape, .int (nI q_taped), .int q_fault, .int q_wrong, .int q_wrongAt, .int q_spot, .int q_place, .int q_token, .int q_value, .ref m_ends, .ref m_letters, .ref m_actOf, .ref m_whom, .ref m_actMany, .ref m_tokens, .ref m_afters, .ref m_afterOf, .int q_counted, .ref m_pile, .ref m_caseMany, .ref m_happen, .ref m_hasIf, .ref m_becomes, .ref m_goneOf, .ref m_heard, .ref m_pairs, .ref m_heaps, .int q_rounds, .int q_heapMany, .ref m_led, .ref m_newAt, .ref m_knowing, .ref m_firsts, .int (nI q_people), .ref m_secrets, .ref m_tried, .ref m_lanes, .ref m_lengths, .ref m_cells])), (m_caseMany, .inl (E.2.1 1, 4, .inl f_1)), (m_happen, .inl (E.2.1 1, 4, .inl f_2)), (m_hasIf, .inl (E.2.1 3, 16, .inl g1)), (m_becomes, .inl (E.2.1 1, 16, .inl g2)), (m_goneOf, .inl (E.2.1 1, 16, .inl g3)), (m_heard, .inl (E.2.1 1, 64, .inl g4))]) C hT [0, 1, 2, 3, 4, 5, 6] rfl rfl rfl rfl dX12_clearEvent_92 (⟨f_1, f_2, g1, g2, g3, g4, rfl, (NB.put hb_caseMany (t := n) (by omega) (by decide) ef_1), (NB.put hb_happen (t := 0) (by omega) (by decide) ef_2), (HP.put (a := n) (b := 0) hhp ef_1 ef_2 (by omega) (by omega) (by omega)), ef_1, ef_2, (by rw [show (4 : Nat) = i1 by omega]; exact hhz), (by have h9 : i1 = 4 := (by omega); rw [h9] at hz_hasIf; exact hz_hasIf), (by have h9 : i1 = 4 := (by omega); rw [h9] at hz_becomes; exact hz_becomes), (by have h9 : i1 = 4 := (by omega); rw [h9] at hz_goneOf; exact hz_goneOf)⟩)
      · have zc_3 : ((i1 : Nat) : Int) < 4 := i_nle rfl (nI_toInt (n := i1) (by omega)) c_3
        refine ww_aload_n C dX12_clearEvent_21 1 rfl rfl ?_
        refine ww_get C fg_X12_58 0 rfl rfl dX12_clearEvent_22 ?_
        refine ww_iconst (v := 4) C dX12_clearEvent_25 rfl ?_
        refine ww_iload_n C dX12_clearEvent_26 2 rfl rfl ?_
        refine ww_imul (v := (nI (4 * e))) C dX12_clearEvent_27 (pk_mul 4 e) ?_
        refine ww_iload_n C dX12_clearEvent_28 0 rfl rfl ?_
        refine ww_iadd (v := (nI ((4 * e) + i1))) C dX12_clearEvent_29 (nI_add (4 * e) i1) ?_
        refine ww_iconst (v := 0) C dX12_clearEvent_30 rfl ?_
        obtain ⟨f_4, ef_4⟩ : ∃ z : Nat → Int32, upd g1 ((4 * e) + i1) (vp_nar .boolean 0) = z := ⟨_, rfl⟩
        refine ww_zast (ws' := [(hm, .inr (12, [.ref m_manys, .ref m_reals, .ref m_factsOf, .ref m_possible, .int (nI q_undos), .int (nI q_models), .ref m_tape, .int (nI q_taped), .int q_fault, .int q_wrong, .int q_wrongAt, .int q_spot, .int q_place, .int q_token, .int q_value, .ref m_ends, .ref m_letters, .ref m_actOf, .ref m_whom, .ref m_actMany, .ref m_tokens, .ref m_afters, .ref m_afterOf, .int q_counted, .ref m_pile, .ref m_caseMany, .ref m_happen, .ref m_hasIf, .ref m_becomes, .ref m_goneOf, .ref m_heard, .ref m_pairs, .ref m_heaps, .int q_rounds, .int q_heapMany, .ref m_led, .ref m_newAt, .ref m_knowing, .ref m_firsts, .int (nI q_people), .ref m_secrets, .ref m_tried, .ref m_lanes, .ref m_lengths, .ref m_cells])), (m_caseMany, .inl (E.2.1 1, 4, .inl f_1)), (m_happen, .inl (E.2.1 1, 4, .inl f_2)), (m_hasIf, .inl (E.2.1 3, 16, .inl f_4)), (m_becomes, .inl (E.2.1 1, 16, .inl g2)), (m_goneOf, .inl (E.2.1 1, 16, .inl g3)), (m_heard, .inl (E.2.1 1, 64, .inl g4))]) C 3 rfl (vp_in_nI (by omega) (by omega)) (ldn2 (by omega) ef_4) rfl dX12_clearEvent_31 ?_
        refine ww_aload_n C dX12_clearEvent_32 1 rfl rfl ?_
        refine ww_get C fg_X12_62 0 rfl rfl dX12_clearEvent_33 ?_
        refine ww_iconst (v := 4) C dX12_clearEvent_36 rfl ?_
        refine ww_iload_n C dX12_clearEvent_37 2 rfl rfl ?_
        refine ww_imul (v := (nI (4 * e))) C dX12_clearEvent_38 (pk_mul 4 e) ?_
        refine ww_iload_n C dX12_clearEvent_39 0 rfl rfl ?_
        refine ww_iadd (v := (nI ((4 * e) + i1))) C dX12_clearEvent_40 (nI_add (4 * e) i1) ?_
        refine ww_iconst (v := 0) C dX12_clearEvent_41 rfl ?_
        obtain ⟨f_5, ef_5⟩ : ∃ z : Nat → Int32, upd g2 ((4 * e) + i1) 0 = z := ⟨_, rfl⟩
        refine ww_iast (ws' := [(hm, .inr (12, [.ref m_manys, .ref m_reals, .ref m_factsOf, .ref m_possible, .int (nI q_undos), .int (nI q_models), .ref m_tape, .int (nI q_taped), .int q_fault, .int q_wrong, .int q_wrongAt, .int q_spot, .int q_place, .int q_token, .int q_value, .ref m_ends, .ref m_letters, .ref m_actOf, .ref m_whom, .ref m_actMany, .ref m_tokens, .ref m_afters, .ref m_afterOf, .int q_counted, .ref m_pile, .ref m_caseMany, .ref m_happen, .ref m_hasIf, .ref m_becomes, .ref m_goneOf, .ref m_heard, .ref m_pairs, .ref m_heaps, .int q_rounds, .int q_heapMany, .ref m_led, .ref m_newAt, .ref m_knowing, .ref m_firsts, .int (nI q_people), .ref m_secrets, .ref m_tried, .ref m_lanes, .ref m_lengths, .ref m_cells])), (m_caseMany, .inl (E.2.1 1, 4, .inl f_1)), (m_happen, .inl (E.2.1 1, 4, .inl f_2)), (m_hasIf, .inl (E.2.1 3, 16, .inl f_4)), (m_becomes, .inl (E.2.1 1, 16, .inl f_5)), (m_goneOf, .inl (E.2.1 1, 16, .inl g3)), (m_heard, .inl (E.2.1 1, 64, .inl g4))]) C 4 rfl (vp_in_nI (by omega) (by omega)) (ldn2 (by omega) ef_5) rfl dX12_clearEvent_42 ?_
        refine ww_aload_n C dX12_clearEvent_43 1 rfl rfl ?_
        refine ww_get C fg_X12_65 0 rfl rfl dX12_clearEvent_44 ?_
        refine ww_iconst (v := 4) C dX12_clearEvent_47 rfl ?_
        refine ww_iload_n C dX12_clearEvent_48 2 rfl rfl ?_
        refine ww_imul (v := (nI (4 * e))) C dX12_clearEvent_49 (pk_mul 4 e) ?_
        refine ww_iload_n C dX12_clearEvent_50 0 rfl rfl ?_
        refine ww_iadd (v := (nI ((4 * e) + i1))) C dX12_clearEvent_51 (nI_add (4 * e) i1) ?_
        refine ww_iconst (v := 0) C dX12_clearEvent_52 rfl ?_
        obtain ⟨f_6, ef_6⟩ : ∃ z : Nat → Int32, upd g3 ((4 * e) + i1) 0 = z := ⟨_, rfl⟩
        refine ww_iast (ws' := [(hm, .inr (12, [.ref m_manys, .ref m_reals, .ref m_factsOf, .ref m_possible, .int (nI q_undos), .int (nI q_models), .ref m_tape, .int (nI q_taped), .int q_fault, .int q_wrong, .int q_wrongAt, .int q_spot, .int q_place, .int q_token, .int q_value, .ref m_ends, .ref m_letters, .ref m_actOf, .ref m_whom, .ref m_actMany, .ref m_tokens, .ref m_afters, .ref m_afterOf, .int q_counted, .ref m_pile, .ref m_caseMany, .ref m_happen, .ref m_hasIf, .ref m_becomes, .ref m_goneOf, .ref m_heard, .ref m_pairs, .ref m_heaps, .int q_rounds, .int q_heapMany, .ref m_led, .ref m_newAt, .ref m_knowing, .ref m_firsts, .int (nI q_people), .ref m_secrets, .ref m_tried, .ref m_lanes, .ref m_lengths, .ref m_cells])), (m_caseMany, .inl (E.2.1 1, 4, .inl f_1)), (m_happen, .inl (E.2.1 1, 4, .inl f_2)), (m_hasIf, .inl (E.2.1 3, 16, .inl f_4)), (m_becomes, .inl (E.2.1 1, 16, .inl f_5)), (m_goneOf, .inl (E.2.1 1, 16, .inl f_6)), (m_heard, .inl (E.2.1 1, 64, .inl g4))]) C 5 rfl (vp_in_nI (by omega) (by omega)) (ldn2 (by omega) ef_6) rfl dX12_clearEvent_53 ?_
        refine ww_iconst (v := 0) C dX12_clearEvent_54 rfl ?_
        refine ww_istore (lv' := [(4, .int 0), (3, .int (nI i1)), (0, .ref hm), (1, .int (nI e)), (2, .int (nI n))]) C dX12_clearEvent_55 rfl rfl ?_
        have loop_57 : ∀ (fu : Nat) (i2 : Nat) (g5 : Nat → Int32), (i2 ≤ 4) → (HZ e i1 i2 f_heard g5) → 4 - i2 < fu → WW X 5 E 57 [(4, .int (nI i2)), (3, .int (nI i1)), (0, .ref hm), (1, .int (nI e)), (2, .int (nI n))] [] [(hm, .inr (12, [.ref m_manys, .ref m_reals, .ref m_factsOf, .ref m_possible, .int (nI q_undos), .int (nI q_models), .ref m_tape, .int (nI q_taped), .int q_fault, .int q_wrong, .int q_wrongAt, .int q_spot, .int q_place, .int q_token, .int q_value, .ref m_ends, .ref m_letters, .ref m_actOf, .ref m_whom, .ref m_actMany, .ref m_tokens, .ref m_afters, .ref m_afterOf, .int q_counted, .ref m_pile, .ref m_caseMany, .ref m_happen, .ref m_hasIf, .ref m_becomes, .ref m_goneOf, .ref m_heard, .ref m_pairs, .ref m_heaps, .int q_rounds, .int q_heapMany, .ref m_led, .ref m_newAt, .ref m_knowing, .ref m_firsts, .int (nI q_people), .ref m_secrets, .ref m_tried, .ref m_lanes, .ref m_lengths, .ref m_cells])), (m_caseMany, .inl (E.2.1 1, 4, .inl f_1)), (m_happen, .inl (E.2.1 1, 4, .inl f_2)), (m_hasIf, .inl (E.2.1 3, 16, .inl f_4)), (m_becomes, .inl (E.2.1 1, 16, .inl f_5)), (m_goneOf, .inl (E.2.1 1, 16, .inl f_6)), (m_heard, .inl (E.2.1 1, 64, .inl g5))] 0 0 := by
          intro fu
          induction fu with
          | zero => intro i2 g5 hi2 hhz2 hmeas; exact absurd hmeas (Nat.not_lt_zero _)
          | succ fu ih_57 =>
            intro i2 g5 hi2 hhz2 hmeas
            refine ww_iload C dX12_clearEvent_57 0 rfl ?_
            refine ww_iconst (v := 4) C dX12_clearEvent_59 rfl ?_
            refine ww_icmp_ge (tgt := 86) C dX12_clearEvent_60 (by decide) (fun c_7 => ?_) (fun c_7 => ?_)
            · have zc_7 : ((i2 : Nat) : Int) ≥ 4 := i_le rfl (nI_toInt (n := i2) (by omega)) c_7
              refine ww_iinc (j := 1) (v := (nI (i1 + 1))) (lv' := [(3, .int (nI (i1 + 1))), (4, .int (nI i2)), (0, .ref hm), (1, .int (nI e)), (2, .int (nI n))]) C dX12_clearEvent_86 rfl (nI_add i1 1) rfl rfl ?_
              refine ww_goto (tgt := 16) C dX12_clearEvent_89 (by decide) ?_
              exact ww_lv [0, 2, 3, 4] rfl (ww_sub [0, 1, 2, 3, 4, 5, 6] rfl rfl (ih_16 (i1 + 1) f_4 f_5 f_6 g5 (by omega) (HZ.up (by rw [show (4 : Nat) = i2 by omega]; exact hhz2)) (Z4.ext hz_hasIf (by omega) (up_b0 ef_4)) (Z4.ext hz_becomes (by omega) ef_5) (Z4.ext hz_goneOf (by omega) ef_6) (by omega)))
            · have zc_7 : ((i2 : Nat) : Int) < 4 := i_nle rfl (nI_toInt (n := i2) (by omega)) c_7
              refine ww_aload_n C dX12_clearEvent_63 2 rfl rfl ?_
              refine ww_get C fg_X12_68 0 rfl rfl dX12_clearEvent_64 ?_
              refine ww_bipush (v := 16) C dX12_clearEvent_67 rfl ?_
              refine ww_iload_n C dX12_clearEvent_69 3 rfl rfl ?_
              refine ww_imul (v := (nI (16 * e))) C dX12_clearEvent_70 (pk_mul 16 e) ?_
              refine ww_iconst (v := 4) C dX12_clearEvent_71 rfl ?_
              refine ww_iload C dX12_clearEvent_72 0 rfl ?_
              refine ww_imul (v := (nI (4 * i2))) C dX12_clearEvent_74 (pk_mul 4 i2) ?_
              refine ww_iadd (v := (nI ((16 * e) + (4 * i2)))) C dX12_clearEvent_75 (nI_add (16 * e) (4 * i2)) ?_
              refine ww_iload_n C dX12_clearEvent_76 1 rfl rfl ?_
              refine ww_iadd (v := (nI (((16 * e) + (4 * i2)) + i1))) C dX12_clearEvent_77 (nI_add ((16 * e) + (4 * i2)) i1) ?_
              refine ww_iconst (v := 0) C dX12_clearEvent_78 rfl ?_
              obtain ⟨f_8, ef_8⟩ : ∃ z : Nat → Int32, upd g5 (((16 * e) + (4 * i2)) + i1) 0 = z := ⟨_, rfl⟩
              refine ww_iast (ws' := [(hm, .inr (12, [.ref m_manys, .ref m_reals, .ref m_factsOf, .ref m_possible, .int (nI q_undos), .int (nI q_models), .ref m_tape, .int (nI q_taped), .int q_fault, .int q_wrong, .int q_wrongAt, .int q_spot, .int q_place, .int q_token, .int q_value, .ref m_ends, .ref m_letters, .ref m_actOf, .ref m_whom, .ref m_actMany, .ref m_tokens, .ref m_afters, .ref m_afterOf, .int q_counted, .ref m_pile, .ref m_caseMany, .ref m_happen, .ref m_hasIf, .ref m_becomes, .ref m_goneOf, .ref m_heard, .ref m_pairs, .ref m_heaps, .int q_rounds, .int q_heapMany, .ref m_led, .ref m_newAt, .ref m_knowing, .ref m_firsts, .int (nI q_people), .ref m_secrets, .ref m_tried, .ref m_lanes, .ref m_lengths, .ref m_cells])), (m_caseMany, .inl (E.2.1 1, 4, .inl f_1)), (m_happen, .inl (E.2.1 1, 4, .inl f_2)), (m_hasIf, .inl (E.2.1 3, 16, .inl f_4)), (m_becomes, .inl (E.2.1 1, 16, .inl f_5)), (m_goneOf, .inl (E.2.1 1, 16, .inl f_6)), (m_heard, .inl (E.2.1 1, 64, .inl f_8))]) C 6 rfl (vp_in_nI (by omega) (by omega)) (ldn2 (by omega) ef_8) rfl dX12_clearEvent_79 ?_
              refine ww_iinc (j := 0) (v := (nI (i2 + 1))) (lv' := [(4, .int (nI (i2 + 1))), (3, .int (nI i1)), (0, .ref hm), (1, .int (nI e)), (2, .int (nI n))]) C dX12_clearEvent_80 rfl (nI_add i2 1) rfl rfl ?_
              refine ww_goto (tgt := 57) C dX12_clearEvent_83 (by decide) ?_
              exact ww_lv [0, 1, 2, 3, 4] rfl (ww_sub [0, 1, 2, 3, 4, 5, 6] rfl rfl (ih_57 (i2 + 1) f_8 (by omega) (HZ.ext hhz2 (by omega) (by omega) ef_8) (by omega)))
        exact ww_lv [0, 1, 2, 3, 4] rfl (ww_sub [0, 1, 2, 3, 4, 5, 6] rfl rfl (loop_57 _ 0 g4 (by omega) hhz (Nat.lt_succ_self _)))
  exact ww_lv [0, 1, 2, 3] rfl (ww_sub [0, 1, 2, 3, 4, 5, 6] rfl rfl (loop_16 _ 0 f_hasIf f_becomes f_goneOf f_heard (by omega) HZ.nil Z4.nil Z4.nil Z4.nil (Nat.lt_succ_self _)))
theorem dX12_event_0 : decode cX12_event 0 = .ok (.iload_n 1, 1) := dl_27 (by decide +kernel)
theorem dX12_event_1 : decode cX12_event 1 = .ok (.i2l, 1) := dl_133 (by decide +kernel)
theorem dX12_event_2 : decode cX12_event 2 = .ok (.lconst 0, 1) := dl_9 (by decide +kernel)
theorem dX12_event_3 : decode cX12_event 3 = .ok (.ldc2_w 113, 3) := dl_20 (by decide +kernel)
theorem dX12_event_6 : decode cX12_event 6 = .ok (.invokestatic 115, 3) := dl_184 (by decide +kernel)
theorem dX12_event_9 : decode cX12_event 9 = .ok (.ifCond .eq 15, 3) := dl_153 (by decide +kernel)
theorem dX12_event_12 : decode cX12_event 12 = .ok (.iload_n 2, 1) := dl_28 (by decide +kernel)
theorem dX12_event_13 : decode cX12_event 13 = .ok (.i2l, 1) := dl_133 (by decide +kernel)
theorem dX12_event_14 : decode cX12_event 14 = .ok (.lconst 1, 1) := dl_10 (by decide +kernel)
theorem dX12_event_15 : decode cX12_event 15 = .ok (.ldc2_w 149, 3) := dl_20 (by decide +kernel)
theorem dX12_event_18 : decode cX12_event 18 = .ok (.invokestatic 115, 3) := dl_184 (by decide +kernel)
theorem dX12_event_21 : decode cX12_event 21 = .ok (.ifCond .ne 5, 3) := dl_154 (by decide +kernel)
theorem dX12_event_26 : decode cX12_event 26 = .ok (.aload_n 0, 1) := dl_42 (by decide +kernel)
theorem dX12_event_27 : decode cX12_event 27 = .ok (.iload_n 1, 1) := dl_27 (by decide +kernel)
theorem dX12_event_28 : decode cX12_event 28 = .ok (.iload_n 2, 1) := dl_28 (by decide +kernel)
theorem dX12_event_29 : decode cX12_event 29 = .ok (.invokevirtual 240, 3) := dl_182 (by decide +kernel)
theorem wl_X12_240 : Cond.methodLink RX12 240 yX12_clearEvent ∈ TB := tbm (tq6 (List.mem_of_getElem? (i := 117) (by decide +kernel))) (by decide +kernel)
theorem wc_X12_clearEvent : Cond.code yX12_clearEvent cX12_clearEvent 5 none ∈ TB := tbm (tq6 (List.mem_of_getElem? (i := 120) (rfl))) (by decide +kernel)
theorem wi_X12_clearEvent : Cond.instanceMethod yX12_clearEvent ∈ TB := tbm (tq6 (List.mem_of_getElem? (i := 119) (by decide +kernel))) (by decide +kernel)
theorem ws_X12_clearEvent : Cond.selects RX12 yX12_clearEvent yX12_clearEvent ∈ TB := tbm (tq0 (List.mem_of_getElem? (i := 54) (by decide +kernel))) (by decide +kernel)
theorem mi_X12_clearEvent : MI yX12_clearEvent cX12_clearEvent 5 none 2 := ⟨wc_X12_clearEvent, wn_X12, ⟨by decide +kernel, by decide +kernel, by decide +kernel⟩, wi_X12_clearEvent, ws_X12_clearEvent⟩
theorem dX12_event_32 : decode cX12_event 32 = .ok (.iconst 1, 1) := dl_4 (by decide +kernel)
theorem dX12_event_33 : decode cX12_event 33 = .ok (.ireturn, 1) := dl_172 (by decide +kernel)
theorem dX12_event_24 : decode cX12_event 24 = .ok (.iconst (-1), 1) := dl_2 (by decide +kernel)
theorem dX12_event_25 : decode cX12_event 25 = .ok (.ireturn, 1) := dl_172 (by decide +kernel)
set_option maxRecDepth 100000 in
set_option maxHeartbeats 4000000 in
theorem y_event (l : Launch) (E : EV) (ro : va_W) (hm : Nat) (v0 : Int32) (v1 : Int32) (m_manys : Nat) (m_reals : Nat) (m_factsOf : Nat) (m_possible : Nat) (q_undos : Nat) (q_models : Nat) (m_tape : Nat) (q_taped : Nat) (q_fault : Int32) (q_wrong : Int32) (q_wrongAt : Int32) (q_spot : Int32) (q_place : Int32) (q_token : Int32) (q_value : Int32) (m_ends : Nat) (m_letters : Nat) (m_actOf : Nat) (m_whom : Nat) (m_actMany : Nat) (m_tokens : Nat) (m_afters : Nat) (m_afterOf : Nat) (q_counted : Int32) (m_pile : Nat) (m_caseMany : Nat) (m_happen : Nat) (m_hasIf : Nat) (m_becomes : Nat) (m_goneOf : Nat) (m_heard : Nat) (m_pairs : Nat) (m_heaps : Nat) (q_rounds : Int32) (q_heapMany : Int32) (m_led : Nat) (m_newAt : Nat) (m_knowing : Nat) (m_firsts : Nat) (q_people : Nat) (m_secrets : Nat) (m_tried : Nat) (m_lanes : Nat) (m_lengths : Nat) (m_cells : Nat) (f_caseMany : Nat → Int32) (f_happen : Nat → Int32) (f_hasIf : Nat → Int32) (f_becomes : Nat → Int32) (f_goneOf : Nat → Int32) (f_heard : Nat → Int32) (hb_caseMany : NB 4 4 f_caseMany) (hb_happen : NB 4 3 f_happen) (hhp : HP f_caseMany f_happen) : CT l yX12_event (Cond.code yX12_event cX12_event 3 (some .int) :: TB) ({ frames := 1, cells := 0, slots := 0, locals := 25 }) E ro [.ref hm, .int v0, .int v1] [(hm, .inr (12, [.ref m_manys, .ref m_reals, .ref m_factsOf, .ref m_possible, .int (nI q_undos), .int (nI q_models), .ref m_tape, .int (nI q_taped), .int q_fault, .int q_wrong, .int q_wrongAt, .int q_spot, .int q_place, .int q_token, .int q_value, .ref m_ends, .ref m_letters, .ref m_actOf, .ref m_whom, .ref m_actMany, .ref m_tokens, .ref m_afters, .ref m_afterOf, .int q_counted, .ref m_pile, .ref m_caseMany, .ref m_happen, .ref m_hasIf, .ref m_becomes, .ref m_goneOf, .ref m_heard, .ref m_pairs, .ref m_heaps, .int q_rounds, .int q_heapMany, .ref m_led, .ref m_newAt, .ref m_knowing, .ref m_firsts, .int (nI q_people), .ref m_secrets, .ref m_tried, .ref m_lanes, .ref m_lengths, .ref m_cells])), (m_caseMany, .inl (E.2.1 1, 4, .inl f_caseMany)), (m_happen, .inl (E.2.1 1, 4, .inl f_happen)), (m_hasIf, .inl (E.2.1 3, 16, .inl f_hasIf)), (m_becomes, .inl (E.2.1 1, 16, .inl f_becomes)), (m_goneOf, .inl (E.2.1 1, 16, .inl f_goneOf)), (m_heard, .inl (E.2.1 1, 64, .inl f_heard))] (Qi E (fun (rz : Int32) uz => (rz = (-1) ∧ uz = [(hm, .inr (12, [.ref m_manys, .ref m_reals, .ref m_factsOf, .ref m_possible, .int (nI q_undos), .int (nI q_models), .ref m_tape, .int (nI q_taped), .int q_fault, .int q_wrong, .int q_wrongAt, .int q_spot, .int q_place, .int q_token, .int q_value, .ref m_ends, .ref m_letters, .ref m_actOf, .ref m_whom, .ref m_actMany, .ref m_tokens, .ref m_afters, .ref m_afterOf, .int q_counted, .ref m_pile, .ref m_caseMany, .ref m_happen, .ref m_hasIf, .ref m_becomes, .ref m_goneOf, .ref m_heard, .ref m_pairs, .ref m_heaps, .int q_rounds, .int q_heapMany, .ref m_led, .ref m_newAt, .ref m_knowing, .ref m_firsts, .int (nI q_people), .ref m_secrets, .ref m_tried, .ref m_lanes, .ref m_lengths, .ref m_cells])), (m_caseMany, .inl (E.2.1 1, 4, .inl f_caseMany)), (m_happen, .inl (E.2.1 1, 4, .inl f_happen)), (m_hasIf, .inl (E.2.1 3, 16, .inl f_hasIf)), (m_becomes, .inl (E.2.1 1, 16, .inl f_becomes)), (m_goneOf, .inl (E.2.1 1, 16, .inl f_goneOf)), (m_heard, .inl (E.2.1 1, 64, .inl f_heard))] ∧ (v0.toInt < 0 ∨ 3 < v0.toInt ∨ v1.toInt < 1 ∨ 4 < v1.toInt)) ∨ (∃ (k_ : Nat) (n_ : Nat) (f_caseManyz : Nat → Int32) (f_happenz : Nat → Int32) (f_hasIfz : Nat → Int32) (f_becomesz : Nat → Int32) (f_goneOfz : Nat → Int32) (f_heardz : Nat → Int32), rz = 1 ∧ uz = [(hm, .inr (12, [.ref m_manys, .ref m_reals, .ref m_factsOf, .ref m_possible, .int (nI q_undos), .int (nI q_models), .ref m_tape, .int (nI q_taped), .int q_fault, .int q_wrong, .int q_wrongAt, .int q_spot, .int q_place, .int q_token, .int q_value, .ref m_ends, .ref m_letters, .ref m_actOf, .ref m_whom, .ref m_actMany, .ref m_tokens, .ref m_afters, .ref m_afterOf, .int q_counted, .ref m_pile, .ref m_caseMany, .ref m_happen, .ref m_hasIf, .ref m_becomes, .ref m_goneOf, .ref m_heard, .ref m_pairs, .ref m_heaps, .int q_rounds, .int q_heapMany, .ref m_led, .ref m_newAt, .ref m_knowing, .ref m_firsts, .int (nI q_people), .ref m_secrets, .ref m_tried, .ref m_lanes, .ref m_lengths, .ref m_cells])), (m_caseMany, .inl (E.2.1 1, 4, .inl f_caseManyz)), (m_happen, .inl (E.2.1 1, 4, .inl f_happenz)), (m_hasIf, .inl (E.2.1 3, 16, .inl f_hasIfz)), (m_becomes, .inl (E.2.1 1, 16, .inl f_becomesz)), (m_goneOf, .inl (E.2.1 1, 16, .inl f_goneOfz)), (m_heard, .inl (E.2.1 1, 64, .inl f_heardz))] ∧ (NB 4 4 f_caseManyz) ∧ (NB 4 3 f_happenz) ∧ (HP f_caseManyz f_happenz) ∧ (v0 = nI k_) ∧ (v1 = nI n_) ∧ (k_ ≤ 3) ∧ (1 ≤ n_ ∧ n_ ≤ 4) ∧ (upd f_caseMany k_ (nI n_) = f_caseManyz) ∧ (upd f_happen k_ (nI 0) = f_happenz) ∧ (HZ k_ 4 0 f_heard f_heardz) ∧ (Z4 k_ 4 f_hasIf f_hasIfz) ∧ (Z4 k_ 4 f_becomes f_becomesz) ∧ (Z4 k_ 4 f_goneOf f_goneOfz)))) 0 0 := by
  refine ct_of rfl rfl ?_
  intro X C hT hin hro
  show WW X 3 E 0 [(0, .ref hm), (1, .int v0), (2, .int v1)] [] [(hm, .inr (12, [.ref m_manys, .ref m_reals, .ref m_factsOf, .ref m_possible, .int (nI q_undos), .int (nI q_models), .ref m_tape, .int (nI q_taped), .int q_fault, .int q_wrong, .int q_wrongAt, .int q_spot, .int q_place, .int q_token, .int q_value, .ref m_ends, .ref m_letters, .ref m_actOf, .ref m_whom, .ref m_actMany, .ref m_tokens, .ref m_afters, .ref m_afterOf, .int q_counted, .ref m_pile, .ref m_caseMany, .ref m_happen, .ref m_hasIf, .ref m_becomes, .ref m_goneOf, .ref m_heard, .ref m_pairs, .ref m_heaps, .int q_rounds, .int q_heapMany, .ref m_led, .ref m_newAt, .ref m_knowing, .ref m_firsts, .int (nI q_people), .ref m_secrets, .ref m_tried, .ref m_lanes, .ref m_lengths, .ref m_cells])), (m_caseMany, .inl (E.2.1 1, 4, .inl f_caseMany)), (m_happen, .inl (E.2.1 1, 4, .inl f_happen)), (m_hasIf, .inl (E.2.1 3, 16, .inl f_hasIf)), (m_becomes, .inl (E.2.1 1, 16, .inl f_becomes)), (m_goneOf, .inl (E.2.1 1, 16, .inl f_goneOf)), (m_heard, .inl (E.2.1 1, 64, .inl f_heard))] 0 0
  refine ww_iload_n C dX12_event_0 1 rfl rfl ?_
  refine ww_i2l (v := v0.toInt64) C dX12_event_1 rfl ?_
  refine ww_lconst (v := 0) C dX12_event_2 rfl ?_
  refine ww_ldc2 C wv_X12_113 dX12_event_3 ?_
  refine ww_ci (wr := [(hm, .inr (12, [.ref m_manys, .ref m_reals, .ref m_factsOf, .ref m_possible, .int (nI q_undos), .int (nI q_models), .ref m_tape, .int (nI q_taped), .int q_fault, .int q_wrong, .int q_wrongAt, .int q_spot, .int q_place, .int q_token, .int q_value, .ref m_ends, .ref m_letters, .ref m_actOf, .ref m_whom, .ref m_actMany, .ref m_tokens, .ref m_afters, .ref m_afterOf, .int q_counted, .ref m_pile, .ref m_caseMany, .ref m_happen, .ref m_hasIf, .ref m_becomes, .ref m_goneOf, .ref m_heard, .ref m_pairs, .ref m_heaps, .int q_rounds, .int q_heapMany, .ref m_led, .ref m_newAt, .ref m_knowing, .ref m_firsts, .int (nI q_people), .ref m_secrets, .ref m_tried, .ref m_lanes, .ref m_lengths, .ref m_cells])), (m_caseMany, .inl (E.2.1 1, 4, .inl f_caseMany)), (m_happen, .inl (E.2.1 1, 4, .inl f_happen)), (m_hasIf, .inl (E.2.1 3, 16, .inl f_hasIf)), (m_becomes, .inl (E.2.1 1, 16, .inl f_becomes)), (m_goneOf, .inl (E.2.1 1, 16, .inl f_goneOf)), (m_heard, .inl (E.2.1 1, 64, .inl f_heard))]) (k' := 0) (n' := 0) C (run_S (As := [.long v0.toInt64, .long 0, .long 3]) (rest := []) C (r_in X.2.1 E ro v0.toInt64 0 3 v0.toInt 0 3 (Int32.toInt_toInt64 _) rfl rfl) ms_X12_in wl_X12_115 rfl rfl rfl rfl dX12_event_6) (roK hro) [] [0, 1, 2, 3, 4, 5, 6] rfl rfl (plk (by decide +kernel)) rfl (fun r_1 uz hw => ?_)
  rcases hw with hw | hw
  · refine an3 hw ?_
    clear hw
    intro he_4 he_5 h_2 hw
    have h_3 := hw
    clear hw
    have he_4 := he_4.symm
    subst he_4
    subst he_5
    refine ww_eq (ws' := [(hm, .inr (12, [.ref m_manys, .ref m_reals, .ref m_factsOf, .ref m_possible, .int (nI q_undos), .int (nI q_models), .ref m_tape, .int (nI q_taped), .int q_fault, .int q_wrong, .int q_wrongAt, .int q_spot, .int q_place, .int q_token, .int q_value, .ref m_ends, .ref m_letters, .ref m_actOf, .ref m_whom, .ref m_actMany, .ref m_tokens, .ref m_afters, .ref m_afterOf, .int q_counted, .ref m_pile, .ref m_caseMany, .ref m_happen, .ref m_hasIf, .ref m_becomes, .ref m_goneOf, .ref m_heard, .ref m_pairs, .ref m_heaps, .int q_rounds, .int q_heapMany, .ref m_led, .ref m_newAt, .ref m_knowing, .ref m_firsts, .int (nI q_people), .ref m_secrets, .ref m_tried, .ref m_lanes, .ref m_lengths, .ref m_cells])), (m_caseMany, .inl (E.2.1 1, 4, .inl f_caseMany)), (m_happen, .inl (E.2.1 1, 4, .inl f_happen)), (m_hasIf, .inl (E.2.1 3, 16, .inl f_hasIf)), (m_becomes, .inl (E.2.1 1, 16, .inl f_becomes)), (m_goneOf, .inl (E.2.1 1, 16, .inl f_goneOf)), (m_heard, .inl (E.2.1 1, 64, .inl f_heard))]) ?_ rfl rfl rfl
    refine ww_if_eq_f (tgt := 24) C dX12_event_9 (by decide) (by decide) ?_
    refine ww_iload_n C dX12_event_12 2 rfl rfl ?_
    refine ww_i2l (v := v1.toInt64) C dX12_event_13 rfl ?_
    refine ww_lconst (v := 1) C dX12_event_14 rfl ?_
    refine ww_ldc2 C wv_X12_149 dX12_event_15 ?_
    refine ww_ci (wr := [(hm, .inr (12, [.ref m_manys, .ref m_reals, .ref m_factsOf, .ref m_possible, .int (nI q_undos), .int (nI q_models), .ref m_tape, .int (nI q_taped), .int q_fault, .int q_wrong, .int q_wrongAt, .int q_spot, .int q_place, .int q_token, .int q_value, .ref m_ends, .ref m_letters, .ref m_actOf, .ref m_whom, .ref m_actMany, .ref m_tokens, .ref m_afters, .ref m_afterOf, .int q_counted, .ref m_pile, .ref m_caseMany, .ref m_happen, .ref m_hasIf, .ref m_becomes, .ref m_goneOf, .ref m_heard, .ref m_pairs, .ref m_heaps, .int q_rounds, .int q_heapMany, .ref m_led, .ref m_newAt, .ref m_knowing, .ref m_firsts, .int (nI q_people), .ref m_secrets, .ref m_tried, .ref m_lanes, .ref m_lengths, .ref m_cells])), (m_caseMany, .inl (E.2.1 1, 4, .inl f_caseMany)), (m_happen, .inl (E.2.1 1, 4, .inl f_happen)), (m_hasIf, .inl (E.2.1 3, 16, .inl f_hasIf)), (m_becomes, .inl (E.2.1 1, 16, .inl f_becomes)), (m_goneOf, .inl (E.2.1 1, 16, .inl f_goneOf)), (m_heard, .inl (E.2.1 1, 64, .inl f_heard))]) (k' := 0) (n' := 0) C (run_S (As := [.long v1.toInt64, .long 1, .long 4]) (rest := []) C (r_in X.2.1 E ro v1.toInt64 1 4 v1.toInt 1 4 (Int32.toInt_toInt64 _) rfl rfl) ms_X12_in wl_X12_115 rfl rfl rfl rfl dX12_event_18) (roK hro) [] [0, 1, 2, 3, 4, 5, 6] rfl rfl (plk (by decide +kernel)) rfl (fun r_9 uz hw => ?_)
    rcases hw with hw | hw
    · refine an3 hw ?_
      clear hw
      intro he_12 he_13 h_10 hw
      have h_11 := hw
      clear hw
      have he_12 := he_12.symm
      subst he_12
      subst he_13
      refine ww_eq (ws' := [(hm, .inr (12, [.ref m_manys, .ref m_reals, .ref m_factsOf, .ref m_possible, .int (nI q_undos), .int (nI q_models), .ref m_tape, .int (nI q_taped), .int q_fault, .int q_wrong, .int q_wrongAt, .int q_spot, .int q_place, .int q_token, .int q_value, .ref m_ends, .ref m_letters, .ref m_actOf, .ref m_whom, .ref m_actMany, .ref m_tokens, .ref m_afters, .ref m_afterOf, .int q_counted, .ref m_pile, .ref m_caseMany, .ref m_happen, .ref m_hasIf, .ref m_becomes, .ref m_goneOf, .ref m_heard, .ref m_pairs, .ref m_heaps, .int q_rounds, .int q_heapMany, .ref m_led, .ref m_newAt, .ref m_knowing, .ref m_firsts, .int (nI q_people), .ref m_secrets, .ref m_tried, .ref m_lanes, .ref m_lengths, .ref m_cells])), (m_caseMany, .inl (E.2.1 1, 4, .inl f_caseMany)), (m_happen, .inl (E.2.1 1, 4, .inl f_happen)), (m_hasIf, .inl (E.2.1 3, 16, .inl f_hasIf)), (m_becomes, .inl (E.2.1 1, 16, .inl f_becomes)), (m_goneOf, .inl (E.2.1 1, 16, .inl f_goneOf)), (m_heard, .inl (E.2.1 1, 64, .inl f_heard))]) ?_ rfl rfl rfl
      refine ww_if_ne_t (tgt := 26) C dX12_event_21 (by decide) (by decide) ?_
      obtain ⟨j_17, hj_17, rfl⟩ := i_nat (x := v0) (N := 3) (by omega) (by omega)
      have hzj_17 := nI_toInt (n := j_17) (by omega)
      obtain ⟨j_18, hj_18, rfl⟩ := i_nat (x := v1) (N := 4) (by omega) (by omega)
      have hzj_18 := nI_toInt (n := j_18) (by omega)
      refine ww_aload_n C dX12_event_26 0 rfl rfl ?_
      refine ww_iload_n C dX12_event_27 1 rfl rfl ?_
      refine ww_iload_n C dX12_event_28 2 rfl rfl ?_
      refine ww_cv (wr := []) (k' := 0) (n' := 0) C (run_V (As := [.int (nI j_17), .int (nI j_18)]) (rest := []) C (r_clearEvent X.2.1 E ro hm j_17 j_18 m_manys m_reals m_factsOf m_possible q_undos q_models m_tape q_taped q_fault q_wrong q_wrongAt q_spot q_place q_token q_value m_ends m_letters m_actOf m_whom m_actMany m_tokens m_afters m_afterOf q_counted m_pile m_caseMany m_happen m_hasIf m_becomes m_goneOf m_heard m_pairs m_heaps q_rounds q_heapMany m_led m_newAt m_knowing m_firsts q_people m_secrets m_tried m_lanes m_lengths m_cells f_caseMany f_happen f_hasIf f_becomes f_goneOf f_heard hb_caseMany hb_happen hhp (by omega) (by omega) (by omega)) mi_X12_clearEvent wl_X12_240 rfl 0 12 rfl rfl rfl rfl rfl dX12_event_29) (roK hro) [0, 1, 2, 3, 4, 5, 6] [] rfl rfl (plk (by decide +kernel)) rfl (fun uz hw => ?_)
      refine ex6 hw ?_
      clear hw
      intro f_caseManyz_20 f_happenz_21 f_hasIfz_22 f_becomesz_23 f_goneOfz_24 f_heardz_25 hw
      refine an8 hw ?_
      clear hw
      intro he_35 h_26 h_27 h_28 h_29 h_30 h_31 h_32 hw
      refine an1 hw ?_
      clear hw
      intro h_33 hw
      have h_34 := hw
      clear hw
      subst he_35
      refine ww_eq (ws' := [(hm, .inr (12, [.ref m_manys, .ref m_reals, .ref m_factsOf, .ref m_possible, .int (nI q_undos), .int (nI q_models), .ref m_tape, .int (nI q_taped), .int q_fault, .int q_wrong, .int q_wrongAt, .int q_spot, .int q_place, .int q_token, .int q_value, .ref m_ends, .ref m_letters, .ref m_actOf, .ref m_whom, .ref m_actMany, .ref m_tokens, .ref m_afters, .ref m_afterOf, .int q_counted, .ref m_pile, .ref m_caseMany, .ref m_happen, .ref m_hasIf, .ref m_becomes, .ref m_goneOf, .ref m_heard, .ref m_pairs, .ref m_heaps, .int q_rounds, .int q_heapMany, .ref m_led, .ref m_newAt, .ref m_knowing, .ref m_firsts, .int (nI q_people), .ref m_secrets, .ref m_tried, .ref m_lanes, .ref m_lengths, .ref m_cells])), (m_caseMany, .inl (E.2.1 1, 4, .inl f_caseManyz_20)), (m_happen, .inl (E.2.1 1, 4, .inl f_happenz_21)), (m_hasIf, .inl (E.2.1 3, 16, .inl f_hasIfz_22)), (m_becomes, .inl (E.2.1 1, 16, .inl f_becomesz_23)), (m_goneOf, .inl (E.2.1 1, 16, .inl f_goneOfz_24)), (m_heard, .inl (E.2.1 1, 64, .inl f_heardz_25))]) ?_ rfl rfl rfl
      refine ww_iconst (v := 1) C dX12_event_32 rfl ?_
      exact ww_iret (u := [(hm, .inr (12, [.ref m_manys, .ref m_reals, .ref m_factsOf, .ref m_possible, .int (nI q_undos), .int (nI q_models), .ref m_tape, .int (nI q_taped), .int q_fault, .int q_wrong, .int q_wrongAt, .int q_spot, .int q_place, .int q_token, .int q_value, .ref m_ends, .ref m_letters, .ref m_actOf, .ref m_whom, .ref m_actMany, .ref m_tokens, .ref m_afters, .ref m_afterOf, .int q_counted, .ref m_pile, .ref m_caseMany, .ref m_happen, .ref m_hasIf, .ref m_becomes, .ref m_goneOf, .ref m_heard, .ref m_pairs, .ref m_heaps, .int q_rounds, .int q_heapMany, .ref m_led, .ref m_newAt, .ref m_knowing, .ref m_firsts, .int (nI q_people), .ref m_secrets, .ref m_tried, .ref m_lanes, .ref m_lengths, .ref m_cells])), (m_caseMany, .inl (E.2.1 1, 4, .inl f_caseManyz_20)), (m_happen, .inl (E.2.1 1, 4, .inl f_happenz_21)), (m_hasIf, .inl (E.2.1 3, 16, .inl f_hasIfz_22)), (m_becomes, .inl (E.2.1 1, 16, .inl f_becomesz_23)), (m_goneOf, .inl (E.2.1 1, 16, .inl f_goneOfz_24)), (m_heard, .inl (E.2.1 1, 64, .inl f_heardz_25))]) C hT [0, 1, 2, 3, 4, 5, 6] rfl rfl rfl rfl dX12_event_33 (Or.inr ⟨j_17, j_18, f_caseManyz_20, f_happenz_21, f_hasIfz_22, f_becomesz_23, f_goneOfz_24, f_heardz_25, rfl, rfl, h_26, h_27, h_28, rfl, rfl, (by omega), (by omega), h_29, h_30, h_31, h_32, h_33, h_34⟩)
    · refine an2 hw ?_
      clear hw
      intro he_15 he_16 hw
      have h_14 := hw
      clear hw
      have he_15 := he_15.symm
      subst he_15
      subst he_16
      refine ww_eq (ws' := [(hm, .inr (12, [.ref m_manys, .ref m_reals, .ref m_factsOf, .ref m_possible, .int (nI q_undos), .int (nI q_models), .ref m_tape, .int (nI q_taped), .int q_fault, .int q_wrong, .int q_wrongAt, .int q_spot, .int q_place, .int q_token, .int q_value, .ref m_ends, .ref m_letters, .ref m_actOf, .ref m_whom, .ref m_actMany, .ref m_tokens, .ref m_afters, .ref m_afterOf, .int q_counted, .ref m_pile, .ref m_caseMany, .ref m_happen, .ref m_hasIf, .ref m_becomes, .ref m_goneOf, .ref m_heard, .ref m_pairs, .ref m_heaps, .int q_rounds, .int q_heapMany, .ref m_led, .ref m_newAt, .ref m_knowing, .ref m_firsts, .int (nI q_people), .ref m_secrets, .ref m_tried, .ref m_lanes, .ref m_lengths, .ref m_cells])), (m_caseMany, .inl (E.2.1 1, 4, .inl f_caseMany)), (m_happen, .inl (E.2.1 1, 4, .inl f_happen)), (m_hasIf, .inl (E.2.1 3, 16, .inl f_hasIf)), (m_becomes, .inl (E.2.1 1, 16, .inl f_becomes)), (m_goneOf, .inl (E.2.1 1, 16, .inl f_goneOf)), (m_heard, .inl (E.2.1 1, 64, .inl f_heard))]) ?_ rfl rfl rfl
      refine ww_if_ne_f (tgt := 26) C dX12_event_21 (by decide) (rfl) ?_
      refine ww_iconst (v := (-1)) C dX12_event_24 rfl ?_
      exact ww_iret (u := [(hm, .inr (12, [.ref m_manys, .ref m_reals, .ref m_factsOf, .ref m_possible, .int (nI q_undos), .int (nI q_models), .ref m_tape, .int (nI q_taped), .int q_fault, .int q_wrong, .int q_wrongAt, .int q_spot, .int q_place, .int q_token, .int q_value, .ref m_ends, .ref m_letters, .ref m_actOf, .ref m_whom, .ref m_actMany, .ref m_tokens, .ref m_afters, .ref m_afterOf, .int q_counted, .ref m_pile, .ref m_caseMany, .ref m_happen, .ref m_hasIf, .ref m_becomes, .ref m_goneOf, .ref m_heard, .ref m_pairs, .ref m_heaps, .int q_rounds, .int q_heapMany, .ref m_led, .ref m_newAt, .ref m_knowing, .ref m_firsts, .int (nI q_people), .ref m_secrets, .ref m_tried, .ref m_lanes, .ref m_lengths, .ref m_cells])), (m_caseMany, .inl (E.2.1 1, 4, .inl f_caseMany)), (m_happen, .inl (E.2.1 1, 4, .inl f_happen)), (m_hasIf, .inl (E.2.1 3, 16, .inl f_hasIf)), (m_becomes, .inl (E.2.1 1, 16, .inl f_becomes)), (m_goneOf, .inl (E.2.1 1, 16, .inl f_goneOf)), (m_heard, .inl (E.2.1 1, 64, .inl f_heard))]) C hT [0, 1, 2, 3, 4, 5, 6] rfl rfl rfl rfl dX12_event_25 (Or.inl ⟨rfl, rfl, (by first | assumption | omega | decide)⟩)
  · refine an2 hw ?_
    clear hw
    intro he_7 he_8 hw
    have h_6 := hw
    clear hw
    have he_7 := he_7.symm
    subst he_7
    subst he_8
    refine ww_eq (ws' := [(hm, .inr (12, [.ref m_manys, .ref m_reals, .ref m_factsOf, .ref m_possible, .int (nI q_undos), .int (nI q_models), .ref m_tape, .int (nI q_taped), .int q_fault, .int q_wrong, .int q_wrongAt, .int q_spot, .int q_place, .int q_token, .int q_value, .ref m_ends, .ref m_letters, .ref m_actOf, .ref m_whom, .ref m_actMany, .ref m_tokens, .ref m_afters, .ref m_afterOf, .int q_counted, .ref m_pile, .ref m_caseMany, .ref m_happen, .ref m_hasIf, .ref m_becomes, .ref m_goneOf, .ref m_heard, .ref m_pairs, .ref m_heaps, .int q_rounds, .int q_heapMany, .ref m_led, .ref m_newAt, .ref m_knowing, .ref m_firsts, .int (nI q_people), .ref m_secrets, .ref m_tried, .ref m_lanes, .ref m_lengths, .ref m_cells])), (m_caseMany, .inl (E.2.1 1, 4, .inl f_caseMany)), (m_happen, .inl (E.2.1 1, 4, .inl f_happen)), (m_hasIf, .inl (E.2.1 3, 16, .inl f_hasIf)), (m_becomes, .inl (E.2.1 1, 16, .inl f_becomes)), (m_goneOf, .inl (E.2.1 1, 16, .inl f_goneOf)), (m_heard, .inl (E.2.1 1, 64, .inl f_heard))]) ?_ rfl rfl rfl
    refine ww_if_eq_t (tgt := 24) C dX12_event_9 (by decide) (rfl) ?_
    refine ww_iconst (v := (-1)) C dX12_event_24 rfl ?_
    exact ww_iret (u := [(hm, .inr (12, [.ref m_manys, .ref m_reals, .ref m_factsOf, .ref m_possible, .int (nI q_undos), .int (nI q_models), .ref m_tape, .int (nI q_taped), .int q_fault, .int q_wrong, .int q_wrongAt, .int q_spot, .int q_place, .int q_token, .int q_value, .ref m_ends, .ref m_letters, .ref m_actOf, .ref m_whom, .ref m_actMany, .ref m_tokens, .ref m_afters, .ref m_afterOf, .int q_counted, .ref m_pile, .ref m_caseMany, .ref m_happen, .ref m_hasIf, .ref m_becomes, .ref m_goneOf, .ref m_heard, .ref m_pairs, .ref m_heaps, .int q_rounds, .int q_heapMany, .ref m_led, .ref m_newAt, .ref m_knowing, .ref m_firsts, .int (nI q_people), .ref m_secrets, .ref m_tried, .ref m_lanes, .ref m_lengths, .ref m_cells])), (m_caseMany, .inl (E.2.1 1, 4, .inl f_caseMany)), (m_happen, .inl (E.2.1 1, 4, .inl f_happen)), (m_hasIf, .inl (E.2.1 3, 16, .inl f_hasIf)), (m_becomes, .inl (E.2.1 1, 16, .inl f_becomes)), (m_goneOf, .inl (E.2.1 1, 16, .inl f_goneOf)), (m_heard, .inl (E.2.1 1, 64, .inl f_heard))]) C hT [0, 1, 2, 3, 4, 5, 6] rfl rfl rfl rfl dX12_event_25 (Or.inl ⟨rfl, rfl, (by first | assumption | omega | decide)⟩)
theorem dX12_isPlain_0 : decode cX12_isPlain 0 = .ok (.aload_n 0, 1) := dl_42 (by decide +kernel)
theorem dX12_isPlain_1 : decode cX12_isPlain 1 = .ok (.iload_n 1, 1) := dl_27 (by decide +kernel)
theorem dX12_isPlain_2 : decode cX12_isPlain 2 = .ok (.invokevirtual 224, 3) := dl_182 (by decide +kernel)
theorem wl_X12_224 : Cond.methodLink RX12 224 yX12_isSaying ∈ TB := tbm (tq6 (List.mem_of_getElem? (i := 105) (by decide +kernel))) (by decide +kernel)
theorem wc_X12_isSaying : Cond.code yX12_isSaying cX12_isSaying 2 (some .boolean) ∈ TB := tbm (tq6 (List.mem_of_getElem? (i := 108) (rfl))) (by decide +kernel)
theorem wi_X12_isSaying : Cond.instanceMethod yX12_isSaying ∈ TB := tbm (tq6 (List.mem_of_getElem? (i := 107) (by decide +kernel))) (by decide +kernel)
theorem ws_X12_isSaying : Cond.selects RX12 yX12_isSaying yX12_isSaying ∈ TB := tbm (tq0 (List.mem_of_getElem? (i := 52) (by decide +kernel))) (by decide +kernel)
theorem mi_X12_isSaying : MI yX12_isSaying cX12_isSaying 2 (some .boolean) 1 := ⟨wc_X12_isSaying, wn_X12, ⟨by decide +kernel, by decide +kernel, by decide +kernel⟩, wi_X12_isSaying, ws_X12_isSaying⟩
theorem dX12_isPlain_5 : decode cX12_isPlain 5 = .ok (.ifCond .eq 16, 3) := dl_153 (by decide +kernel)
theorem dX12_isPlain_8 : decode cX12_isPlain 8 = .ok (.aload_n 0, 1) := dl_42 (by decide +kernel)
theorem dX12_isPlain_9 : decode cX12_isPlain 9 = .ok (.getfield 43, 3) := dl_180 (by decide +kernel)
theorem dX12_isPlain_12 : decode cX12_isPlain 12 = .ok (.iload_n 1, 1) := dl_27 (by decide +kernel)
theorem dX12_isPlain_13 : decode cX12_isPlain 13 = .ok (.iaload, 1) := dl_46 (by decide +kernel)
theorem dX12_isPlain_14 : decode cX12_isPlain 14 = .ok (.ifCond .ne 7, 3) := dl_154 (by decide +kernel)
theorem dX12_isPlain_21 : decode cX12_isPlain 21 = .ok (.iconst 0, 1) := dl_3 (by decide +kernel)
theorem dX12_isPlain_22 : decode cX12_isPlain 22 = .ok (.ireturn, 1) := dl_172 (by decide +kernel)
theorem dX12_isPlain_17 : decode cX12_isPlain 17 = .ok (.iconst 1, 1) := dl_4 (by decide +kernel)
theorem dX12_isPlain_18 : decode cX12_isPlain 18 = .ok (.goto 4, 3) := dl_167 (by decide +kernel)
set_option maxRecDepth 100000 in
set_option maxHeartbeats 4000000 in
theorem r_isPlain (l : Launch) (E : EV) (ro : va_W) (hm : Nat) (k : Int32) (m_manys : Nat) (m_reals : Nat) (m_factsOf : Nat) (m_possible : Nat) (q_undos : Nat) (q_models : Nat) (m_tape : Nat) (q_taped : Nat) (q_fault : Int32) (q_wrong : Int32) (q_wrongAt : Int32) (q_spot : Int32) (q_place : Int32) (q_token : Int32) (q_value : Int32) (m_ends : Nat) (m_letters : Nat) (m_actOf : Nat) (m_whom : Nat) (m_actMany : Nat) (m_tokens : Nat) (m_afters : Nat) (m_afterOf : Nat) (q_counted : Int32) (m_pile : Nat) (m_caseMany : Nat) (m_happen : Nat) (m_hasIf : Nat) (m_becomes : Nat) (m_goneOf : Nat) (m_heard : Nat) (m_pairs : Nat) (m_heaps : Nat) (q_rounds : Int32) (q_heapMany : Int32) (m_led : Nat) (m_newAt : Nat) (m_knowing : Nat) (m_firsts : Nat) (q_people : Nat) (m_secrets : Nat) (m_tried : Nat) (m_lanes : Nat) (m_lengths : Nat) (m_cells : Nat) (f_tokens : Nat → Int32) (f_afters : Nat → Int32) (hb_afters : NB 9 2 f_afters) : CT l yX12_isPlain (Cond.code yX12_isPlain cX12_isPlain 2 (some .boolean) :: TB) ({ frames := 2, cells := 0, slots := 0, locals := 46 }) E ro [.ref hm, .int k] [(hm, .inr (12, [.ref m_manys, .ref m_reals, .ref m_factsOf, .ref m_possible, .int (nI q_undos), .int (nI q_models), .ref m_tape, .int (nI q_taped), .int q_fault, .int q_wrong, .int q_wrongAt, .int q_spot, .int q_place, .int q_token, .int q_value, .ref m_ends, .ref m_letters, .ref m_actOf, .ref m_whom, .ref m_actMany, .ref m_tokens, .ref m_afters, .ref m_afterOf, .int q_counted, .ref m_pile, .ref m_caseMany, .ref m_happen, .ref m_hasIf, .ref m_becomes, .ref m_goneOf, .ref m_heard, .ref m_pairs, .ref m_heaps, .int q_rounds, .int q_heapMany, .ref m_led, .ref m_newAt, .ref m_knowing, .ref m_firsts, .int (nI q_people), .ref m_secrets, .ref m_tried, .ref m_lanes, .ref m_lengths, .ref m_cells])), (m_tokens, .inl (E.2.1 1, 9, .inl f_tokens)), (m_afters, .inl (E.2.1 1, 9, .inl f_afters))] (Qi E (fun (rz : Int32) uz => (rz = 1 ∧ uz = [(hm, .inr (12, [.ref m_manys, .ref m_reals, .ref m_factsOf, .ref m_possible, .int (nI q_undos), .int (nI q_models), .ref m_tape, .int (nI q_taped), .int q_fault, .int q_wrong, .int q_wrongAt, .int q_spot, .int q_place, .int q_token, .int q_value, .ref m_ends, .ref m_letters, .ref m_actOf, .ref m_whom, .ref m_actMany, .ref m_tokens, .ref m_afters, .ref m_afterOf, .int q_counted, .ref m_pile, .ref m_caseMany, .ref m_happen, .ref m_hasIf, .ref m_becomes, .ref m_goneOf, .ref m_heard, .ref m_pairs, .ref m_heaps, .int q_rounds, .int q_heapMany, .ref m_led, .ref m_newAt, .ref m_knowing, .ref m_firsts, .int (nI q_people), .ref m_secrets, .ref m_tried, .ref m_lanes, .ref m_lengths, .ref m_cells])), (m_tokens, .inl (E.2.1 1, 9, .inl f_tokens)), (m_afters, .inl (E.2.1 1, 9, .inl f_afters))] ∧ (0 ≤ k.toInt) ∧ (k.toInt ≤ 7) ∧ (PLN (tRr f_tokens f_afters) k)) ∨ (rz = 0 ∧ uz = [(hm, .inr (12, [.ref m_manys, .ref m_reals, .ref m_factsOf, .ref m_possible, .int (nI q_undos), .int (nI q_models), .ref m_tape, .int (nI q_taped), .int q_fault, .int q_wrong, .int q_wrongAt, .int q_spot, .int q_place, .int q_token, .int q_value, .ref m_ends, .ref m_letters, .ref m_actOf, .ref m_whom, .ref m_actMany, .ref m_tokens, .ref m_afters, .ref m_afterOf, .int q_counted, .ref m_pile, .ref m_caseMany, .ref m_happen, .ref m_hasIf, .ref m_becomes, .ref m_goneOf, .ref m_heard, .ref m_pairs, .ref m_heaps, .int q_rounds, .int q_heapMany, .ref m_led, .ref m_newAt, .ref m_knowing, .ref m_firsts, .int (nI q_people), .ref m_secrets, .ref m_tried, .ref m_lanes, .ref m_lengths, .ref m_cells])), (m_tokens, .inl (E.2.1 1, 9, .inl f_tokens)), (m_afters, .inl (E.2.1 1, 9, .inl f_afters))] ∧ (¬ PLN (tRr f_tokens f_afters) k)))) 0 0 := by
  refine ct_of rfl rfl ?_
  intro X C hT hin hro
  show WW X 2 E 0 [(0, .ref hm), (1, .int k)] [] [(hm, .inr (12, [.ref m_manys, .ref m_reals, .ref m_factsOf, .ref m_possible, .int (nI q_undos), .int (nI q_models), .ref m_tape, .int (nI q_taped), .int q_fault, .int q_wrong, .int q_wrongAt, .int q_spot, .int q_place, .int q_token, .int q_value, .ref m_ends, .ref m_letters, .ref m_actOf, .ref m_whom, .ref m_actMany, .ref m_tokens, .ref m_afters, .ref m_afterOf, .int q_counted, .ref m_pile, .ref m_caseMany, .ref m_happen, .ref m_hasIf, .ref m_becomes, .ref m_goneOf, .ref m_heard, .ref m_pairs, .ref m_heaps, .int q_rounds, .int q_heapMany, .ref m_led, .ref m_newAt, .ref m_knowing, .ref m_firsts, .int (nI q_people), .ref m_secrets, .ref m_tried, .ref m_lanes, .ref m_lengths, .ref m_cells])), (m_tokens, .inl (E.2.1 1, 9, .inl f_tokens)), (m_afters, .inl (E.2.1 1, 9, .inl f_afters))] 0 0
  refine ww_aload_n C dX12_isPlain_0 0 rfl rfl ?_
  refine ww_iload_n C dX12_isPlain_1 1 rfl rfl ?_
  refine ww_ci (wr := [(m_afters, .inl (E.2.1 1, 9, .inl f_afters))]) (k' := 0) (n' := 0) C (run_V (As := [.int k]) (rest := []) C (r_isSaying X.2.1 E ro hm k m_manys m_reals m_factsOf m_possible q_undos q_models m_tape q_taped q_fault q_wrong q_wrongAt q_spot q_place q_token q_value m_ends m_letters m_actOf m_whom m_actMany m_tokens m_afters m_afterOf q_counted m_pile m_caseMany m_happen m_hasIf m_becomes m_goneOf m_heard m_pairs m_heaps q_rounds q_heapMany m_led m_newAt m_knowing m_firsts q_people m_secrets m_tried m_lanes m_lengths m_cells f_tokens) mi_X12_isSaying wl_X12_224 rfl 0 12 rfl rfl rfl rfl rfl dX12_isPlain_2) (roK hro) [0, 1] [2] rfl rfl rfl rfl (fun r_1 uz hw => ?_)
  rcases hw with hw | hw
  · refine an4 hw ?_
    clear hw
    intro he_5 he_6 h_2 h_3 hw
    have h_4 := hw
    clear hw
    have he_5 := he_5.symm
    subst he_5
    subst he_6
    refine ww_eq (ws' := [(m_afters, .inl (E.2.1 1, 9, .inl f_afters)), (hm, .inr (12, [.ref m_manys, .ref m_reals, .ref m_factsOf, .ref m_possible, .int (nI q_undos), .int (nI q_models), .ref m_tape, .int (nI q_taped), .int q_fault, .int q_wrong, .int q_wrongAt, .int q_spot, .int q_place, .int q_token, .int q_value, .ref m_ends, .ref m_letters, .ref m_actOf, .ref m_whom, .ref m_actMany, .ref m_tokens, .ref m_afters, .ref m_afterOf, .int q_counted, .ref m_pile, .ref m_caseMany, .ref m_happen, .ref m_hasIf, .ref m_becomes, .ref m_goneOf, .ref m_heard, .ref m_pairs, .ref m_heaps, .int q_rounds, .int q_heapMany, .ref m_led, .ref m_newAt, .ref m_knowing, .ref m_firsts, .int (nI q_people), .ref m_secrets, .ref m_tried, .ref m_lanes, .ref m_lengths, .ref m_cells])), (m_tokens, .inl (E.2.1 1, 9, .inl f_tokens))]) ?_ rfl rfl rfl
    refine ww_if_eq_f (tgt := 21) C dX12_isPlain_5 (by decide) (by decide) ?_
    obtain ⟨j_10, hj_10, rfl⟩ := i_nat (x := k) (N := 7) (by omega) (by omega)
    have hzj_10 := nI_toInt (n := j_10) (by omega)
    refine ww_aload_n C dX12_isPlain_8 0 rfl rfl ?_
    refine ww_get C fg_X12_43 1 rfl rfl dX12_isPlain_9 ?_
    refine ww_iload_n C dX12_isPlain_12 1 rfl rfl ?_
    have hbx_11 := (hb_afters j_10 (by omega)).2
    refine ww_iald (v := (nI (cN f_afters j_10))) C 0 rfl (vp_in_nI (by omega) (by omega)) (ldn (by omega) (hb_afters j_10 (by omega)).1) dX12_isPlain_13 ?_
    refine ww_if_ne (tgt := 21) C dX12_isPlain_14 (by decide) (fun c_12 => ?_) (fun c_12 => ?_)
    · have zc_12 : ((cN f_afters j_10 : Nat) : Int) ≠ 0 := i_ne (nI_toInt (n := cN f_afters j_10) (by omega)) rfl c_12
      refine ww_iconst (v := 0) C dX12_isPlain_21 rfl ?_
      exact ww_zret (u := [(hm, .inr (12, [.ref m_manys, .ref m_reals, .ref m_factsOf, .ref m_possible, .int (nI q_undos), .int (nI q_models), .ref m_tape, .int (nI q_taped), .int q_fault, .int q_wrong, .int q_wrongAt, .int q_spot, .int q_place, .int q_token, .int q_value, .ref m_ends, .ref m_letters, .ref m_actOf, .ref m_whom, .ref m_actMany, .ref m_tokens, .ref m_afters, .ref m_afterOf, .int q_counted, .ref m_pile, .ref m_caseMany, .ref m_happen, .ref m_hasIf, .ref m_becomes, .ref m_goneOf, .ref m_heard, .ref m_pairs, .ref m_heaps, .int q_rounds, .int q_heapMany, .ref m_led, .ref m_newAt, .ref m_knowing, .ref m_firsts, .int (nI q_people), .ref m_secrets, .ref m_tried, .ref m_lanes, .ref m_lengths, .ref m_cells])), (m_tokens, .inl (E.2.1 1, 9, .inl f_tokens)), (m_afters, .inl (E.2.1 1, 9, .inl f_afters))]) C hT [1, 2, 0] rfl rfl rfl rfl rfl dX12_isPlain_22 (Or.inr ⟨rfl, rfl, (PLN.rno3 (by omega) (by omega))⟩)
    · have zc_12 : ((cN f_afters j_10 : Nat) : Int) = 0 := i_eq (nI_toInt (n := cN f_afters j_10) (by omega)) rfl c_12
      refine ww_iconst (v := 1) C dX12_isPlain_17 rfl ?_
      refine ww_goto (tgt := 22) C dX12_isPlain_18 (by decide) ?_
      exact ww_zret (u := [(hm, .inr (12, [.ref m_manys, .ref m_reals, .ref m_factsOf, .ref m_possible, .int (nI q_undos), .int (nI q_models), .ref m_tape, .int (nI q_taped), .int q_fault, .int q_wrong, .int q_wrongAt, .int q_spot, .int q_place, .int q_token, .int q_value, .ref m_ends, .ref m_letters, .ref m_actOf, .ref m_whom, .ref m_actMany, .ref m_tokens, .ref m_afters, .ref m_afterOf, .int q_counted, .ref m_pile, .ref m_caseMany, .ref m_happen, .ref m_hasIf, .ref m_becomes, .ref m_goneOf, .ref m_heard, .ref m_pairs, .ref m_heaps, .int q_rounds, .int q_heapMany, .ref m_led, .ref m_newAt, .ref m_knowing, .ref m_firsts, .int (nI q_people), .ref m_secrets, .ref m_tried, .ref m_lanes, .ref m_lengths, .ref m_cells])), (m_tokens, .inl (E.2.1 1, 9, .inl f_tokens)), (m_afters, .inl (E.2.1 1, 9, .inl f_afters))]) C hT [1, 2, 0] rfl rfl rfl rfl rfl dX12_isPlain_22 (Or.inl ⟨rfl, rfl, (by first | assumption | omega | decide), (by first | assumption | omega | decide), (PLN.rmk (by omega) h_4 (by omega))⟩)
  · refine an2 hw ?_
    clear hw
    intro he_8 he_9 hw
    have h_7 := hw
    clear hw
    have he_8 := he_8.symm
    subst he_8
    subst he_9
    refine ww_eq (ws' := [(m_afters, .inl (E.2.1 1, 9, .inl f_afters)), (hm, .inr (12, [.ref m_manys, .ref m_reals, .ref m_factsOf, .ref m_possible, .int (nI q_undos), .int (nI q_models), .ref m_tape, .int (nI q_taped), .int q_fault, .int q_wrong, .int q_wrongAt, .int q_spot, .int q_place, .int q_token, .int q_value, .ref m_ends, .ref m_letters, .ref m_actOf, .ref m_whom, .ref m_actMany, .ref m_tokens, .ref m_afters, .ref m_afterOf, .int q_counted, .ref m_pile, .ref m_caseMany, .ref m_happen, .ref m_hasIf, .ref m_becomes, .ref m_goneOf, .ref m_heard, .ref m_pairs, .ref m_heaps, .int q_rounds, .int q_heapMany, .ref m_led, .ref m_newAt, .ref m_knowing, .ref m_firsts, .int (nI q_people), .ref m_secrets, .ref m_tried, .ref m_lanes, .ref m_lengths, .ref m_cells])), (m_tokens, .inl (E.2.1 1, 9, .inl f_tokens))]) ?_ rfl rfl rfl
    refine ww_if_eq_t (tgt := 21) C dX12_isPlain_5 (by decide) (rfl) ?_
    refine ww_iconst (v := 0) C dX12_isPlain_21 rfl ?_
    exact ww_zret (u := [(hm, .inr (12, [.ref m_manys, .ref m_reals, .ref m_factsOf, .ref m_possible, .int (nI q_undos), .int (nI q_models), .ref m_tape, .int (nI q_taped), .int q_fault, .int q_wrong, .int q_wrongAt, .int q_spot, .int q_place, .int q_token, .int q_value, .ref m_ends, .ref m_letters, .ref m_actOf, .ref m_whom, .ref m_actMany, .ref m_tokens, .ref m_afters, .ref m_afterOf, .int q_counted, .ref m_pile, .ref m_caseMany, .ref m_happen, .ref m_hasIf, .ref m_becomes, .ref m_goneOf, .ref m_heard, .ref m_pairs, .ref m_heaps, .int q_rounds, .int q_heapMany, .ref m_led, .ref m_newAt, .ref m_knowing, .ref m_firsts, .int (nI q_people), .ref m_secrets, .ref m_tried, .ref m_lanes, .ref m_lengths, .ref m_cells])), (m_tokens, .inl (E.2.1 1, 9, .inl f_tokens)), (m_afters, .inl (E.2.1 1, 9, .inl f_afters))]) C hT [1, 2, 0] rfl rfl rfl rfl rfl dX12_isPlain_22 (Or.inr ⟨rfl, rfl, (PLN.rno h_7)⟩)
theorem dX12_giveIf_0 : decode cX12_giveIf 0 = .ok (.aload_n 0, 1) := dl_42 (by decide +kernel)
theorem dX12_giveIf_1 : decode cX12_giveIf 1 = .ok (.getfield 58, 3) := dl_180 (by decide +kernel)
theorem dX12_giveIf_4 : decode cX12_giveIf 4 = .ok (.iconst 4, 1) := dl_7 (by decide +kernel)
theorem dX12_giveIf_5 : decode cX12_giveIf 5 = .ok (.iload_n 1, 1) := dl_27 (by decide +kernel)
theorem dX12_giveIf_6 : decode cX12_giveIf 6 = .ok (.imul, 1) := dl_104 (by decide +kernel)
theorem dX12_giveIf_7 : decode cX12_giveIf 7 = .ok (.iload_n 2, 1) := dl_28 (by decide +kernel)
theorem dX12_giveIf_8 : decode cX12_giveIf 8 = .ok (.iadd, 1) := dl_96 (by decide +kernel)
theorem dX12_giveIf_9 : decode cX12_giveIf 9 = .ok (.iload_n 3, 1) := dl_29 (by decide +kernel)
theorem dX12_giveIf_10 : decode cX12_giveIf 10 = .ok (.bipush (-4), 2) := dl_16 (by decide +kernel)
theorem dX12_giveIf_12 : decode cX12_giveIf 12 = .ok (.if_icmp .eq 7, 3) := dl_159 (by decide +kernel)
theorem dX12_giveIf_19 : decode cX12_giveIf 19 = .ok (.iconst 0, 1) := dl_3 (by decide +kernel)
theorem dX12_giveIf_20 : decode cX12_giveIf 20 = .ok (.bastore, 1) := dl_84 (by decide +kernel)
theorem dX12_giveIf_21 : decode cX12_giveIf 21 = .ok (.iload_n 3, 1) := dl_29 (by decide +kernel)
theorem dX12_giveIf_22 : decode cX12_giveIf 22 = .ok (.bipush (-4), 2) := dl_16 (by decide +kernel)
theorem dX12_giveIf_24 : decode cX12_giveIf 24 = .ok (.if_icmp .eq 16, 3) := dl_159 (by decide +kernel)
theorem dX12_giveIf_40 : decode cX12_giveIf 40 = .ok (.return_, 1) := dl_177 (by decide +kernel)
set_option maxRecDepth 100000 in
set_option maxHeartbeats 4000000 in
theorem r_giveIfN (l : Launch) (E : EV) (ro : va_W) (hm : Nat) (e : Nat) (i : Nat) (m_manys : Nat) (m_reals : Nat) (m_factsOf : Nat) (m_possible : Nat) (q_undos : Nat) (q_models : Nat) (m_tape : Nat) (q_taped : Nat) (q_fault : Int32) (q_wrong : Int32) (q_wrongAt : Int32) (q_spot : Int32) (q_place : Int32) (q_token : Int32) (q_value : Int32) (m_ends : Nat) (m_letters : Nat) (m_actOf : Nat) (m_whom : Nat) (m_actMany : Nat) (m_tokens : Nat) (m_afters : Nat) (m_afterOf : Nat) (q_counted : Int32) (m_pile : Nat) (m_caseMany : Nat) (m_happen : Nat) (m_hasIf : Nat) (m_becomes : Nat) (m_goneOf : Nat) (m_heard : Nat) (m_pairs : Nat) (m_heaps : Nat) (q_rounds : Int32) (q_heapMany : Int32) (m_led : Nat) (m_newAt : Nat) (m_knowing : Nat) (m_firsts : Nat) (q_people : Nat) (m_secrets : Nat) (m_tried : Nat) (m_lanes : Nat) (m_lengths : Nat) (m_cells : Nat) (f_hasIf : Nat → Int32) (he : e < 4) (hi : i < 4) : CT l yX12_giveIf (Cond.code yX12_giveIf cX12_giveIf 4 none :: TB) ({ frames := 0, cells := 0, slots := 0, locals := 0 }) E ro [.ref hm, .int (nI e), .int (nI i), .int (-4)] [(hm, .inr (12, [.ref m_manys, .ref m_reals, .ref m_factsOf, .ref m_possible, .int (nI q_undos), .int (nI q_models), .ref m_tape, .int (nI q_taped), .int q_fault, .int q_wrong, .int q_wrongAt, .int q_spot, .int q_place, .int q_token, .int q_value, .ref m_ends, .ref m_letters, .ref m_actOf, .ref m_whom, .ref m_actMany, .ref m_tokens, .ref m_afters, .ref m_afterOf, .int q_counted, .ref m_pile, .ref m_caseMany, .ref m_happen, .ref m_hasIf, .ref m_becomes, .ref m_goneOf, .ref m_heard, .ref m_pairs, .ref m_heaps, .int q_rounds, .int q_heapMany, .ref m_led, .ref m_newAt, .ref m_knowing, .ref m_firsts, .int (nI q_people), .ref m_secrets, .ref m_tried, .ref m_lanes, .ref m_lengths, .ref m_cells])), (m_hasIf, .inl (E.2.1 3, 16, .inl f_hasIf))] (Qv E (fun uz => (∃ (f_hasIfz : Nat → Int32), uz = [(hm, .inr (12, [.ref m_manys, .ref m_reals, .ref m_factsOf, .ref m_possible, .int (nI q_undos), .int (nI q_models), .ref m_tape, .int (nI q_taped), .int q_fault, .int q_wrong, .int q_wrongAt, .int q_spot, .int q_place, .int q_token, .int q_value, .ref m_ends, .ref m_letters, .ref m_actOf, .ref m_whom, .ref m_actMany, .ref m_tokens, .ref m_afters, .ref m_afterOf, .int q_counted, .ref m_pile, .ref m_caseMany, .ref m_happen, .ref m_hasIf, .ref m_becomes, .ref m_goneOf, .ref m_heard, .ref m_pairs, .ref m_heaps, .int q_rounds, .int q_heapMany, .ref m_led, .ref m_newAt, .ref m_knowing, .ref m_firsts, .int (nI q_people), .ref m_secrets, .ref m_tried, .ref m_lanes, .ref m_lengths, .ref m_cells])), (m_hasIf, .inl (E.2.1 3, 16, .inl f_hasIfz))] ∧ (upd f_hasIf (4 * e + i) 0 = f_hasIfz)))) 0 0 := by
  refine ct_of rfl rfl ?_
  intro X C hT hin hro
  show WW X 4 E 0 [(0, .ref hm), (1, .int (nI e)), (2, .int (nI i)), (3, .int (-4))] [] [(hm, .inr (12, [.ref m_manys, .ref m_reals, .ref m_factsOf, .ref m_possible, .int (nI q_undos), .int (nI q_models), .ref m_tape, .int (nI q_taped), .int q_fault, .int q_wrong, .int q_wrongAt, .int q_spot, .int q_place, .int q_token, .int q_value, .ref m_ends, .ref m_letters, .ref m_actOf, .ref m_whom, .ref m_actMany, .ref m_tokens, .ref m_afters, .ref m_afterOf, .int q_counted, .ref m_pile, .ref m_caseMany, .ref m_happen, .ref m_hasIf, .ref m_becomes, .ref m_goneOf, .ref m_heard, .ref m_pairs, .ref m_heaps, .int q_rounds, .int q_heapMany, .ref m_led, .ref m_newAt, .ref m_knowing, .ref m_firsts, .int (nI q_people), .ref m_secrets, .ref m_tried, .ref m_lanes, .ref m_lengths, .ref m_cells])), (m_hasIf, .inl (E.2.1 3, 16, .inl f_hasIf))] 0 0
  refine ww_aload_n C dX12_giveIf_0 0 rfl rfl ?_
  refine ww_get C fg_X12_58 0 rfl rfl dX12_giveIf_1 ?_
  refine ww_iconst (v := 4) C dX12_giveIf_4 rfl ?_
  refine ww_iload_n C dX12_giveIf_5 1 rfl rfl ?_
  refine ww_imul (v := (nI (4 * e))) C dX12_giveIf_6 (pk_mul 4 e) ?_
  refine ww_iload_n C dX12_giveIf_7 2 rfl rfl ?_
  refine ww_iadd (v := (nI ((4 * e) + i))) C dX12_giveIf_8 (nI_add (4 * e) i) ?_
  refine ww_iload_n C dX12_giveIf_9 3 rfl rfl ?_
  refine ww_bipush (v := (-4)) C dX12_giveIf_10 rfl ?_
  refine ww_icmp_eq_t (tgt := 19) C dX12_giveIf_12 (by decide) (rfl) ?_
  refine ww_iconst (v := 0) C dX12_giveIf_19 rfl ?_
  obtain ⟨f_1, ef_1⟩ : ∃ z : Nat → Int32, upd f_hasIf ((4 * e) + i) (vp_nar .boolean 0) = z := ⟨_, rfl⟩
  refine ww_zast (ws' := [(hm, .inr (12, [.ref m_manys, .ref m_reals, .ref m_factsOf, .ref m_possible, .int (nI q_undos), .int (nI q_models), .ref m_tape, .int (nI q_taped), .int q_fault, .int q_wrong, .int q_wrongAt, .int q_spot, .int q_place, .int q_token, .int q_value, .ref m_ends, .ref m_letters, .ref m_actOf, .ref m_whom, .ref m_actMany, .ref m_tokens, .ref m_afters, .ref m_afterOf, .int q_counted, .ref m_pile, .ref m_caseMany, .ref m_happen, .ref m_hasIf, .ref m_becomes, .ref m_goneOf, .ref m_heard, .ref m_pairs, .ref m_heaps, .int q_rounds, .int q_heapMany, .ref m_led, .ref m_newAt, .ref m_knowing, .ref m_firsts, .int (nI q_people), .ref m_secrets, .ref m_tried, .ref m_lanes, .ref m_lengths, .ref m_cells])), (m_hasIf, .inl (E.2.1 3, 16, .inl f_1))]) C 1 rfl (vp_in_nI (by omega) (by omega)) (ldn2 (by omega) ef_1) rfl dX12_giveIf_20 ?_
  refine ww_iload_n C dX12_giveIf_21 3 rfl rfl ?_
  refine ww_bipush (v := (-4)) C dX12_giveIf_22 rfl ?_
  refine ww_icmp_eq_t (tgt := 40) C dX12_giveIf_24 (by decide) (rfl) ?_
  exact ww_vret (u := [(hm, .inr (12, [.ref m_manys, .ref m_reals, .ref m_factsOf, .ref m_possible, .int (nI q_undos), .int (nI q_models), .ref m_tape, .int (nI q_taped), .int q_fault, .int q_wrong, .int q_wrongAt, .int q_spot, .int q_place, .int q_token, .int q_value, .ref m_ends, .ref m_letters, .ref m_actOf, .ref m_whom, .ref m_actMany, .ref m_tokens, .ref m_afters, .ref m_afterOf, .int q_counted, .ref m_pile, .ref m_caseMany, .ref m_happen, .ref m_hasIf, .ref m_becomes, .ref m_goneOf, .ref m_heard, .ref m_pairs, .ref m_heaps, .int q_rounds, .int q_heapMany, .ref m_led, .ref m_newAt, .ref m_knowing, .ref m_firsts, .int (nI q_people), .ref m_secrets, .ref m_tried, .ref m_lanes, .ref m_lengths, .ref m_cells])), (m_hasIf, .inl (E.2.1 3, 16, .inl f_1))]) C hT [0, 1] rfl rfl rfl rfl dX12_giveIf_40 (⟨f_1, rfl, (up_b0 ef_1)⟩)
theorem dX12_giveIf_15 : decode cX12_giveIf 15 = .ok (.iconst 1, 1) := dl_4 (by decide +kernel)
theorem dX12_giveIf_16 : decode cX12_giveIf 16 = .ok (.goto 4, 3) := dl_167 (by decide +kernel)
theorem dX12_giveIf_27 : decode cX12_giveIf 27 = .ok (.aload_n 0, 1) := dl_42 (by decide +kernel)
theorem dX12_giveIf_28 : decode cX12_giveIf 28 = .ok (.iload_n 3, 1) := dl_29 (by decide +kernel)
theorem dX12_giveIf_29 : decode cX12_giveIf 29 = .ok (.bipush 8, 2) := dl_16 (by decide +kernel)
theorem dX12_giveIf_31 : decode cX12_giveIf 31 = .ok (.iconst 4, 1) := dl_7 (by decide +kernel)
theorem dX12_giveIf_32 : decode cX12_giveIf 32 = .ok (.iload_n 1, 1) := dl_27 (by decide +kernel)
theorem dX12_giveIf_33 : decode cX12_giveIf 33 = .ok (.imul, 1) := dl_104 (by decide +kernel)
theorem dX12_giveIf_34 : decode cX12_giveIf 34 = .ok (.iadd, 1) := dl_96 (by decide +kernel)
theorem dX12_giveIf_35 : decode cX12_giveIf 35 = .ok (.iload_n 2, 1) := dl_28 (by decide +kernel)
theorem dX12_giveIf_36 : decode cX12_giveIf 36 = .ok (.iadd, 1) := dl_96 (by decide +kernel)
theorem dX12_giveIf_37 : decode cX12_giveIf 37 = .ok (.invokevirtual 221, 3) := dl_182 (by decide +kernel)
set_option maxRecDepth 100000 in
set_option maxHeartbeats 4000000 in
theorem r_giveIf (l : Launch) (E : EV) (ro : va_W) (hm : Nat) (e : Nat) (i : Nat) (sa : Nat) (m_manys : Nat) (m_reals : Nat) (m_factsOf : Nat) (m_possible : Nat) (q_undos : Nat) (q_models : Nat) (m_tape : Nat) (q_taped : Nat) (q_fault : Int32) (q_wrong : Int32) (q_wrongAt : Int32) (q_spot : Int32) (q_place : Int32) (q_token : Int32) (q_value : Int32) (m_ends : Nat) (m_letters : Nat) (m_actOf : Nat) (m_whom : Nat) (m_actMany : Nat) (m_tokens : Nat) (m_afters : Nat) (m_afterOf : Nat) (q_counted : Int32) (m_pile : Nat) (m_caseMany : Nat) (m_happen : Nat) (m_hasIf : Nat) (m_becomes : Nat) (m_goneOf : Nat) (m_heard : Nat) (m_pairs : Nat) (m_heaps : Nat) (q_rounds : Int32) (q_heapMany : Int32) (m_led : Nat) (m_newAt : Nat) (m_knowing : Nat) (m_firsts : Nat) (q_people : Nat) (m_secrets : Nat) (m_tried : Nat) (m_lanes : Nat) (m_lengths : Nat) (m_cells : Nat) (f_hasIf : Nat → Int32) (f_actMany : Nat → Int32) (f_actOf : Nat → Int32) (f_whom : Nat → Int32) (hb_actMany : NB 25 32 f_actMany) (hsv : SV f_actOf f_actMany) (he : e < 4) (hi : i < 4) (hsa : sa ≤ 7) : CT l yX12_giveIf (Cond.code yX12_giveIf cX12_giveIf 4 none :: TB) ({ frames := 1, cells := 0, slots := 0, locals := 23 }) E ro [.ref hm, .int (nI e), .int (nI i), .int (nI sa)] [(hm, .inr (12, [.ref m_manys, .ref m_reals, .ref m_factsOf, .ref m_possible, .int (nI q_undos), .int (nI q_models), .ref m_tape, .int (nI q_taped), .int q_fault, .int q_wrong, .int q_wrongAt, .int q_spot, .int q_place, .int q_token, .int q_value, .ref m_ends, .ref m_letters, .ref m_actOf, .ref m_whom, .ref m_actMany, .ref m_tokens, .ref m_afters, .ref m_afterOf, .int q_counted, .ref m_pile, .ref m_caseMany, .ref m_happen, .ref m_hasIf, .ref m_becomes, .ref m_goneOf, .ref m_heard, .ref m_pairs, .ref m_heaps, .int q_rounds, .int q_heapMany, .ref m_led, .ref m_newAt, .ref m_knowing, .ref m_firsts, .int (nI q_people), .ref m_secrets, .ref m_tried, .ref m_lanes, .ref m_lengths, .ref m_cells])), (m_hasIf, .inl (E.2.1 3, 16, .inl f_hasIf)), (m_actMany, .inl (E.2.1 1, 25, .inl f_actMany)), (m_actOf, .inl (E.2.1 1, 800, .inl f_actOf)), (m_whom, .inl (E.2.1 1, 800, .inl f_whom))] (Qv E (fun uz => (∃ (f_hasIfz : Nat → Int32) (f_actManyz : Nat → Int32) (f_actOfz : Nat → Int32) (f_whomz : Nat → Int32), uz = [(hm, .inr (12, [.ref m_manys, .ref m_reals, .ref m_factsOf, .ref m_possible, .int (nI q_undos), .int (nI q_models), .ref m_tape, .int (nI q_taped), .int q_fault, .int q_wrong, .int q_wrongAt, .int q_spot, .int q_place, .int q_token, .int q_value, .ref m_ends, .ref m_letters, .ref m_actOf, .ref m_whom, .ref m_actMany, .ref m_tokens, .ref m_afters, .ref m_afterOf, .int q_counted, .ref m_pile, .ref m_caseMany, .ref m_happen, .ref m_hasIf, .ref m_becomes, .ref m_goneOf, .ref m_heard, .ref m_pairs, .ref m_heaps, .int q_rounds, .int q_heapMany, .ref m_led, .ref m_newAt, .ref m_knowing, .ref m_firsts, .int (nI q_people), .ref m_secrets, .ref m_tried, .ref m_lanes, .ref m_lengths, .ref m_cells])), (m_hasIf, .inl (E.2.1 3, 16, .inl f_hasIfz)), (m_actMany, .inl (E.2.1 1, 25, .inl f_actManyz)), (m_actOf, .inl (E.2.1 1, 800, .inl f_actOfz)), (m_whom, .inl (E.2.1 1, 800, .inl f_whomz))] ∧ (NB 25 32 f_actManyz) ∧ (SV f_actOfz f_actManyz) ∧ (upd f_hasIf (4 * e + i) 1 = f_hasIfz) ∧ (upd f_actMany (8 + 4 * e + i) (nI (cN f_actMany sa)) = f_actManyz) ∧ (CPG 32 sa (8 + 4 * e + i) 32 f_actOf f_actOfz) ∧ (CPG 32 sa (8 + 4 * e + i) 32 f_whom f_whomz)))) 0 0 := by
  refine ct_of rfl rfl ?_
  intro X C hT hin hro
  show WW X 4 E 0 [(0, .ref hm), (1, .int (nI e)), (2, .int (nI i)), (3, .int (nI sa))] [] [(hm, .inr (12, [.ref m_manys, .ref m_reals, .ref m_factsOf, .ref m_possible, .int (nI q_undos), .int (nI q_models), .ref m_tape, .int (nI q_taped), .int q_fault, .int q_wrong, .int q_wrongAt, .int q_spot, .int q_place, .int q_token, .int q_value, .ref m_ends, .ref m_letters, .ref m_actOf, .ref m_whom, .ref m_actMany, .ref m_tokens, .ref m_afters, .ref m_afterOf, .int q_counted, .ref m_pile, .ref m_caseMany, .ref m_happen, .ref m_hasIf, .ref m_becomes, .ref m_goneOf, .ref m_heard, .ref m_pairs, .ref m_heaps, .int q_rounds, .int q_heapMany, .ref m_led, .ref m_newAt, .ref m_knowing, .ref m_firsts, .int (nI q_people), .ref m_secrets, .ref m_tried, .ref m_lanes, .ref m_lengths, .ref m_cells])), (m_hasIf, .inl (E.2.1 3, 16, .inl f_hasIf)), (m_actMany, .inl (E.2.1 1, 25, .inl f_actMany)), (m_actOf, .inl (E.2.1 1, 800, .inl f_actOf)), (m_whom, .inl (E.2.1 1, 800, .inl f_whom))] 0 0
  refine ww_aload_n C dX12_giveIf_0 0 rfl rfl ?_
  refine ww_get C fg_X12_58 0 rfl rfl dX12_giveIf_1 ?_
  refine ww_iconst (v := 4) C dX12_giveIf_4 rfl ?_
  refine ww_iload_n C dX12_giveIf_5 1 rfl rfl ?_
  refine ww_imul (v := (nI (4 * e))) C dX12_giveIf_6 (pk_mul 4 e) ?_
  refine ww_iload_n C dX12_giveIf_7 2 rfl rfl ?_
  refine ww_iadd (v := (nI ((4 * e) + i))) C dX12_giveIf_8 (nI_add (4 * e) i) ?_
  refine ww_iload_n C dX12_giveIf_9 3 rfl rfl ?_
  refine ww_bipush (v := (-4)) C dX12_giveIf_10 rfl ?_
  refine ww_icmp_eq (tgt := 19) C dX12_giveIf_12 (by decide) (fun c_1 => ?_) (fun c_1 => ?_)
  · have zc_1 : ((sa : Nat) : Int) = (-4) := i_eq (nI_toInt (n := sa) (by omega)) rfl c_1
    omega
  · have zc_1 : ((sa : Nat) : Int) ≠ (-4) := i_ne (nI_toInt (n := sa) (by omega)) rfl c_1
    refine ww_iconst (v := 1) C dX12_giveIf_15 rfl ?_
    refine ww_goto (tgt := 20) C dX12_giveIf_16 (by decide) ?_
    obtain ⟨f_2, ef_2⟩ : ∃ z : Nat → Int32, upd f_hasIf ((4 * e) + i) (vp_nar .boolean 1) = z := ⟨_, rfl⟩
    refine ww_zast (ws' := [(hm, .inr (12, [.ref m_manys, .ref m_reals, .ref m_factsOf, .ref m_possible, .int (nI q_undos), .int (nI q_models), .ref m_tape, .int (nI q_taped), .int q_fault, .int q_wrong, .int q_wrongAt, .int q_spot, .int q_place, .int q_token, .int q_value, .ref m_ends, .ref m_letters, .ref m_actOf, .ref m_whom, .ref m_actMany, .ref m_tokens, .ref m_afters, .ref m_afterOf, .int q_counted, .ref m_pile, .ref m_caseMany, .ref m_happen, .ref m_hasIf, .ref m_becomes, .ref m_goneOf, .ref m_heard, .ref m_pairs, .ref m_heaps, .int q_rounds, .int q_heapMany, .ref m_led, .ref m_newAt, .ref m_knowing, .ref m_firsts, .int (nI q_people), .ref m_secrets, .ref m_tried, .ref m_lanes, .ref m_lengths, .ref m_cells])), (m_hasIf, .inl (E.2.1 3, 16, .inl f_2)), (m_actMany, .inl (E.2.1 1, 25, .inl f_actMany)), (m_actOf, .inl (E.2.1 1, 800, .inl f_actOf)), (m_whom, .inl (E.2.1 1, 800, .inl f_whom))]) C 1 rfl (vp_in_nI (by omega) (by omega)) (ldn2 (by omega) ef_2) rfl dX12_giveIf_20 ?_
    refine ww_iload_n C dX12_giveIf_21 3 rfl rfl ?_
    refine ww_bipush (v := (-4)) C dX12_giveIf_22 rfl ?_
    refine ww_icmp_eq (tgt := 40) C dX12_giveIf_24 (by decide) (fun c_3 => ?_) (fun c_3 => ?_)
    · have zc_3 : ((sa : Nat) : Int) = (-4) := i_eq (nI_toInt (n := sa) (by omega)) rfl c_3
      omega
    · have zc_3 : ((sa : Nat) : Int) ≠ (-4) := i_ne (nI_toInt (n := sa) (by omega)) rfl c_3
      refine ww_aload_n C dX12_giveIf_27 0 rfl rfl ?_
      refine ww_iload_n C dX12_giveIf_28 3 rfl rfl ?_
      refine ww_bipush (v := 8) C dX12_giveIf_29 rfl ?_
      refine ww_iconst (v := 4) C dX12_giveIf_31 rfl ?_
      refine ww_iload_n C dX12_giveIf_32 1 rfl rfl ?_
      refine ww_imul (v := (nI (4 * e))) C dX12_giveIf_33 (pk_mul 4 e) ?_
      refine ww_iadd (v := (nI (8 + (4 * e)))) C dX12_giveIf_34 (nI_add 8 (4 * e)) ?_
      refine ww_iload_n C dX12_giveIf_35 2 rfl rfl ?_
      refine ww_iadd (v := (nI ((8 + (4 * e)) + i))) C dX12_giveIf_36 (nI_add (8 + (4 * e)) i) ?_
      refine ww_cv (wr := [(m_hasIf, .inl (E.2.1 3, 16, .inl f_2))]) (k' := 0) (n' := 0) C (run_V (As := [.int (nI sa), .int (nI ((8 + (4 * e)) + i))]) (rest := []) C (r_copyActs X.2.1 E ro hm sa ((8 + (4 * e)) + i) m_manys m_reals m_factsOf m_possible q_undos q_models m_tape q_taped q_fault q_wrong q_wrongAt q_spot q_place q_token q_value m_ends m_letters m_actOf m_whom m_actMany m_tokens m_afters m_afterOf q_counted m_pile m_caseMany m_happen m_hasIf m_becomes m_goneOf m_heard m_pairs m_heaps q_rounds q_heapMany m_led m_newAt m_knowing m_firsts q_people m_secrets m_tried m_lanes m_lengths m_cells f_actMany f_actOf f_whom hb_actMany hsv (by omega) (by omega) (hsv sa (by omega))) mi_X12_copyActs wl_X12_221 rfl 0 12 rfl rfl rfl rfl rfl dX12_giveIf_37) (roK hro) [0, 2, 3, 4] [1] rfl rfl rfl rfl (fun uz hw => ?_)
      refine ex3 hw ?_
      clear hw
      intro f_actManyz_5 f_actOfz_6 f_whomz_7 hw
      refine an5 hw ?_
      clear hw
      intro he_13 h_8 h_9 h_10 h_11 hw
      have h_12 := hw
      clear hw
      subst he_13
      refine ww_eq (ws' := [(m_hasIf, .inl (E.2.1 3, 16, .inl f_2)), (hm, .inr (12, [.ref m_manys, .ref m_reals, .ref m_factsOf, .ref m_possible, .int (nI q_undos), .int (nI q_models), .ref m_tape, .int (nI q_taped), .int q_fault, .int q_wrong, .int q_wrongAt, .int q_spot, .int q_place, .int q_token, .int q_value, .ref m_ends, .ref m_letters, .ref m_actOf, .ref m_whom, .ref m_actMany, .ref m_tokens, .ref m_afters, .ref m_afterOf, .int q_counted, .ref m_pile, .ref m_caseMany, .ref m_happen, .ref m_hasIf, .ref m_becomes, .ref m_goneOf, .ref m_heard, .ref m_pairs, .ref m_heaps, .int q_rounds, .int q_heapMany, .ref m_led, .ref m_newAt, .ref m_knowing, .ref m_firsts, .int (nI q_people), .ref m_secrets, .ref m_tried, .ref m_lanes, .ref m_lengths, .ref m_cells])), (m_actMany, .inl (E.2.1 1, 25, .inl f_actManyz_5)), (m_actOf, .inl (E.2.1 1, 800, .inl f_actOfz_6)), (m_whom, .inl (E.2.1 1, 800, .inl f_whomz_7))]) ?_ rfl rfl rfl
      exact ww_vret (u := [(hm, .inr (12, [.ref m_manys, .ref m_reals, .ref m_factsOf, .ref m_possible, .int (nI q_undos), .int (nI q_models), .ref m_tape, .int (nI q_taped), .int q_fault, .int q_wrong, .int q_wrongAt, .int q_spot, .int q_place, .int q_token, .int q_value, .ref m_ends, .ref m_letters, .ref m_actOf, .ref m_whom, .ref m_actMany, .ref m_tokens, .ref m_afters, .ref m_afterOf, .int q_counted, .ref m_pile, .ref m_caseMany, .ref m_happen, .ref m_hasIf, .ref m_becomes, .ref m_goneOf, .ref m_heard, .ref m_pairs, .ref m_heaps, .int q_rounds, .int q_heapMany, .ref m_led, .ref m_newAt, .ref m_knowing, .ref m_firsts, .int (nI q_people), .ref m_secrets, .ref m_tried, .ref m_lanes, .ref m_lengths, .ref m_cells])), (m_hasIf, .inl (E.2.1 3, 16, .inl f_2)), (m_actMany, .inl (E.2.1 1, 25, .inl f_actManyz_5)), (m_actOf, .inl (E.2.1 1, 800, .inl f_actOfz_6)), (m_whom, .inl (E.2.1 1, 800, .inl f_whomz_7))]) C hT [1, 0, 2, 3, 4] rfl rfl rfl rfl dX12_giveIf_40 (⟨f_2, f_actManyz_5, f_actOfz_6, f_whomz_7, rfl, h_8, h_9, (up_b1 ef_2), h_10, h_11, h_12⟩)
theorem dX12_when_0 : decode cX12_when 0 = .ok (.aload_n 0, 1) := dl_42 (by decide +kernel)
theorem dX12_when_1 : decode cX12_when 1 = .ok (.iload_n 1, 1) := dl_27 (by decide +kernel)
theorem dX12_when_2 : decode cX12_when 2 = .ok (.iload_n 2, 1) := dl_28 (by decide +kernel)
theorem dX12_when_3 : decode cX12_when 3 = .ok (.invokevirtual 243, 3) := dl_182 (by decide +kernel)
theorem wl_X12_243 : Cond.methodLink RX12 243 yX12_isCase ∈ TB := tbm (tq6 (List.mem_of_getElem? (i := 125) (by decide +kernel))) (by decide +kernel)
theorem wc_X12_isCase : Cond.code yX12_isCase cX12_isCase 3 (some .boolean) ∈ TB := tbm (tq6 (List.mem_of_getElem? (i := 128) (rfl))) (by decide +kernel)
theorem wi_X12_isCase : Cond.instanceMethod yX12_isCase ∈ TB := tbm (tq6 (List.mem_of_getElem? (i := 127) (by decide +kernel))) (by decide +kernel)
theorem ws_X12_isCase : Cond.selects RX12 yX12_isCase yX12_isCase ∈ TB := tbm (tq0 (List.mem_of_getElem? (i := 55) (by decide +kernel))) (by decide +kernel)
theorem mi_X12_isCase : MI yX12_isCase cX12_isCase 3 (some .boolean) 2 := ⟨wc_X12_isCase, wn_X12, ⟨by decide +kernel, by decide +kernel, by decide +kernel⟩, wi_X12_isCase, ws_X12_isCase⟩
theorem dX12_when_6 : decode cX12_when 6 = .ok (.ifCond .eq 43, 3) := dl_153 (by decide +kernel)
theorem dX12_when_9 : decode cX12_when 9 = .ok (.iload_n 3, 1) := dl_29 (by decide +kernel)
theorem dX12_when_10 : decode cX12_when 10 = .ok (.bipush (-4), 2) := dl_16 (by decide +kernel)
theorem dX12_when_12 : decode cX12_when 12 = .ok (.if_icmp .eq 11, 3) := dl_159 (by decide +kernel)
theorem dX12_when_23 : decode cX12_when 23 = .ok (.iload 4, 2) := dl_21 (by decide +kernel)
theorem dX12_when_25 : decode cX12_when 25 = .ok (.i2l, 1) := dl_133 (by decide +kernel)
theorem dX12_when_26 : decode cX12_when 26 = .ok (.lconst 0, 1) := dl_9 (by decide +kernel)
theorem dX12_when_27 : decode cX12_when 27 = .ok (.ldc2_w 119, 3) := dl_20 (by decide +kernel)
theorem dX12_when_30 : decode cX12_when 30 = .ok (.invokestatic 115, 3) := dl_184 (by decide +kernel)
theorem dX12_when_33 : decode cX12_when 33 = .ok (.ifCond .eq 16, 3) := dl_153 (by decide +kernel)
theorem dX12_when_36 : decode cX12_when 36 = .ok (.iload 5, 2) := dl_21 (by decide +kernel)
theorem dX12_when_38 : decode cX12_when 38 = .ok (.i2l, 1) := dl_133 (by decide +kernel)
theorem dX12_when_39 : decode cX12_when 39 = .ok (.lconst 0, 1) := dl_9 (by decide +kernel)
theorem dX12_when_40 : decode cX12_when 40 = .ok (.ldc2_w 119, 3) := dl_20 (by decide +kernel)
theorem dX12_when_43 : decode cX12_when 43 = .ok (.invokestatic 115, 3) := dl_184 (by decide +kernel)
theorem dX12_when_46 : decode cX12_when 46 = .ok (.ifCond .ne 5, 3) := dl_154 (by decide +kernel)
theorem dX12_when_51 : decode cX12_when 51 = .ok (.aload_n 0, 1) := dl_42 (by decide +kernel)
theorem dX12_when_52 : decode cX12_when 52 = .ok (.iload_n 1, 1) := dl_27 (by decide +kernel)
theorem dX12_when_53 : decode cX12_when 53 = .ok (.iload_n 2, 1) := dl_28 (by decide +kernel)
theorem dX12_when_54 : decode cX12_when 54 = .ok (.iload_n 3, 1) := dl_29 (by decide +kernel)
theorem dX12_when_55 : decode cX12_when 55 = .ok (.invokevirtual 250, 3) := dl_182 (by decide +kernel)
theorem wl_X12_250 : Cond.methodLink RX12 250 yX12_giveIf ∈ TB := tbm (tq6 (List.mem_of_getElem? (i := 137) (by decide +kernel))) (by decide +kernel)
theorem wc_X12_giveIf : Cond.code yX12_giveIf cX12_giveIf 4 none ∈ TB := tbm (tq6 (List.mem_of_getElem? (i := 140) (rfl))) (by decide +kernel)
theorem wi_X12_giveIf : Cond.instanceMethod yX12_giveIf ∈ TB := tbm (tq6 (List.mem_of_getElem? (i := 139) (by decide +kernel))) (by decide +kernel)
theorem ws_X12_giveIf : Cond.selects RX12 yX12_giveIf yX12_giveIf ∈ TB := tbm (tq0 (List.mem_of_getElem? (i := 58) (by decide +kernel))) (by decide +kernel)
theorem mi_X12_giveIf : MI yX12_giveIf cX12_giveIf 4 none 3 := ⟨wc_X12_giveIf, wn_X12, ⟨by decide +kernel, by decide +kernel, by decide +kernel⟩, wi_X12_giveIf, ws_X12_giveIf⟩
theorem dX12_when_58 : decode cX12_when 58 = .ok (.aload_n 0, 1) := dl_42 (by decide +kernel)
theorem dX12_when_59 : decode cX12_when 59 = .ok (.getfield 62, 3) := dl_180 (by decide +kernel)
theorem dX12_when_62 : decode cX12_when 62 = .ok (.iconst 4, 1) := dl_7 (by decide +kernel)
theorem dX12_when_63 : decode cX12_when 63 = .ok (.iload_n 1, 1) := dl_27 (by decide +kernel)
theorem dX12_when_64 : decode cX12_when 64 = .ok (.imul, 1) := dl_104 (by decide +kernel)
theorem dX12_when_65 : decode cX12_when 65 = .ok (.iload_n 2, 1) := dl_28 (by decide +kernel)
theorem dX12_when_66 : decode cX12_when 66 = .ok (.iadd, 1) := dl_96 (by decide +kernel)
theorem dX12_when_67 : decode cX12_when 67 = .ok (.iload 4, 2) := dl_21 (by decide +kernel)
theorem dX12_when_69 : decode cX12_when 69 = .ok (.iastore, 1) := dl_79 (by decide +kernel)
theorem dX12_when_70 : decode cX12_when 70 = .ok (.aload_n 0, 1) := dl_42 (by decide +kernel)
theorem dX12_when_71 : decode cX12_when 71 = .ok (.getfield 65, 3) := dl_180 (by decide +kernel)
theorem dX12_when_74 : decode cX12_when 74 = .ok (.iconst 4, 1) := dl_7 (by decide +kernel)
theorem dX12_when_75 : decode cX12_when 75 = .ok (.iload_n 1, 1) := dl_27 (by decide +kernel)
theorem dX12_when_76 : decode cX12_when 76 = .ok (.imul, 1) := dl_104 (by decide +kernel)
theorem dX12_when_77 : decode cX12_when 77 = .ok (.iload_n 2, 1) := dl_28 (by decide +kernel)
theorem dX12_when_78 : decode cX12_when 78 = .ok (.iadd, 1) := dl_96 (by decide +kernel)
theorem dX12_when_79 : decode cX12_when 79 = .ok (.iload 5, 2) := dl_21 (by decide +kernel)
theorem dX12_when_81 : decode cX12_when 81 = .ok (.iastore, 1) := dl_79 (by decide +kernel)
theorem dX12_when_82 : decode cX12_when 82 = .ok (.iconst 1, 1) := dl_4 (by decide +kernel)
theorem dX12_when_83 : decode cX12_when 83 = .ok (.ireturn, 1) := dl_172 (by decide +kernel)
theorem dX12_when_49 : decode cX12_when 49 = .ok (.iconst (-1), 1) := dl_2 (by decide +kernel)
theorem dX12_when_50 : decode cX12_when 50 = .ok (.ireturn, 1) := dl_172 (by decide +kernel)
theorem dX12_when_15 : decode cX12_when 15 = .ok (.aload_n 0, 1) := dl_42 (by decide +kernel)
theorem dX12_when_16 : decode cX12_when 16 = .ok (.iload_n 3, 1) := dl_29 (by decide +kernel)
theorem dX12_when_17 : decode cX12_when 17 = .ok (.invokevirtual 247, 3) := dl_182 (by decide +kernel)
theorem wl_X12_247 : Cond.methodLink RX12 247 yX12_isPlain ∈ TB := tbm (tq6 (List.mem_of_getElem? (i := 133) (by decide +kernel))) (by decide +kernel)
theorem wc_X12_isPlain : Cond.code yX12_isPlain cX12_isPlain 2 (some .boolean) ∈ TB := tbm (tq6 (List.mem_of_getElem? (i := 136) (rfl))) (by decide +kernel)
theorem wi_X12_isPlain : Cond.instanceMethod yX12_isPlain ∈ TB := tbm (tq6 (List.mem_of_getElem? (i := 135) (by decide +kernel))) (by decide +kernel)
theorem ws_X12_isPlain : Cond.selects RX12 yX12_isPlain yX12_isPlain ∈ TB := tbm (tq0 (List.mem_of_getElem? (i := 57) (by decide +kernel))) (by decide +kernel)
theorem mi_X12_isPlain : MI yX12_isPlain cX12_isPlain 2 (some .boolean) 1 := ⟨wc_X12_isPlain, wn_X12, ⟨by decide +kernel, by decide +kernel, by decide +kernel⟩, wi_X12_isPlain, ws_X12_isPlain⟩
theorem dX12_when_20 : decode cX12_when 20 = .ok (.ifCond .eq 29, 3) := dl_153 (by decide +kernel)
set_option maxRecDepth 100000 in
set_option maxHeartbeats 4000000 in
theorem y_when (l : Launch) (E : EV) (ro : va_W) (hm : Nat) (v0 : Int32) (v1 : Int32) (v2 : Int32) (v3 : Int32) (v4 : Int32) (m_manys : Nat) (m_reals : Nat) (m_factsOf : Nat) (m_possible : Nat) (q_undos : Nat) (q_models : Nat) (m_tape : Nat) (q_taped : Nat) (q_fault : Int32) (q_wrong : Int32) (q_wrongAt : Int32) (q_spot : Int32) (q_place : Int32) (q_token : Int32) (q_value : Int32) (m_ends : Nat) (m_letters : Nat) (m_actOf : Nat) (m_whom : Nat) (m_actMany : Nat) (m_tokens : Nat) (m_afters : Nat) (m_afterOf : Nat) (q_counted : Int32) (m_pile : Nat) (m_caseMany : Nat) (m_happen : Nat) (m_hasIf : Nat) (m_becomes : Nat) (m_goneOf : Nat) (m_heard : Nat) (m_pairs : Nat) (m_heaps : Nat) (q_rounds : Int32) (q_heapMany : Int32) (m_led : Nat) (m_newAt : Nat) (m_knowing : Nat) (m_firsts : Nat) (q_people : Nat) (m_secrets : Nat) (m_tried : Nat) (m_lanes : Nat) (m_lengths : Nat) (m_cells : Nat) (f_caseMany : Nat → Int32) (f_hasIf : Nat → Int32) (f_actMany : Nat → Int32) (f_actOf : Nat → Int32) (f_whom : Nat → Int32) (f_tokens : Nat → Int32) (f_afters : Nat → Int32) (f_becomes : Nat → Int32) (f_goneOf : Nat → Int32) (hb_caseMany : NB 4 4 f_caseMany) (hb_actMany : NB 25 32 f_actMany) (hsv : SV f_actOf f_actMany) (hb_afters : NB 9 2 f_afters) : CT l yX12_when (Cond.code yX12_when cX12_when 6 (some .int) :: TB) ({ frames := 3, cells := 0, slots := 0, locals := 68 }) E ro [.ref hm, .int v0, .int v1, .int v2, .int v3, .int v4] [(hm, .inr (12, [.ref m_manys, .ref m_reals, .ref m_factsOf, .ref m_possible, .int (nI q_undos), .int (nI q_models), .ref m_tape, .int (nI q_taped), .int q_fault, .int q_wrong, .int q_wrongAt, .int q_spot, .int q_place, .int q_token, .int q_value, .ref m_ends, .ref m_letters, .ref m_actOf, .ref m_whom, .ref m_actMany, .ref m_tokens, .ref m_afters, .ref m_afterOf, .int q_counted, .ref m_pile, .ref m_caseMany, .ref m_happen, .ref m_hasIf, .ref m_becomes, .ref m_goneOf, .ref m_heard, .ref m_pairs, .ref m_heaps, .int q_rounds, .int q_heapMany, .ref m_led, .ref m_newAt, .ref m_knowing, .ref m_firsts, .int (nI q_people), .ref m_secrets, .ref m_tried, .ref m_lanes, .ref m_lengths, .ref m_cells])), (m_caseMany, .inl (E.2.1 1, 4, .inl f_caseMany)), (m_hasIf, .inl (E.2.1 3, 16, .inl f_hasIf)), (m_actMany, .inl (E.2.1 1, 25, .inl f_actMany)), (m_actOf, .inl (E.2.1 1, 800, .inl f_actOf)), (m_whom, .inl (E.2.1 1, 800, .inl f_whom)), (m_tokens, .inl (E.2.1 1, 9, .inl f_tokens)), (m_afters, .inl (E.2.1 1, 9, .inl f_afters)), (m_becomes, .inl (E.2.1 1, 16, .inl f_becomes)), (m_goneOf, .inl (E.2.1 1, 16, .inl f_goneOf))] (Qi E (fun (rz : Int32) uz => (rz = (-1) ∧ uz = [(hm, .inr (12, [.ref m_manys, .ref m_reals, .ref m_factsOf, .ref m_possible, .int (nI q_undos), .int (nI q_models), .ref m_tape, .int (nI q_taped), .int q_fault, .int q_wrong, .int q_wrongAt, .int q_spot, .int q_place, .int q_token, .int q_value, .ref m_ends, .ref m_letters, .ref m_actOf, .ref m_whom, .ref m_actMany, .ref m_tokens, .ref m_afters, .ref m_afterOf, .int q_counted, .ref m_pile, .ref m_caseMany, .ref m_happen, .ref m_hasIf, .ref m_becomes, .ref m_goneOf, .ref m_heard, .ref m_pairs, .ref m_heaps, .int q_rounds, .int q_heapMany, .ref m_led, .ref m_newAt, .ref m_knowing, .ref m_firsts, .int (nI q_people), .ref m_secrets, .ref m_tried, .ref m_lanes, .ref m_lengths, .ref m_cells])), (m_caseMany, .inl (E.2.1 1, 4, .inl f_caseMany)), (m_hasIf, .inl (E.2.1 3, 16, .inl f_hasIf)), (m_actMany, .inl (E.2.1 1, 25, .inl f_actMany)), (m_actOf, .inl (E.2.1 1, 800, .inl f_actOf)), (m_whom, .inl (E.2.1 1, 800, .inl f_whom)), (m_tokens, .inl (E.2.1 1, 9, .inl f_tokens)), (m_afters, .inl (E.2.1 1, 9, .inl f_afters)), (m_becomes, .inl (E.2.1 1, 16, .inl f_becomes)), (m_goneOf, .inl (E.2.1 1, 16, .inl f_goneOf))] ∧ (¬ CSE (cN f_caseMany) v0 v1 ∨ (v2 ≠ -4 ∧ ¬ PLN (tRr f_tokens f_afters) v2) ∨ v3.toInt < 0 ∨ 15 < v3.toInt ∨ v4.toInt < 0 ∨ 15 < v4.toInt)) ∨ (∃ (k_ : Nat) (i_ : Nat) (f_hasIfz : Nat → Int32) (f_actManyz : Nat → Int32) (f_actOfz : Nat → Int32) (f_whomz : Nat → Int32) (f_becomesz : Nat → Int32) (f_goneOfz : Nat → Int32), rz = 1 ∧ uz = [(hm, .inr (12, [.ref m_manys, .ref m_reals, .ref m_factsOf, .ref m_possible, .int (nI q_undos), .int (nI q_models), .ref m_tape, .int (nI q_taped), .int q_fault, .int q_wrong, .int q_wrongAt, .int q_spot, .int q_place, .int q_token, .int q_value, .ref m_ends, .ref m_letters, .ref m_actOf, .ref m_whom, .ref m_actMany, .ref m_tokens, .ref m_afters, .ref m_afterOf, .int q_counted, .ref m_pile, .ref m_caseMany, .ref m_happen, .ref m_hasIf, .ref m_becomes, .ref m_goneOf, .ref m_heard, .ref m_pairs, .ref m_heaps, .int q_rounds, .int q_heapMany, .ref m_led, .ref m_newAt, .ref m_knowing, .ref m_firsts, .int (nI q_people), .ref m_secrets, .ref m_tried, .ref m_lanes, .ref m_lengths, .ref m_cells])), (m_caseMany, .inl (E.2.1 1, 4, .inl f_caseMany)), (m_hasIf, .inl (E.2.1 3, 16, .inl f_hasIfz)), (m_actMany, .inl (E.2.1 1, 25, .inl f_actManyz)), (m_actOf, .inl (E.2.1 1, 800, .inl f_actOfz)), (m_whom, .inl (E.2.1 1, 800, .inl f_whomz)), (m_tokens, .inl (E.2.1 1, 9, .inl f_tokens)), (m_afters, .inl (E.2.1 1, 9, .inl f_afters)), (m_becomes, .inl (E.2.1 1, 16, .inl f_becomesz)), (m_goneOf, .inl (E.2.1 1, 16, .inl f_goneOfz))] ∧ (NB 25 32 f_actManyz) ∧ (SV f_actOfz f_actManyz) ∧ (CSE (cN f_caseMany) v0 v1) ∧ (v2 = -4 ∨ PLN (tRr f_tokens f_afters) v2) ∧ (0 ≤ v3.toInt) ∧ (v3.toInt ≤ 15) ∧ (0 ≤ v4.toInt) ∧ (v4.toInt ≤ 15) ∧ (v0 = nI k_) ∧ (v1 = nI i_) ∧ (k_ ≤ 3) ∧ (i_ ≤ 3) ∧ ((v2 = -4 ∧ upd f_hasIf (4 * k_ + i_) 0 = f_hasIfz ∧ f_actManyz = f_actMany ∧ f_actOfz = f_actOf ∧ f_whomz = f_whom) ∨ ∃ s_ : Nat, v2 = nI s_ ∧ s_ ≤ 7 ∧ upd f_hasIf (4 * k_ + i_) 1 = f_hasIfz ∧ upd f_actMany (8 + 4 * k_ + i_) (nI (cN f_actMany s_)) = f_actManyz ∧ CPG 32 s_ (8 + 4 * k_ + i_) 32 f_actOf f_actOfz ∧ CPG 32 s_ (8 + 4 * k_ + i_) 32 f_whom f_whomz) ∧ (upd f_becomes (4 * k_ + i_) v3 = f_becomesz) ∧ (upd f_goneOf (4 * k_ + i_) v4 = f_goneOfz)))) 0 0 := by
  refine ct_of rfl rfl ?_
  intro X C hT hin hro
  show WW X 6 E 0 [(0, .ref hm), (1, .int v0), (2, .int v1), (3, .int v2), (4, .int v3), (5, .int v4)] [] [(hm, .inr (12, [.ref m_manys, .ref m_reals, .ref m_factsOf, .ref m_possible, .int (nI q_undos), .int (nI q_models), .ref m_tape, .int (nI q_taped), .int q_fault, .int q_wrong, .int q_wrongAt, .int q_spot, .int q_place, .int q_token, .int q_value, .ref m_ends, .ref m_letters, .ref m_actOf, .ref m_whom, .ref m_actMany, .ref m_tokens, .ref m_afters, .ref m_afterOf, .int q_counted, .ref m_pile, .ref m_caseMany, .ref m_happen, .ref m_hasIf, .ref m_becomes, .ref m_goneOf, .ref m_heard, .ref m_pairs, .ref m_heaps, .int q_rounds, .int q_heapMany, .ref m_led, .ref m_newAt, .ref m_knowing, .ref m_firsts, .int (nI q_people), .ref m_secrets, .ref m_tried, .ref m_lanes, .ref m_lengths, .ref m_cells])), (m_caseMany, .inl (E.2.1 1, 4, .inl f_caseMany)), (m_hasIf, .inl (E.2.1 3, 16, .inl f_hasIf)), (m_actMany, .inl (E.2.1 1, 25, .inl f_actMany)), (m_actOf, .inl (E.2.1 1, 800, .inl f_actOf)), (m_whom, .inl (E.2.1 1, 800, .inl f_whom)), (m_tokens, .inl (E.2.1 1, 9, .inl f_tokens)), (m_afters, .inl (E.2.1 1, 9, .inl f_afters)), (m_becomes, .inl (E.2.1 1, 16, .inl f_becomes)), (m_goneOf, .inl (E.2.1 1, 16, .inl f_goneOf))] 0 0
  refine ww_aload_n C dX12_when_0 0 rfl rfl ?_
  refine ww_iload_n C dX12_when_1 1 rfl rfl ?_
  refine ww_iload_n C dX12_when_2 2 rfl rfl ?_
  refine ww_ci (wr := [(m_hasIf, .inl (E.2.1 3, 16, .inl f_hasIf)), (m_actMany, .inl (E.2.1 1, 25, .inl f_actMany)), (m_actOf, .inl (E.2.1 1, 800, .inl f_actOf)), (m_whom, .inl (E.2.1 1, 800, .inl f_whom)), (m_tokens, .inl (E.2.1 1, 9, .inl f_tokens)), (m_afters, .inl (E.2.1 1, 9, .inl f_afters)), (m_becomes, .inl (E.2.1 1, 16, .inl f_becomes)), (m_goneOf, .inl (E.2.1 1, 16, .inl f_goneOf))]) (k' := 0) (n' := 0) C (run_V (As := [.int v0, .int v1]) (rest := []) C (r_isCase X.2.1 E ro hm v0 v1 m_manys m_reals m_factsOf m_possible q_undos q_models m_tape q_taped q_fault q_wrong q_wrongAt q_spot q_place q_token q_value m_ends m_letters m_actOf m_whom m_actMany m_tokens m_afters m_afterOf q_counted m_pile m_caseMany m_happen m_hasIf m_becomes m_goneOf m_heard m_pairs m_heaps q_rounds q_heapMany m_led m_newAt m_knowing m_firsts q_people m_secrets m_tried m_lanes m_lengths m_cells f_caseMany hb_caseMany) mi_X12_isCase wl_X12_243 rfl 0 12 rfl rfl rfl rfl rfl dX12_when_3) (roK hro) [0, 1] [2, 3, 4, 5, 6, 7, 8, 9] rfl (gqk (by eq_refl)) (plk (by decide +kernel)) rfl (fun r_1 uz hw => ?_)
  rcases hw with hw | hw
  · refine an7 hw ?_
    clear hw
    intro he_8 he_9 h_2 h_3 h_4 h_5 h_6 hw
    have h_7 := hw
    clear hw
    have he_8 := he_8.symm
    subst he_8
    subst he_9
    refine ww_eq (ws' := [(m_hasIf, .inl (E.2.1 3, 16, .inl f_hasIf)), (m_actMany, .inl (E.2.1 1, 25, .inl f_actMany)), (m_actOf, .inl (E.2.1 1, 800, .inl f_actOf)), (m_whom, .inl (E.2.1 1, 800, .inl f_whom)), (m_tokens, .inl (E.2.1 1, 9, .inl f_tokens)), (m_afters, .inl (E.2.1 1, 9, .inl f_afters)), (m_becomes, .inl (E.2.1 1, 16, .inl f_becomes)), (m_goneOf, .inl (E.2.1 1, 16, .inl f_goneOf)), (hm, .inr (12, [.ref m_manys, .ref m_reals, .ref m_factsOf, .ref m_possible, .int (nI q_undos), .int (nI q_models), .ref m_tape, .int (nI q_taped), .int q_fault, .int q_wrong, .int q_wrongAt, .int q_spot, .int q_place, .int q_token, .int q_value, .ref m_ends, .ref m_letters, .ref m_actOf, .ref m_whom, .ref m_actMany, .ref m_tokens, .ref m_afters, .ref m_afterOf, .int q_counted, .ref m_pile, .ref m_caseMany, .ref m_happen, .ref m_hasIf, .ref m_becomes, .ref m_goneOf, .ref m_heard, .ref m_pairs, .ref m_heaps, .int q_rounds, .int q_heapMany, .ref m_led, .ref m_newAt, .ref m_knowing, .ref m_firsts, .int (nI q_people), .ref m_secrets, .ref m_tried, .ref m_lanes, .ref m_lengths, .ref m_cells])), (m_caseMany, .inl (E.2.1 1, 4, .inl f_caseMany))]) ?_ rfl rfl rfl
    refine ww_if_eq_f (tgt := 49) C dX12_when_6 (by decide) (by decide) ?_
    refine ww_iload_n C dX12_when_9 3 rfl rfl ?_
    refine ww_bipush (v := (-4)) C dX12_when_10 rfl ?_
    refine ww_icmp_eq (tgt := 23) C dX12_when_12 (by decide) (fun c_13 => ?_) (fun c_13 => ?_)
    · have zc_13 : v2.toInt = (-4) := i_eq rfl rfl c_13
      refine ww_iload C dX12_when_23 4 rfl ?_
      refine ww_i2l (v := v3.toInt64) C dX12_when_25 rfl ?_
      refine ww_lconst (v := 0) C dX12_when_26 rfl ?_
      refine ww_ldc2 C wv_X12_119 dX12_when_27 ?_
      refine ww_ci (wr := [(m_hasIf, .inl (E.2.1 3, 16, .inl f_hasIf)), (m_actMany, .inl (E.2.1 1, 25, .inl f_actMany)), (m_actOf, .inl (E.2.1 1, 800, .inl f_actOf)), (m_whom, .inl (E.2.1 1, 800, .inl f_whom)), (m_tokens, .inl (E.2.1 1, 9, .inl f_tokens)), (m_afters, .inl (E.2.1 1, 9, .inl f_afters)), (m_becomes, .inl (E.2.1 1, 16, .inl f_becomes)), (m_goneOf, .inl (E.2.1 1, 16, .inl f_goneOf)), (hm, .inr (12, [.ref m_manys, .ref m_reals, .ref m_factsOf, .ref m_possible, .int (nI q_undos), .int (nI q_models), .ref m_tape, .int (nI q_taped), .int q_fault, .int q_wrong, .int q_wrongAt, .int q_spot, .int q_place, .int q_token, .int q_value, .ref m_ends, .ref m_letters, .ref m_actOf, .ref m_whom, .ref m_actMany, .ref m_tokens, .ref m_afters, .ref m_afterOf, .int q_counted, .ref m_pile, .ref m_caseMany, .ref m_happen, .ref m_hasIf, .ref m_becomes, .ref m_goneOf, .ref m_heard, .ref m_pairs, .ref m_heaps, .int q_rounds, .int q_heapMany, .ref m_led, .ref m_newAt, .ref m_knowing, .ref m_firsts, .int (nI q_people), .ref m_secrets, .ref m_tried, .ref m_lanes, .ref m_lengths, .ref m_cells])), (m_caseMany, .inl (E.2.1 1, 4, .inl f_caseMany))]) (k' := 0) (n' := 0) C (run_S (As := [.long v3.toInt64, .long 0, .long 15]) (rest := []) C (r_in X.2.1 E ro v3.toInt64 0 15 v3.toInt 0 15 (Int32.toInt_toInt64 _) rfl rfl) ms_X12_in wl_X12_115 rfl rfl rfl rfl dX12_when_30) (roK hro) [] [0, 1, 2, 3, 4, 5, 6, 7, 8, 9] rfl (gqk (by eq_refl)) (plk (by decide +kernel)) rfl (fun r_14 uz hw => ?_)
      rcases hw with hw | hw
      · refine an3 hw ?_
        clear hw
        intro he_17 he_18 h_15 hw
        have h_16 := hw
        clear hw
        have he_17 := he_17.symm
        subst he_17
        subst he_18
        refine ww_eq (ws' := [(m_hasIf, .inl (E.2.1 3, 16, .inl f_hasIf)), (m_actMany, .inl (E.2.1 1, 25, .inl f_actMany)), (m_actOf, .inl (E.2.1 1, 800, .inl f_actOf)), (m_whom, .inl (E.2.1 1, 800, .inl f_whom)), (m_tokens, .inl (E.2.1 1, 9, .inl f_tokens)), (m_afters, .inl (E.2.1 1, 9, .inl f_afters)), (m_becomes, .inl (E.2.1 1, 16, .inl f_becomes)), (m_goneOf, .inl (E.2.1 1, 16, .inl f_goneOf)), (hm, .inr (12, [.ref m_manys, .ref m_reals, .ref m_factsOf, .ref m_possible, .int (nI q_undos), .int (nI q_models), .ref m_tape, .int (nI q_taped), .int q_fault, .int q_wrong, .int q_wrongAt, .int q_spot, .int q_place, .int q_token, .int q_value, .ref m_ends, .ref m_letters, .ref m_actOf, .ref m_whom, .ref m_actMany, .ref m_tokens, .ref m_afters, .ref m_afterOf, .int q_counted, .ref m_pile, .ref m_caseMany, .ref m_happen, .ref m_hasIf, .ref m_becomes, .ref m_goneOf, .ref m_heard, .ref m_pairs, .ref m_heaps, .int q_rounds, .int q_heapMany, .ref m_led, .ref m_newAt, .ref m_knowing, .ref m_firsts, .int (nI q_people), .ref m_secrets, .ref m_tried, .ref m_lanes, .ref m_lengths, .ref m_cells])), (m_caseMany, .inl (E.2.1 1, 4, .inl f_caseMany))]) ?_ rfl rfl rfl
        refine ww_if_eq_f (tgt := 49) C dX12_when_33 (by decide) (by decide) ?_
        refine ww_iload C dX12_when_36 5 rfl ?_
        refine ww_i2l (v := v4.toInt64) C dX12_when_38 rfl ?_
        refine ww_lconst (v := 0) C dX12_when_39 rfl ?_
        refine ww_ldc2 C wv_X12_119 dX12_when_40 ?_
        refine ww_ci (wr := [(m_hasIf, .inl (E.2.1 3, 16, .inl f_hasIf)), (m_actMany, .inl (E.2.1 1, 25, .inl f_actMany)), (m_actOf, .inl (E.2.1 1, 800, .inl f_actOf)), (m_whom, .inl (E.2.1 1, 800, .inl f_whom)), (m_tokens, .inl (E.2.1 1, 9, .inl f_tokens)), (m_afters, .inl (E.2.1 1, 9, .inl f_afters)), (m_becomes, .inl (E.2.1 1, 16, .inl f_becomes)), (m_goneOf, .inl (E.2.1 1, 16, .inl f_goneOf)), (hm, .inr (12, [.ref m_manys, .ref m_reals, .ref m_factsOf, .ref m_possible, .int (nI q_undos), .int (nI q_models), .ref m_tape, .int (nI q_taped), .int q_fault, .int q_wrong, .int q_wrongAt, .int q_spot, .int q_place, .int q_token, .int q_value, .ref m_ends, .ref m_letters, .ref m_actOf, .ref m_whom, .ref m_actMany, .ref m_tokens, .ref m_afters, .ref m_afterOf, .int q_counted, .ref m_pile, .ref m_caseMany, .ref m_happen, .ref m_hasIf, .ref m_becomes, .ref m_goneOf, .ref m_heard, .ref m_pairs, .ref m_heaps, .int q_rounds, .int q_heapMany, .ref m_led, .ref m_newAt, .ref m_knowing, .ref m_firsts, .int (nI q_people), .ref m_secrets, .ref m_tried, .ref m_lanes, .ref m_lengths, .ref m_cells])), (m_caseMany, .inl (E.2.1 1, 4, .inl f_caseMany))]) (k' := 0) (n' := 0) C (run_S (As := [.long v4.toInt64, .long 0, .long 15]) (rest := []) C (r_in X.2.1 E ro v4.toInt64 0 15 v4.toInt 0 15 (Int32.toInt_toInt64 _) rfl rfl) ms_X12_in wl_X12_115 rfl rfl rfl rfl dX12_when_43) (roK hro) [] [0, 1, 2, 3, 4, 5, 6, 7, 8, 9] rfl (gqk (by eq_refl)) (plk (by decide +kernel)) rfl (fun r_22 uz hw => ?_)
        rcases hw with hw | hw
        · refine an3 hw ?_
          clear hw
          intro he_25 he_26 h_23 hw
          have h_24 := hw
          clear hw
          have he_25 := he_25.symm
          subst he_25
          subst he_26
          refine ww_eq (ws' := [(m_hasIf, .inl (E.2.1 3, 16, .inl f_hasIf)), (m_actMany, .inl (E.2.1 1, 25, .inl f_actMany)), (m_actOf, .inl (E.2.1 1, 800, .inl f_actOf)), (m_whom, .inl (E.2.1 1, 800, .inl f_whom)), (m_tokens, .inl (E.2.1 1, 9, .inl f_tokens)), (m_afters, .inl (E.2.1 1, 9, .inl f_afters)), (m_becomes, .inl (E.2.1 1, 16, .inl f_becomes)), (m_goneOf, .inl (E.2.1 1, 16, .inl f_goneOf)), (hm, .inr (12, [.ref m_manys, .ref m_reals, .ref m_factsOf, .ref m_possible, .int (nI q_undos), .int (nI q_models), .ref m_tape, .int (nI q_taped), .int q_fault, .int q_wrong, .int q_wrongAt, .int q_spot, .int q_place, .int q_token, .int q_value, .ref m_ends, .ref m_letters, .ref m_actOf, .ref m_whom, .ref m_actMany, .ref m_tokens, .ref m_afters, .ref m_afterOf, .int q_counted, .ref m_pile, .ref m_caseMany, .ref m_happen, .ref m_hasIf, .ref m_becomes, .ref m_goneOf, .ref m_heard, .ref m_pairs, .ref m_heaps, .int q_rounds, .int q_heapMany, .ref m_led, .ref m_newAt, .ref m_knowing, .ref m_firsts, .int (nI q_people), .ref m_secrets, .ref m_tried, .ref m_lanes, .ref m_lengths, .ref m_cells])), (m_caseMany, .inl (E.2.1 1, 4, .inl f_caseMany))]) ?_ rfl rfl rfl
          refine ww_if_ne_t (tgt := 51) C dX12_when_46 (by decide) (by decide) ?_
          obtain ⟨j_30, hj_30, rfl⟩ := i_nat (x := v0) (N := 3) (by omega) (by omega)
          have hzj_30 := nI_toInt (n := j_30) (by omega)
          obtain ⟨j_31, hj_31, rfl⟩ := i_nat (x := v1) (N := 3) (by omega) (by omega)
          have hzj_31 := nI_toInt (n := j_31) (by omega)
          obtain rfl : v2 = -4 := Int32.toInt_inj.mp (by have e9 : (-4 : Int32).toInt = -4 := rfl; omega)
          refine ww_aload_n C dX12_when_51 0 rfl rfl ?_
          refine ww_iload_n C dX12_when_52 1 rfl rfl ?_
          refine ww_iload_n C dX12_when_53 2 rfl rfl ?_
          refine ww_iload_n C dX12_when_54 3 rfl rfl ?_
          refine ww_cv (wr := [(m_actMany, .inl (E.2.1 1, 25, .inl f_actMany)), (m_actOf, .inl (E.2.1 1, 800, .inl f_actOf)), (m_whom, .inl (E.2.1 1, 800, .inl f_whom)), (m_tokens, .inl (E.2.1 1, 9, .inl f_tokens)), (m_afters, .inl (E.2.1 1, 9, .inl f_afters)), (m_becomes, .inl (E.2.1 1, 16, .inl f_becomes)), (m_goneOf, .inl (E.2.1 1, 16, .inl f_goneOf)), (m_caseMany, .inl (E.2.1 1, 4, .inl f_caseMany))]) (k' := 0) (n' := 0) C (run_V (As := [.int (nI j_30), .int (nI j_31), .int (-4)]) (rest := []) C (r_giveIfN X.2.1 E ro hm j_30 j_31 m_manys m_reals m_factsOf m_possible q_undos q_models m_tape q_taped q_fault q_wrong q_wrongAt q_spot q_place q_token q_value m_ends m_letters m_actOf m_whom m_actMany m_tokens m_afters m_afterOf q_counted m_pile m_caseMany m_happen m_hasIf m_becomes m_goneOf m_heard m_pairs m_heaps q_rounds q_heapMany m_led m_newAt m_knowing m_firsts q_people m_secrets m_tried m_lanes m_lengths m_cells f_hasIf (by omega) (by omega)) mi_X12_giveIf wl_X12_250 rfl 0 12 rfl rfl rfl rfl rfl dX12_when_55) (roK hro) [8, 0] [1, 2, 3, 4, 5, 6, 7, 9] rfl (gqk (by eq_refl)) (plk (by decide +kernel)) rfl (fun uz hw => ?_)
          refine ex1 hw ?_
          clear hw
          intro f_hasIfz_33 hw
          refine an1 hw ?_
          clear hw
          intro he_35 hw
          have h_34 := hw
          clear hw
          subst he_35
          refine ww_eq (ws' := [(m_actMany, .inl (E.2.1 1, 25, .inl f_actMany)), (m_actOf, .inl (E.2.1 1, 800, .inl f_actOf)), (m_whom, .inl (E.2.1 1, 800, .inl f_whom)), (m_tokens, .inl (E.2.1 1, 9, .inl f_tokens)), (m_afters, .inl (E.2.1 1, 9, .inl f_afters)), (m_becomes, .inl (E.2.1 1, 16, .inl f_becomes)), (m_goneOf, .inl (E.2.1 1, 16, .inl f_goneOf)), (m_caseMany, .inl (E.2.1 1, 4, .inl f_caseMany)), (hm, .inr (12, [.ref m_manys, .ref m_reals, .ref m_factsOf, .ref m_possible, .int (nI q_undos), .int (nI q_models), .ref m_tape, .int (nI q_taped), .int q_fault, .int q_wrong, .int q_wrongAt, .int q_spot, .int q_place, .int q_token, .int q_value, .ref m_ends, .ref m_letters, .ref m_actOf, .ref m_whom, .ref m_actMany, .ref m_tokens, .ref m_afters, .ref m_afterOf, .int q_counted, .ref m_pile, .ref m_caseMany, .ref m_happen, .ref m_hasIf, .ref m_becomes, .ref m_goneOf, .ref m_heard, .ref m_pairs, .ref m_heaps, .int q_rounds, .int q_heapMany, .ref m_led, .ref m_newAt, .ref m_knowing, .ref m_firsts, .int (nI q_people), .ref m_secrets, .ref m_tried, .ref m_lanes, .ref m_lengths, .ref m_cells])), (m_hasIf, .inl (E.2.1 3, 16, .inl f_hasIfz_33))]) ?_ rfl rfl rfl
          refine ww_aload_n C dX12_when_58 0 rfl rfl ?_
          refine ww_get C fg_X12_62 8 rfl rfl dX12_when_59 ?_
          refine ww_iconst (v := 4) C dX12_when_62 rfl ?_
          refine ww_iload_n C dX12_when_63 1 rfl rfl ?_
          refine ww_imul (v := (nI (4 * j_30))) C dX12_when_64 (pk_mul 4 j_30) ?_
          refine ww_iload_n C dX12_when_65 2 rfl rfl ?_
          refine ww_iadd (v := (nI ((4 * j_30) + j_31))) C dX12_when_66 (nI_add (4 * j_30) j_31) ?_
          refine ww_iload C dX12_when_67 4 rfl ?_
          obtain ⟨f_36, ef_36⟩ : ∃ z : Nat → Int32, upd f_becomes ((4 * j_30) + j_31) v3 = z := ⟨_, rfl⟩
          refine ww_iast (ws' := [(m_actMany, .inl (E.2.1 1, 25, .inl f_actMany)), (m_actOf, .inl (E.2.1 1, 800, .inl f_actOf)), (m_whom, .inl (E.2.1 1, 800, .inl f_whom)), (m_tokens, .inl (E.2.1 1, 9, .inl f_tokens)), (m_afters, .inl (E.2.1 1, 9, .inl f_afters)), (m_becomes, .inl (E.2.1 1, 16, .inl f_36)), (m_goneOf, .inl (E.2.1 1, 16, .inl f_goneOf)), (m_caseMany, .inl (E.2.1 1, 4, .inl f_caseMany)), (hm, .inr (12, [.ref m_manys, .ref m_reals, .ref m_factsOf, .ref m_possible, .int (nI q_undos), .int (nI q_models), .ref m_tape, .int (nI q_taped), .int q_fault, .int q_wrong, .int q_wrongAt, .int q_spot, .int q_place, .int q_token, .int q_value, .ref m_ends, .ref m_letters, .ref m_actOf, .ref m_whom, .ref m_actMany, .ref m_tokens, .ref m_afters, .ref m_afterOf, .int q_counted, .ref m_pile, .ref m_caseMany, .ref m_happen, .ref m_hasIf, .ref m_becomes, .ref m_goneOf, .ref m_heard, .ref m_pairs, .ref m_heaps, .int q_rounds, .int q_heapMany, .ref m_led, .ref m_newAt, .ref m_knowing, .ref m_firsts, .int (nI q_people), .ref m_secrets, .ref m_tried, .ref m_lanes, .ref m_lengths, .ref m_cells])), (m_hasIf, .inl (E.2.1 3, 16, .inl f_hasIfz_33))]) C 5 rfl (vp_in_nI (by omega) (by omega)) (ldn2 (by omega) ef_36) rfl dX12_when_69 ?_
          refine ww_aload_n C dX12_when_70 0 rfl rfl ?_
          refine ww_get C fg_X12_65 8 rfl rfl dX12_when_71 ?_
          refine ww_iconst (v := 4) C dX12_when_74 rfl ?_
          refine ww_iload_n C dX12_when_75 1 rfl rfl ?_
          refine ww_imul (v := (nI (4 * j_30))) C dX12_when_76 (pk_mul 4 j_30) ?_
          refine ww_iload_n C dX12_when_77 2 rfl rfl ?_
          refine ww_iadd (v := (nI ((4 * j_30) + j_31))) C dX12_when_78 (nI_add (4 * j_30) j_31) ?_
          refine ww_iload C dX12_when_79 5 rfl ?_
          obtain ⟨f_37, ef_37⟩ : ∃ z : Nat → Int32, upd f_goneOf ((4 * j_30) + j_31) v4 = z := ⟨_, rfl⟩
          refine ww_iast (ws' := [(m_actMany, .inl (E.2.1 1, 25, .inl f_actMany)), (m_actOf, .inl (E.2.1 1, 800, .inl f_actOf)), (m_whom, .inl (E.2.1 1, 800, .inl f_whom)), (m_tokens, .inl (E.2.1 1, 9, .inl f_tokens)), (m_afters, .inl (E.2.1 1, 9, .inl f_afters)), (m_becomes, .inl (E.2.1 1, 16, .inl f_36)), (m_goneOf, .inl (E.2.1 1, 16, .inl f_37)), (m_caseMany, .inl (E.2.1 1, 4, .inl f_caseMany)), (hm, .inr (12, [.ref m_manys, .ref m_reals, .ref m_factsOf, .ref m_possible, .int (nI q_undos), .int (nI q_models), .ref m_tape, .int (nI q_taped), .int q_fault, .int q_wrong, .int q_wrongAt, .int q_spot, .int q_place, .int q_token, .int q_value, .ref m_ends, .ref m_letters, .ref m_actOf, .ref m_whom, .ref m_actMany, .ref m_tokens, .ref m_afters, .ref m_afterOf, .int q_counted, .ref m_pile, .ref m_caseMany, .ref m_happen, .ref m_hasIf, .ref m_becomes, .ref m_goneOf, .ref m_heard, .ref m_pairs, .ref m_heaps, .int q_rounds, .int q_heapMany, .ref m_led, .ref m_newAt, .ref m_knowing, .ref m_firsts, .int (nI q_people), .ref m_secrets, .ref m_tried, .ref m_lanes, .ref m_lengths, .ref m_cells])), (m_hasIf, .inl (E.2.1 3, 16, .inl f_hasIfz_33))]) C 6 rfl (vp_in_nI (by omega) (by omega)) (ldn2 (by omega) ef_37) rfl dX12_when_81 ?_
          refine ww_iconst (v := 1) C dX12_when_82 rfl ?_
          exact ww_iret (u := [(hm, .inr (12, [.ref m_manys, .ref m_reals, .ref m_factsOf, .ref m_possible, .int (nI q_undos), .int (nI q_models), .ref m_tape, .int (nI q_taped), .int q_fault, .int q_wrong, .int q_wrongAt, .int q_spot, .int q_place, .int q_token, .int q_value, .ref m_ends, .ref m_letters, .ref m_actOf, .ref m_whom, .ref m_actMany, .ref m_tokens, .ref m_afters, .ref m_afterOf, .int q_counted, .ref m_pile, .ref m_caseMany, .ref m_happen, .ref m_hasIf, .ref m_becomes, .ref m_goneOf, .ref m_heard, .ref m_pairs, .ref m_heaps, .int q_rounds, .int q_heapMany, .ref m_led, .ref m_newAt, .ref m_knowing, .ref m_firsts, .int (nI q_people), .ref m_secrets, .ref m_tried, .ref m_lanes, .ref m_lengths, .ref m_cells])), (m_caseMany, .inl (E.2.1 1, 4, .inl f_caseMany)), (m_hasIf, .inl (E.2.1 3, 16, .inl f_hasIfz_33)), (m_actMany, .inl (E.2.1 1, 25, .inl f_actMany)), (m_actOf, .inl (E.2.1 1, 800, .inl f_actOf)), (m_whom, .inl (E.2.1 1, 800, .inl f_whom)), (m_tokens, .inl (E.2.1 1, 9, .inl f_tokens)), (m_afters, .inl (E.2.1 1, 9, .inl f_afters)), (m_becomes, .inl (E.2.1 1, 16, .inl f_36)), (m_goneOf, .inl (E.2.1 1, 16, .inl f_37))]) C hT [8, 7, 9, 0, 1, 2, 3, 4, 5, 6] (gqk (by eq_refl)) (ndk (by decide +kernel)) rfl rfl dX12_when_83 (Or.inr ⟨j_30, j_31, f_hasIfz_33, f_actMany, f_actOf, f_whom, f_36, f_37, rfl, rfl, hb_actMany, hsv, h_7, (Or.inl rfl), (by first | assumption | omega | decide), (by first | assumption | omega | decide), (by first | assumption | omega | decide), (by first | assumption | omega | decide), rfl, rfl, (by omega), (by omega), (Or.inl ⟨rfl, h_34, rfl, rfl, rfl⟩), ef_36, ef_37⟩)
        · refine an2 hw ?_
          clear hw
          intro he_28 he_29 hw
          have h_27 := hw
          clear hw
          have he_28 := he_28.symm
          subst he_28
          subst he_29
          refine ww_eq (ws' := [(m_hasIf, .inl (E.2.1 3, 16, .inl f_hasIf)), (m_actMany, .inl (E.2.1 1, 25, .inl f_actMany)), (m_actOf, .inl (E.2.1 1, 800, .inl f_actOf)), (m_whom, .inl (E.2.1 1, 800, .inl f_whom)), (m_tokens, .inl (E.2.1 1, 9, .inl f_tokens)), (m_afters, .inl (E.2.1 1, 9, .inl f_afters)), (m_becomes, .inl (E.2.1 1, 16, .inl f_becomes)), (m_goneOf, .inl (E.2.1 1, 16, .inl f_goneOf)), (hm, .inr (12, [.ref m_manys, .ref m_reals, .ref m_factsOf, .ref m_possible, .int (nI q_undos), .int (nI q_models), .ref m_tape, .int (nI q_taped), .int q_fault, .int q_wrong, .int q_wrongAt, .int q_spot, .int q_place, .int q_token, .int q_value, .ref m_ends, .ref m_letters, .ref m_actOf, .ref m_whom, .ref m_actMany, .ref m_tokens, .ref m_afters, .ref m_afterOf, .int q_counted, .ref m_pile, .ref m_caseMany, .ref m_happen, .ref m_hasIf, .ref m_becomes, .ref m_goneOf, .ref m_heard, .ref m_pairs, .ref m_heaps, .int q_rounds, .int q_heapMany, .ref m_led, .ref m_newAt, .ref m_knowing, .ref m_firsts, .int (nI q_people), .ref m_secrets, .ref m_tried, .ref m_lanes, .ref m_lengths, .ref m_cells])), (m_caseMany, .inl (E.2.1 1, 4, .inl f_caseMany))]) ?_ rfl rfl rfl
          refine ww_if_ne_f (tgt := 51) C dX12_when_46 (by decide) (rfl) ?_
          refine ww_iconst (v := (-1)) C dX12_when_49 rfl ?_
          exact ww_iret (u := [(hm, .inr (12, [.ref m_manys, .ref m_reals, .ref m_factsOf, .ref m_possible, .int (nI q_undos), .int (nI q_models), .ref m_tape, .int (nI q_taped), .int q_fault, .int q_wrong, .int q_wrongAt, .int q_spot, .int q_place, .int q_token, .int q_value, .ref m_ends, .ref m_letters, .ref m_actOf, .ref m_whom, .ref m_actMany, .ref m_tokens, .ref m_afters, .ref m_afterOf, .int q_counted, .ref m_pile, .ref m_caseMany, .ref m_happen, .ref m_hasIf, .ref m_becomes, .ref m_goneOf, .ref m_heard, .ref m_pairs, .ref m_heaps, .int q_rounds, .int q_heapMany, .ref m_led, .ref m_newAt, .ref m_knowing, .ref m_firsts, .int (nI q_people), .ref m_secrets, .ref m_tried, .ref m_lanes, .ref m_lengths, .ref m_cells])), (m_caseMany, .inl (E.2.1 1, 4, .inl f_caseMany)), (m_hasIf, .inl (E.2.1 3, 16, .inl f_hasIf)), (m_actMany, .inl (E.2.1 1, 25, .inl f_actMany)), (m_actOf, .inl (E.2.1 1, 800, .inl f_actOf)), (m_whom, .inl (E.2.1 1, 800, .inl f_whom)), (m_tokens, .inl (E.2.1 1, 9, .inl f_tokens)), (m_afters, .inl (E.2.1 1, 9, .inl f_afters)), (m_becomes, .inl (E.2.1 1, 16, .inl f_becomes)), (m_goneOf, .inl (E.2.1 1, 16, .inl f_goneOf))]) C hT [8, 9, 0, 1, 2, 3, 4, 5, 6, 7] (gqk (by eq_refl)) (ndk (by decide +kernel)) rfl rfl dX12_when_50 (Or.inl ⟨rfl, rfl, (Or.inr (Or.inr (by omega)))⟩)
      · refine an2 hw ?_
        clear hw
        intro he_20 he_21 hw
        have h_19 := hw
        clear hw
        have he_20 := he_20.symm
        subst he_20
        subst he_21
        refine ww_eq (ws' := [(m_hasIf, .inl (E.2.1 3, 16, .inl f_hasIf)), (m_actMany, .inl (E.2.1 1, 25, .inl f_actMany)), (m_actOf, .inl (E.2.1 1, 800, .inl f_actOf)), (m_whom, .inl (E.2.1 1, 800, .inl f_whom)), (m_tokens, .inl (E.2.1 1, 9, .inl f_tokens)), (m_afters, .inl (E.2.1 1, 9, .inl f_afters)), (m_becomes, .inl (E.2.1 1, 16, .inl f_becomes)), (m_goneOf, .inl (E.2.1 1, 16, .inl f_goneOf)), (hm, .inr (12, [.ref m_manys, .ref m_reals, .ref m_factsOf, .ref m_possible, .int (nI q_undos), .int (nI q_models), .ref m_tape, .int (nI q_taped), .int q_fault, .int q_wrong, .int q_wrongAt, .int q_spot, .int q_place, .int q_token, .int q_value, .ref m_ends, .ref m_letters, .ref m_actOf, .ref m_whom, .ref m_actMany, .ref m_tokens, .ref m_afters, .ref m_afterOf, .int q_counted, .ref m_pile, .ref m_caseMany, .ref m_happen, .ref m_hasIf, .ref m_becomes, .ref m_goneOf, .ref m_heard, .ref m_pairs, .ref m_heaps, .int q_rounds, .int q_heapMany, .ref m_led, .ref m_newAt, .ref m_knowing, .ref m_firsts, .int (nI q_people), .ref m_secrets, .ref m_tried, .ref m_lanes, .ref m_lengths, .ref m_cells])), (m_caseMany, .inl (E.2.1 1, 4, .inl f_caseMany))]) ?_ rfl rfl rfl
        refine ww_if_eq_t (tgt := 49) C dX12_when_33 (by decide) (rfl) ?_
        refine ww_iconst (v := (-1)) C dX12_when_49 rfl ?_
        exact ww_iret (u := [(hm, .inr (12, [.ref m_manys, .ref m_reals, .ref m_factsOf, .ref m_possible, .int (nI q_undos), .int (nI q_models), .ref m_tape, .int (nI q_taped), .int q_fault, .int q_wrong, .int q_wrongAt, .int q_spot, .int q_place, .int q_token, .int q_value, .ref m_ends, .ref m_letters, .ref m_actOf, .ref m_whom, .ref m_actMany, .ref m_tokens, .ref m_afters, .ref m_afterOf, .int q_counted, .ref m_pile, .ref m_caseMany, .ref m_happen, .ref m_hasIf, .ref m_becomes, .ref m_goneOf, .ref m_heard, .ref m_pairs, .ref m_heaps, .int q_rounds, .int q_heapMany, .ref m_led, .ref m_newAt, .ref m_knowing, .ref m_firsts, .int (nI q_people), .ref m_secrets, .ref m_tried, .ref m_lanes, .ref m_lengths, .ref m_cells])), (m_caseMany, .inl (E.2.1 1, 4, .inl f_caseMany)), (m_hasIf, .inl (E.2.1 3, 16, .inl f_hasIf)), (m_actMany, .inl (E.2.1 1, 25, .inl f_actMany)), (m_actOf, .inl (E.2.1 1, 800, .inl f_actOf)), (m_whom, .inl (E.2.1 1, 800, .inl f_whom)), (m_tokens, .inl (E.2.1 1, 9, .inl f_tokens)), (m_afters, .inl (E.2.1 1, 9, .inl f_afters)), (m_becomes, .inl (E.2.1 1, 16, .inl f_becomes)), (m_goneOf, .inl (E.2.1 1, 16, .inl f_goneOf))]) C hT [8, 9, 0, 1, 2, 3, 4, 5, 6, 7] (gqk (by eq_refl)) (ndk (by decide +kernel)) rfl rfl dX12_when_50 (Or.inl ⟨rfl, rfl, (Or.inr (Or.inr (by omega)))⟩)
    · have zc_13 : v2.toInt ≠ (-4) := i_ne rfl rfl c_13
      refine ww_aload_n C dX12_when_15 0 rfl rfl ?_
      refine ww_iload_n C dX12_when_16 3 rfl rfl ?_
      refine ww_ci (wr := [(m_hasIf, .inl (E.2.1 3, 16, .inl f_hasIf)), (m_actMany, .inl (E.2.1 1, 25, .inl f_actMany)), (m_actOf, .inl (E.2.1 1, 800, .inl f_actOf)), (m_whom, .inl (E.2.1 1, 800, .inl f_whom)), (m_becomes, .inl (E.2.1 1, 16, .inl f_becomes)), (m_goneOf, .inl (E.2.1 1, 16, .inl f_goneOf)), (m_caseMany, .inl (E.2.1 1, 4, .inl f_caseMany))]) (k' := 0) (n' := 0) C (run_V (As := [.int v2]) (rest := []) C (r_isPlain X.2.1 E ro hm v2 m_manys m_reals m_factsOf m_possible q_undos q_models m_tape q_taped q_fault q_wrong q_wrongAt q_spot q_place q_token q_value m_ends m_letters m_actOf m_whom m_actMany m_tokens m_afters m_afterOf q_counted m_pile m_caseMany m_happen m_hasIf m_becomes m_goneOf m_heard m_pairs m_heaps q_rounds q_heapMany m_led m_newAt m_knowing m_firsts q_people m_secrets m_tried m_lanes m_lengths m_cells f_tokens f_afters hb_afters) mi_X12_isPlain wl_X12_247 rfl 0 12 rfl rfl rfl rfl rfl dX12_when_17) (roK hro) [8, 4, 5] [0, 1, 2, 3, 6, 7, 9] rfl rfl (plk (by decide +kernel)) rfl (fun r_38 uz hw => ?_)
      rcases hw with hw | hw
      · refine an4 hw ?_
        clear hw
        intro he_42 he_43 h_39 h_40 hw
        have h_41 := hw
        clear hw
        have he_42 := he_42.symm
        subst he_42
        subst he_43
        refine ww_eq (ws' := [(m_hasIf, .inl (E.2.1 3, 16, .inl f_hasIf)), (m_actMany, .inl (E.2.1 1, 25, .inl f_actMany)), (m_actOf, .inl (E.2.1 1, 800, .inl f_actOf)), (m_whom, .inl (E.2.1 1, 800, .inl f_whom)), (m_becomes, .inl (E.2.1 1, 16, .inl f_becomes)), (m_goneOf, .inl (E.2.1 1, 16, .inl f_goneOf)), (m_caseMany, .inl (E.2.1 1, 4, .inl f_caseMany)), (hm, .inr (12, [.ref m_manys, .ref m_reals, .ref m_factsOf, .ref m_possible, .int (nI q_undos), .int (nI q_models), .ref m_tape, .int (nI q_taped), .int q_fault, .int q_wrong, .int q_wrongAt, .int q_spot, .int q_place, .int q_token, .int q_value, .ref m_ends, .ref m_letters, .ref m_actOf, .ref m_whom, .ref m_actMany, .ref m_tokens, .ref m_afters, .ref m_afterOf, .int q_counted, .ref m_pile, .ref m_caseMany, .ref m_happen, .ref m_hasIf, .ref m_becomes, .ref m_goneOf, .ref m_heard, .ref m_pairs, .ref m_heaps, .int q_rounds, .int q_heapMany, .ref m_led, .ref m_newAt, .ref m_knowing, .ref m_firsts, .int (nI q_people), .ref m_secrets, .ref m_tried, .ref m_lanes, .ref m_lengths, .ref m_cells])), (m_tokens, .inl (E.2.1 1, 9, .inl f_tokens)), (m_afters, .inl (E.2.1 1, 9, .inl f_afters))]) ?_ rfl rfl rfl
        refine ww_if_eq_f (tgt := 49) C dX12_when_20 (by decide) (by decide) ?_
        refine ww_iload C dX12_when_23 4 rfl ?_
        refine ww_i2l (v := v3.toInt64) C dX12_when_25 rfl ?_
        refine ww_lconst (v := 0) C dX12_when_26 rfl ?_
        refine ww_ldc2 C wv_X12_119 dX12_when_27 ?_
        refine ww_ci (wr := [(m_hasIf, .inl (E.2.1 3, 16, .inl f_hasIf)), (m_actMany, .inl (E.2.1 1, 25, .inl f_actMany)), (m_actOf, .inl (E.2.1 1, 800, .inl f_actOf)), (m_whom, .inl (E.2.1 1, 800, .inl f_whom)), (m_becomes, .inl (E.2.1 1, 16, .inl f_becomes)), (m_goneOf, .inl (E.2.1 1, 16, .inl f_goneOf)), (m_caseMany, .inl (E.2.1 1, 4, .inl f_caseMany)), (hm, .inr (12, [.ref m_manys, .ref m_reals, .ref m_factsOf, .ref m_possible, .int (nI q_undos), .int (nI q_models), .ref m_tape, .int (nI q_taped), .int q_fault, .int q_wrong, .int q_wrongAt, .int q_spot, .int q_place, .int q_token, .int q_value, .ref m_ends, .ref m_letters, .ref m_actOf, .ref m_whom, .ref m_actMany, .ref m_tokens, .ref m_afters, .ref m_afterOf, .int q_counted, .ref m_pile, .ref m_caseMany, .ref m_happen, .ref m_hasIf, .ref m_becomes, .ref m_goneOf, .ref m_heard, .ref m_pairs, .ref m_heaps, .int q_rounds, .int q_heapMany, .ref m_led, .ref m_newAt, .ref m_knowing, .ref m_firsts, .int (nI q_people), .ref m_secrets, .ref m_tried, .ref m_lanes, .ref m_lengths, .ref m_cells])), (m_tokens, .inl (E.2.1 1, 9, .inl f_tokens)), (m_afters, .inl (E.2.1 1, 9, .inl f_afters))]) (k' := 0) (n' := 0) C (run_S (As := [.long v3.toInt64, .long 0, .long 15]) (rest := []) C (r_in X.2.1 E ro v3.toInt64 0 15 v3.toInt 0 15 (Int32.toInt_toInt64 _) rfl rfl) ms_X12_in wl_X12_115 rfl rfl rfl rfl dX12_when_30) (roK hro) [] [0, 1, 2, 3, 4, 5, 6, 7, 8, 9] rfl (gqk (by eq_refl)) (plk (by decide +kernel)) rfl (fun r_47 uz hw => ?_)
        rcases hw with hw | hw
        · refine an3 hw ?_
          clear hw
          intro he_50 he_51 h_48 hw
          have h_49 := hw
          clear hw
          have he_50 := he_50.symm
          subst he_50
          subst he_51
          refine ww_eq (ws' := [(m_hasIf, .inl (E.2.1 3, 16, .inl f_hasIf)), (m_actMany, .inl (E.2.1 1, 25, .inl f_actMany)), (m_actOf, .inl (E.2.1 1, 800, .inl f_actOf)), (m_whom, .inl (E.2.1 1, 800, .inl f_whom)), (m_becomes, .inl (E.2.1 1, 16, .inl f_becomes)), (m_goneOf, .inl (E.2.1 1, 16, .inl f_goneOf)), (m_caseMany, .inl (E.2.1 1, 4, .inl f_caseMany)), (hm, .inr (12, [.ref m_manys, .ref m_reals, .ref m_factsOf, .ref m_possible, .int (nI q_undos), .int (nI q_models), .ref m_tape, .int (nI q_taped), .int q_fault, .int q_wrong, .int q_wrongAt, .int q_spot, .int q_place, .int q_token, .int q_value, .ref m_ends, .ref m_letters, .ref m_actOf, .ref m_whom, .ref m_actMany, .ref m_tokens, .ref m_afters, .ref m_afterOf, .int q_counted, .ref m_pile, .ref m_caseMany, .ref m_happen, .ref m_hasIf, .ref m_becomes, .ref m_goneOf, .ref m_heard, .ref m_pairs, .ref m_heaps, .int q_rounds, .int q_heapMany, .ref m_led, .ref m_newAt, .ref m_knowing, .ref m_firsts, .int (nI q_people), .ref m_secrets, .ref m_tried, .ref m_lanes, .ref m_lengths, .ref m_cells])), (m_tokens, .inl (E.2.1 1, 9, .inl f_tokens)), (m_afters, .inl (E.2.1 1, 9, .inl f_afters))]) ?_ rfl rfl rfl
          refine ww_if_eq_f (tgt := 49) C dX12_when_33 (by decide) (by decide) ?_
          refine ww_iload C dX12_when_36 5 rfl ?_
          refine ww_i2l (v := v4.toInt64) C dX12_when_38 rfl ?_
          refine ww_lconst (v := 0) C dX12_when_39 rfl ?_
          refine ww_ldc2 C wv_X12_119 dX12_when_40 ?_
          refine ww_ci (wr := [(m_hasIf, .inl (E.2.1 3, 16, .inl f_hasIf)), (m_actMany, .inl (E.2.1 1, 25, .inl f_actMany)), (m_actOf, .inl (E.2.1 1, 800, .inl f_actOf)), (m_whom, .inl (E.2.1 1, 800, .inl f_whom)), (m_becomes, .inl (E.2.1 1, 16, .inl f_becomes)), (m_goneOf, .inl (E.2.1 1, 16, .inl f_goneOf)), (m_caseMany, .inl (E.2.1 1, 4, .inl f_caseMany)), (hm, .inr (12, [.ref m_manys, .ref m_reals, .ref m_factsOf, .ref m_possible, .int (nI q_undos), .int (nI q_models), .ref m_tape, .int (nI q_taped), .int q_fault, .int q_wrong, .int q_wrongAt, .int q_spot, .int q_place, .int q_token, .int q_value, .ref m_ends, .ref m_letters, .ref m_actOf, .ref m_whom, .ref m_actMany, .ref m_tokens, .ref m_afters, .ref m_afterOf, .int q_counted, .ref m_pile, .ref m_caseMany, .ref m_happen, .ref m_hasIf, .ref m_becomes, .ref m_goneOf, .ref m_heard, .ref m_pairs, .ref m_heaps, .int q_rounds, .int q_heapMany, .ref m_led, .ref m_newAt, .ref m_knowing, .ref m_firsts, .int (nI q_people), .ref m_secrets, .ref m_tried, .ref m_lanes, .ref m_lengths, .ref m_cells])), (m_tokens, .inl (E.2.1 1, 9, .inl f_tokens)), (m_afters, .inl (E.2.1 1, 9, .inl f_afters))]) (k' := 0) (n' := 0) C (run_S (As := [.long v4.toInt64, .long 0, .long 15]) (rest := []) C (r_in X.2.1 E ro v4.toInt64 0 15 v4.toInt 0 15 (Int32.toInt_toInt64 _) rfl rfl) ms_X12_in wl_X12_115 rfl rfl rfl rfl dX12_when_43) (roK hro) [] [0, 1, 2, 3, 4, 5, 6, 7, 8, 9] rfl (gqk (by eq_refl)) (plk (by decide +kernel)) rfl (fun r_55 uz hw => ?_)
          rcases hw with hw | hw
          · refine an3 hw ?_
            clear hw
            intro he_58 he_59 h_56 hw
            have h_57 := hw
            clear hw
            have he_58 := he_58.symm
            subst he_58
            subst he_59
            refine ww_eq (ws' := [(m_hasIf, .inl (E.2.1 3, 16, .inl f_hasIf)), (m_actMany, .inl (E.2.1 1, 25, .inl f_actMany)), (m_actOf, .inl (E.2.1 1, 800, .inl f_actOf)), (m_whom, .inl (E.2.1 1, 800, .inl f_whom)), (m_becomes, .inl (E.2.1 1, 16, .inl f_becomes)), (m_goneOf, .inl (E.2.1 1, 16, .inl f_goneOf)), (m_caseMany, .inl (E.2.1 1, 4, .inl f_caseMany)), (hm, .inr (12, [.ref m_manys, .ref m_reals, .ref m_factsOf, .ref m_possible, .int (nI q_undos), .int (nI q_models), .ref m_tape, .int (nI q_taped), .int q_fault, .int q_wrong, .int q_wrongAt, .int q_spot, .int q_place, .int q_token, .int q_value, .ref m_ends, .ref m_letters, .ref m_actOf, .ref m_whom, .ref m_actMany, .ref m_tokens, .ref m_afters, .ref m_afterOf, .int q_counted, .ref m_pile, .ref m_caseMany, .ref m_happen, .ref m_hasIf, .ref m_becomes, .ref m_goneOf, .ref m_heard, .ref m_pairs, .ref m_heaps, .int q_rounds, .int q_heapMany, .ref m_led, .ref m_newAt, .ref m_knowing, .ref m_firsts, .int (nI q_people), .ref m_secrets, .ref m_tried, .ref m_lanes, .ref m_lengths, .ref m_cells])), (m_tokens, .inl (E.2.1 1, 9, .inl f_tokens)), (m_afters, .inl (E.2.1 1, 9, .inl f_afters))]) ?_ rfl rfl rfl
            refine ww_if_ne_t (tgt := 51) C dX12_when_46 (by decide) (by decide) ?_
            obtain ⟨j_63, hj_63, rfl⟩ := i_nat (x := v0) (N := 3) (by omega) (by omega)
            have hzj_63 := nI_toInt (n := j_63) (by omega)
            obtain ⟨j_64, hj_64, rfl⟩ := i_nat (x := v1) (N := 3) (by omega) (by omega)
            have hzj_64 := nI_toInt (n := j_64) (by omega)
            obtain ⟨j_65, hj_65, rfl⟩ := i_nat (x := v2) (N := 7) (by omega) (by omega)
            have hzj_65 := nI_toInt (n := j_65) (by omega)
            refine ww_aload_n C dX12_when_51 0 rfl rfl ?_
            refine ww_iload_n C dX12_when_52 1 rfl rfl ?_
            refine ww_iload_n C dX12_when_53 2 rfl rfl ?_
            refine ww_iload_n C dX12_when_54 3 rfl rfl ?_
            refine ww_cv (wr := [(m_becomes, .inl (E.2.1 1, 16, .inl f_becomes)), (m_goneOf, .inl (E.2.1 1, 16, .inl f_goneOf)), (m_caseMany, .inl (E.2.1 1, 4, .inl f_caseMany)), (m_tokens, .inl (E.2.1 1, 9, .inl f_tokens)), (m_afters, .inl (E.2.1 1, 9, .inl f_afters))]) (k' := 0) (n' := 0) C (run_V (As := [.int (nI j_63), .int (nI j_64), .int (nI j_65)]) (rest := []) C (r_giveIf X.2.1 E ro hm j_63 j_64 j_65 m_manys m_reals m_factsOf m_possible q_undos q_models m_tape q_taped q_fault q_wrong q_wrongAt q_spot q_place q_token q_value m_ends m_letters m_actOf m_whom m_actMany m_tokens m_afters m_afterOf q_counted m_pile m_caseMany m_happen m_hasIf m_becomes m_goneOf m_heard m_pairs m_heaps q_rounds q_heapMany m_led m_newAt m_knowing m_firsts q_people m_secrets m_tried m_lanes m_lengths m_cells f_hasIf f_actMany f_actOf f_whom hb_actMany hsv (by omega) (by omega) (by omega)) mi_X12_giveIf wl_X12_250 rfl 0 12 rfl rfl rfl rfl rfl dX12_when_55) (roK hro) [7, 0, 1, 2, 3] [4, 5, 6, 8, 9] rfl rfl (plk (by decide +kernel)) rfl (fun uz hw => ?_)
            refine ex4 hw ?_
            clear hw
            intro f_hasIfz_67 f_actManyz_68 f_actOfz_69 f_whomz_70 hw
            refine an6 hw ?_
            clear hw
            intro he_77 h_71 h_72 h_73 h_74 h_75 hw
            have h_76 := hw
            clear hw
            subst he_77
            refine ww_eq (ws' := [(m_becomes, .inl (E.2.1 1, 16, .inl f_becomes)), (m_goneOf, .inl (E.2.1 1, 16, .inl f_goneOf)), (m_caseMany, .inl (E.2.1 1, 4, .inl f_caseMany)), (m_tokens, .inl (E.2.1 1, 9, .inl f_tokens)), (m_afters, .inl (E.2.1 1, 9, .inl f_afters)), (hm, .inr (12, [.ref m_manys, .ref m_reals, .ref m_factsOf, .ref m_possible, .int (nI q_undos), .int (nI q_models), .ref m_tape, .int (nI q_taped), .int q_fault, .int q_wrong, .int q_wrongAt, .int q_spot, .int q_place, .int q_token, .int q_value, .ref m_ends, .ref m_letters, .ref m_actOf, .ref m_whom, .ref m_actMany, .ref m_tokens, .ref m_afters, .ref m_afterOf, .int q_counted, .ref m_pile, .ref m_caseMany, .ref m_happen, .ref m_hasIf, .ref m_becomes, .ref m_goneOf, .ref m_heard, .ref m_pairs, .ref m_heaps, .int q_rounds, .int q_heapMany, .ref m_led, .ref m_newAt, .ref m_knowing, .ref m_firsts, .int (nI q_people), .ref m_secrets, .ref m_tried, .ref m_lanes, .ref m_lengths, .ref m_cells])), (m_hasIf, .inl (E.2.1 3, 16, .inl f_hasIfz_67)), (m_actMany, .inl (E.2.1 1, 25, .inl f_actManyz_68)), (m_actOf, .inl (E.2.1 1, 800, .inl f_actOfz_69)), (m_whom, .inl (E.2.1 1, 800, .inl f_whomz_70))]) ?_ rfl rfl rfl
            refine ww_aload_n C dX12_when_58 0 rfl rfl ?_
            refine ww_get C fg_X12_62 5 rfl rfl dX12_when_59 ?_
            refine ww_iconst (v := 4) C dX12_when_62 rfl ?_
            refine ww_iload_n C dX12_when_63 1 rfl rfl ?_
            refine ww_imul (v := (nI (4 * j_63))) C dX12_when_64 (pk_mul 4 j_63) ?_
            refine ww_iload_n C dX12_when_65 2 rfl rfl ?_
            refine ww_iadd (v := (nI ((4 * j_63) + j_64))) C dX12_when_66 (nI_add (4 * j_63) j_64) ?_
            refine ww_iload C dX12_when_67 4 rfl ?_
            obtain ⟨f_78, ef_78⟩ : ∃ z : Nat → Int32, upd f_becomes ((4 * j_63) + j_64) v3 = z := ⟨_, rfl⟩
            refine ww_iast (ws' := [(m_becomes, .inl (E.2.1 1, 16, .inl f_78)), (m_goneOf, .inl (E.2.1 1, 16, .inl f_goneOf)), (m_caseMany, .inl (E.2.1 1, 4, .inl f_caseMany)), (m_tokens, .inl (E.2.1 1, 9, .inl f_tokens)), (m_afters, .inl (E.2.1 1, 9, .inl f_afters)), (hm, .inr (12, [.ref m_manys, .ref m_reals, .ref m_factsOf, .ref m_possible, .int (nI q_undos), .int (nI q_models), .ref m_tape, .int (nI q_taped), .int q_fault, .int q_wrong, .int q_wrongAt, .int q_spot, .int q_place, .int q_token, .int q_value, .ref m_ends, .ref m_letters, .ref m_actOf, .ref m_whom, .ref m_actMany, .ref m_tokens, .ref m_afters, .ref m_afterOf, .int q_counted, .ref m_pile, .ref m_caseMany, .ref m_happen, .ref m_hasIf, .ref m_becomes, .ref m_goneOf, .ref m_heard, .ref m_pairs, .ref m_heaps, .int q_rounds, .int q_heapMany, .ref m_led, .ref m_newAt, .ref m_knowing, .ref m_firsts, .int (nI q_people), .ref m_secrets, .ref m_tried, .ref m_lanes, .ref m_lengths, .ref m_cells])), (m_hasIf, .inl (E.2.1 3, 16, .inl f_hasIfz_67)), (m_actMany, .inl (E.2.1 1, 25, .inl f_actManyz_68)), (m_actOf, .inl (E.2.1 1, 800, .inl f_actOfz_69)), (m_whom, .inl (E.2.1 1, 800, .inl f_whomz_70))]) C 0 rfl (vp_in_nI (by omega) (by omega)) (ldn2 (by omega) ef_78) rfl dX12_when_69 ?_
            refine ww_aload_n C dX12_when_70 0 rfl rfl ?_
            refine ww_get C fg_X12_65 5 rfl rfl dX12_when_71 ?_
            refine ww_iconst (v := 4) C dX12_when_74 rfl ?_
            refine ww_iload_n C dX12_when_75 1 rfl rfl ?_
            refine ww_imul (v := (nI (4 * j_63))) C dX12_when_76 (pk_mul 4 j_63) ?_
            refine ww_iload_n C dX12_when_77 2 rfl rfl ?_
            refine ww_iadd (v := (nI ((4 * j_63) + j_64))) C dX12_when_78 (nI_add (4 * j_63) j_64) ?_
            refine ww_iload C dX12_when_79 5 rfl ?_
            obtain ⟨f_79, ef_79⟩ : ∃ z : Nat → Int32, upd f_goneOf ((4 * j_63) + j_64) v4 = z := ⟨_, rfl⟩
            refine ww_iast (ws' := [(m_becomes, .inl (E.2.1 1, 16, .inl f_78)), (m_goneOf, .inl (E.2.1 1, 16, .inl f_79)), (m_caseMany, .inl (E.2.1 1, 4, .inl f_caseMany)), (m_tokens, .inl (E.2.1 1, 9, .inl f_tokens)), (m_afters, .inl (E.2.1 1, 9, .inl f_afters)), (hm, .inr (12, [.ref m_manys, .ref m_reals, .ref m_factsOf, .ref m_possible, .int (nI q_undos), .int (nI q_models), .ref m_tape, .int (nI q_taped), .int q_fault, .int q_wrong, .int q_wrongAt, .int q_spot, .int q_place, .int q_token, .int q_value, .ref m_ends, .ref m_letters, .ref m_actOf, .ref m_whom, .ref m_actMany, .ref m_tokens, .ref m_afters, .ref m_afterOf, .int q_counted, .ref m_pile, .ref m_caseMany, .ref m_happen, .ref m_hasIf, .ref m_becomes, .ref m_goneOf, .ref m_heard, .ref m_pairs, .ref m_heaps, .int q_rounds, .int q_heapMany, .ref m_led, .ref m_newAt, .ref m_knowing, .ref m_firsts, .int (nI q_people), .ref m_secrets, .ref m_tried, .ref m_lanes, .ref m_lengths, .ref m_cells])), (m_hasIf, .inl (E.2.1 3, 16, .inl f_hasIfz_67)), (m_actMany, .inl (E.2.1 1, 25, .inl f_actManyz_68)), (m_actOf, .inl (E.2.1 1, 800, .inl f_actOfz_69)), (m_whom, .inl (E.2.1 1, 800, .inl f_whomz_70))]) C 1 rfl (vp_in_nI (by omega) (by omega)) (ldn2 (by omega) ef_79) rfl dX12_when_81 ?_
            refine ww_iconst (v := 1) C dX12_when_82 rfl ?_
            exact ww_iret (u := [(hm, .inr (12, [.ref m_manys, .ref m_reals, .ref m_factsOf, .ref m_possible, .int (nI q_undos), .int (nI q_models), .ref m_tape, .int (nI q_taped), .int q_fault, .int q_wrong, .int q_wrongAt, .int q_spot, .int q_place, .int q_token, .int q_value, .ref m_ends, .ref m_letters, .ref m_actOf, .ref m_whom, .ref m_actMany, .ref m_tokens, .ref m_afters, .ref m_afterOf, .int q_counted, .ref m_pile, .ref m_caseMany, .ref m_happen, .ref m_hasIf, .ref m_becomes, .ref m_goneOf, .ref m_heard, .ref m_pairs, .ref m_heaps, .int q_rounds, .int q_heapMany, .ref m_led, .ref m_newAt, .ref m_knowing, .ref m_firsts, .int (nI q_people), .ref m_secrets, .ref m_tried, .ref m_lanes, .ref m_lengths, .ref m_cells])), (m_caseMany, .inl (E.2.1 1, 4, .inl f_caseMany)), (m_hasIf, .inl (E.2.1 3, 16, .inl f_hasIfz_67)), (m_actMany, .inl (E.2.1 1, 25, .inl f_actManyz_68)), (m_actOf, .inl (E.2.1 1, 800, .inl f_actOfz_69)), (m_whom, .inl (E.2.1 1, 800, .inl f_whomz_70)), (m_tokens, .inl (E.2.1 1, 9, .inl f_tokens)), (m_afters, .inl (E.2.1 1, 9, .inl f_afters)), (m_becomes, .inl (E.2.1 1, 16, .inl f_78)), (m_goneOf, .inl (E.2.1 1, 16, .inl f_79))]) C hT [5, 2, 6, 7, 8, 9, 3, 4, 0, 1] (gqk (by eq_refl)) (ndk (by decide +kernel)) rfl rfl dX12_when_83 (Or.inr ⟨j_63, j_64, f_hasIfz_67, f_actManyz_68, f_actOfz_69, f_whomz_70, f_78, f_79, rfl, rfl, h_71, h_72, h_7, (Or.inr h_41), (by first | assumption | omega | decide), (by first | assumption | omega | decide), (by first | assumption | omega | decide), (by first | assumption | omega | decide), rfl, rfl, (by omega), (by omega), (Or.inr ⟨j_65, rfl, by omega, h_73, h_74, h_75, h_76⟩), ef_78, ef_79⟩)
          · refine an2 hw ?_
            clear hw
            intro he_61 he_62 hw
            have h_60 := hw
            clear hw
            have he_61 := he_61.symm
            subst he_61
            subst he_62
            refine ww_eq (ws' := [(m_hasIf, .inl (E.2.1 3, 16, .inl f_hasIf)), (m_actMany, .inl (E.2.1 1, 25, .inl f_actMany)), (m_actOf, .inl (E.2.1 1, 800, .inl f_actOf)), (m_whom, .inl (E.2.1 1, 800, .inl f_whom)), (m_becomes, .inl (E.2.1 1, 16, .inl f_becomes)), (m_goneOf, .inl (E.2.1 1, 16, .inl f_goneOf)), (m_caseMany, .inl (E.2.1 1, 4, .inl f_caseMany)), (hm, .inr (12, [.ref m_manys, .ref m_reals, .ref m_factsOf, .ref m_possible, .int (nI q_undos), .int (nI q_models), .ref m_tape, .int (nI q_taped), .int q_fault, .int q_wrong, .int q_wrongAt, .int q_spot, .int q_place, .int q_token, .int q_value, .ref m_ends, .ref m_letters, .ref m_actOf, .ref m_whom, .ref m_actMany, .ref m_tokens, .ref m_afters, .ref m_afterOf, .int q_counted, .ref m_pile, .ref m_caseMany, .ref m_happen, .ref m_hasIf, .ref m_becomes, .ref m_goneOf, .ref m_heard, .ref m_pairs, .ref m_heaps, .int q_rounds, .int q_heapMany, .ref m_led, .ref m_newAt, .ref m_knowing, .ref m_firsts, .int (nI q_people), .ref m_secrets, .ref m_tried, .ref m_lanes, .ref m_lengths, .ref m_cells])), (m_tokens, .inl (E.2.1 1, 9, .inl f_tokens)), (m_afters, .inl (E.2.1 1, 9, .inl f_afters))]) ?_ rfl rfl rfl
            refine ww_if_ne_f (tgt := 51) C dX12_when_46 (by decide) (rfl) ?_
            refine ww_iconst (v := (-1)) C dX12_when_49 rfl ?_
            exact ww_iret (u := [(hm, .inr (12, [.ref m_manys, .ref m_reals, .ref m_factsOf, .ref m_possible, .int (nI q_undos), .int (nI q_models), .ref m_tape, .int (nI q_taped), .int q_fault, .int q_wrong, .int q_wrongAt, .int q_spot, .int q_place, .int q_token, .int q_value, .ref m_ends, .ref m_letters, .ref m_actOf, .ref m_whom, .ref m_actMany, .ref m_tokens, .ref m_afters, .ref m_afterOf, .int q_counted, .ref m_pile, .ref m_caseMany, .ref m_happen, .ref m_hasIf, .ref m_becomes, .ref m_goneOf, .ref m_heard, .ref m_pairs, .ref m_heaps, .int q_rounds, .int q_heapMany, .ref m_led, .ref m_newAt, .ref m_knowing, .ref m_firsts, .int (nI q_people), .ref m_secrets, .ref m_tried, .ref m_lanes, .ref m_lengths, .ref m_cells])), (m_caseMany, .inl (E.2.1 1, 4, .inl f_caseMany)), (m_hasIf, .inl (E.2.1 3, 16, .inl f_hasIf)), (m_actMany, .inl (E.2.1 1, 25, .inl f_actMany)), (m_actOf, .inl (E.2.1 1, 800, .inl f_actOf)), (m_whom, .inl (E.2.1 1, 800, .inl f_whom)), (m_tokens, .inl (E.2.1 1, 9, .inl f_tokens)), (m_afters, .inl (E.2.1 1, 9, .inl f_afters)), (m_becomes, .inl (E.2.1 1, 16, .inl f_becomes)), (m_goneOf, .inl (E.2.1 1, 16, .inl f_goneOf))]) C hT [7, 6, 0, 1, 2, 3, 8, 9, 4, 5] (gqk (by eq_refl)) (ndk (by decide +kernel)) rfl rfl dX12_when_50 (Or.inl ⟨rfl, rfl, (Or.inr (Or.inr (by omega)))⟩)
        · refine an2 hw ?_
          clear hw
          intro he_53 he_54 hw
          have h_52 := hw
          clear hw
          have he_53 := he_53.symm
          subst he_53
          subst he_54
          refine ww_eq (ws' := [(m_hasIf, .inl (E.2.1 3, 16, .inl f_hasIf)), (m_actMany, .inl (E.2.1 1, 25, .inl f_actMany)), (m_actOf, .inl (E.2.1 1, 800, .inl f_actOf)), (m_whom, .inl (E.2.1 1, 800, .inl f_whom)), (m_becomes, .inl (E.2.1 1, 16, .inl f_becomes)), (m_goneOf, .inl (E.2.1 1, 16, .inl f_goneOf)), (m_caseMany, .inl (E.2.1 1, 4, .inl f_caseMany)), (hm, .inr (12, [.ref m_manys, .ref m_reals, .ref m_factsOf, .ref m_possible, .int (nI q_undos), .int (nI q_models), .ref m_tape, .int (nI q_taped), .int q_fault, .int q_wrong, .int q_wrongAt, .int q_spot, .int q_place, .int q_token, .int q_value, .ref m_ends, .ref m_letters, .ref m_actOf, .ref m_whom, .ref m_actMany, .ref m_tokens, .ref m_afters, .ref m_afterOf, .int q_counted, .ref m_pile, .ref m_caseMany, .ref m_happen, .ref m_hasIf, .ref m_becomes, .ref m_goneOf, .ref m_heard, .ref m_pairs, .ref m_heaps, .int q_rounds, .int q_heapMany, .ref m_led, .ref m_newAt, .ref m_knowing, .ref m_firsts, .int (nI q_people), .ref m_secrets, .ref m_tried, .ref m_lanes, .ref m_lengths, .ref m_cells])), (m_tokens, .inl (E.2.1 1, 9, .inl f_tokens)), (m_afters, .inl (E.2.1 1, 9, .inl f_afters))]) ?_ rfl rfl rfl
          refine ww_if_eq_t (tgt := 49) C dX12_when_33 (by decide) (rfl) ?_
          refine ww_iconst (v := (-1)) C dX12_when_49 rfl ?_
          exact ww_iret (u := [(hm, .inr (12, [.ref m_manys, .ref m_reals, .ref m_factsOf, .ref m_possible, .int (nI q_undos), .int (nI q_models), .ref m_tape, .int (nI q_taped), .int q_fault, .int q_wrong, .int q_wrongAt, .int q_spot, .int q_place, .int q_token, .int q_value, .ref m_ends, .ref m_letters, .ref m_actOf, .ref m_whom, .ref m_actMany, .ref m_tokens, .ref m_afters, .ref m_afterOf, .int q_counted, .ref m_pile, .ref m_caseMany, .ref m_happen, .ref m_hasIf, .ref m_becomes, .ref m_goneOf, .ref m_heard, .ref m_pairs, .ref m_heaps, .int q_rounds, .int q_heapMany, .ref m_led, .ref m_newAt, .ref m_knowing, .ref m_firsts, .int (nI q_people), .ref m_secrets, .ref m_tried, .ref m_lanes, .ref m_lengths, .ref m_cells])), (m_caseMany, .inl (E.2.1 1, 4, .inl f_caseMany)), (m_hasIf, .inl (E.2.1 3, 16, .inl f_hasIf)), (m_actMany, .inl (E.2.1 1, 25, .inl f_actMany)), (m_actOf, .inl (E.2.1 1, 800, .inl f_actOf)), (m_whom, .inl (E.2.1 1, 800, .inl f_whom)), (m_tokens, .inl (E.2.1 1, 9, .inl f_tokens)), (m_afters, .inl (E.2.1 1, 9, .inl f_afters)), (m_becomes, .inl (E.2.1 1, 16, .inl f_becomes)), (m_goneOf, .inl (E.2.1 1, 16, .inl f_goneOf))]) C hT [7, 6, 0, 1, 2, 3, 8, 9, 4, 5] (gqk (by eq_refl)) (ndk (by decide +kernel)) rfl rfl dX12_when_50 (Or.inl ⟨rfl, rfl, (Or.inr (Or.inr (by omega)))⟩)
      · refine an2 hw ?_
        clear hw
        intro he_45 he_46 hw
        have h_44 := hw
        clear hw
        have he_45 := he_45.symm
        subst he_45
        subst he_46
        refine ww_eq (ws' := [(m_hasIf, .inl (E.2.1 3, 16, .inl f_hasIf)), (m_actMany, .inl (E.2.1 1, 25, .inl f_actMany)), (m_actOf, .inl (E.2.1 1, 800, .inl f_actOf)), (m_whom, .inl (E.2.1 1, 800, .inl f_whom)), (m_becomes, .inl (E.2.1 1, 16, .inl f_becomes)), (m_goneOf, .inl (E.2.1 1, 16, .inl f_goneOf)), (m_caseMany, .inl (E.2.1 1, 4, .inl f_caseMany)), (hm, .inr (12, [.ref m_manys, .ref m_reals, .ref m_factsOf, .ref m_possible, .int (nI q_undos), .int (nI q_models), .ref m_tape, .int (nI q_taped), .int q_fault, .int q_wrong, .int q_wrongAt, .int q_spot, .int q_place, .int q_token, .int q_value, .ref m_ends, .ref m_letters, .ref m_actOf, .ref m_whom, .ref m_actMany, .ref m_tokens, .ref m_afters, .ref m_afterOf, .int q_counted, .ref m_pile, .ref m_caseMany, .ref m_happen, .ref m_hasIf, .ref m_becomes, .ref m_goneOf, .ref m_heard, .ref m_pairs, .ref m_heaps, .int q_rounds, .int q_heapMany, .ref m_led, .ref m_newAt, .ref m_knowing, .ref m_firsts, .int (nI q_people), .ref m_secrets, .ref m_tried, .ref m_lanes, .ref m_lengths, .ref m_cells])), (m_tokens, .inl (E.2.1 1, 9, .inl f_tokens)), (m_afters, .inl (E.2.1 1, 9, .inl f_afters))]) ?_ rfl rfl rfl
        refine ww_if_eq_t (tgt := 49) C dX12_when_20 (by decide) (rfl) ?_
        refine ww_iconst (v := (-1)) C dX12_when_49 rfl ?_
        exact ww_iret (u := [(hm, .inr (12, [.ref m_manys, .ref m_reals, .ref m_factsOf, .ref m_possible, .int (nI q_undos), .int (nI q_models), .ref m_tape, .int (nI q_taped), .int q_fault, .int q_wrong, .int q_wrongAt, .int q_spot, .int q_place, .int q_token, .int q_value, .ref m_ends, .ref m_letters, .ref m_actOf, .ref m_whom, .ref m_actMany, .ref m_tokens, .ref m_afters, .ref m_afterOf, .int q_counted, .ref m_pile, .ref m_caseMany, .ref m_happen, .ref m_hasIf, .ref m_becomes, .ref m_goneOf, .ref m_heard, .ref m_pairs, .ref m_heaps, .int q_rounds, .int q_heapMany, .ref m_led, .ref m_newAt, .ref m_knowing, .ref m_firsts, .int (nI q_people), .ref m_secrets, .ref m_tried, .ref m_lanes, .ref m_lengths, .ref m_cells])), (m_caseMany, .inl (E.2.1 1, 4, .inl f_caseMany)), (m_hasIf, .inl (E.2.1 3, 16, .inl f_hasIf)), (m_actMany, .inl (E.2.1 1, 25, .inl f_actMany)), (m_actOf, .inl (E.2.1 1, 800, .inl f_actOf)), (m_whom, .inl (E.2.1 1, 800, .inl f_whom)), (m_tokens, .inl (E.2.1 1, 9, .inl f_tokens)), (m_afters, .inl (E.2.1 1, 9, .inl f_afters)), (m_becomes, .inl (E.2.1 1, 16, .inl f_becomes)), (m_goneOf, .inl (E.2.1 1, 16, .inl f_goneOf))]) C hT [7, 6, 0, 1, 2, 3, 8, 9, 4, 5] (gqk (by eq_refl)) (ndk (by decide +kernel)) rfl rfl dX12_when_50 (Or.inl ⟨rfl, rfl, (Or.inr (Or.inl ⟨fun h9 => absurd (congrArg Int32.toInt h9) (by assumption), h_44⟩))⟩)
  · refine an2 hw ?_
    clear hw
    intro he_11 he_12 hw
    have h_10 := hw
    clear hw
    have he_11 := he_11.symm
    subst he_11
    subst he_12
    refine ww_eq (ws' := [(m_hasIf, .inl (E.2.1 3, 16, .inl f_hasIf)), (m_actMany, .inl (E.2.1 1, 25, .inl f_actMany)), (m_actOf, .inl (E.2.1 1, 800, .inl f_actOf)), (m_whom, .inl (E.2.1 1, 800, .inl f_whom)), (m_tokens, .inl (E.2.1 1, 9, .inl f_tokens)), (m_afters, .inl (E.2.1 1, 9, .inl f_afters)), (m_becomes, .inl (E.2.1 1, 16, .inl f_becomes)), (m_goneOf, .inl (E.2.1 1, 16, .inl f_goneOf)), (hm, .inr (12, [.ref m_manys, .ref m_reals, .ref m_factsOf, .ref m_possible, .int (nI q_undos), .int (nI q_models), .ref m_tape, .int (nI q_taped), .int q_fault, .int q_wrong, .int q_wrongAt, .int q_spot, .int q_place, .int q_token, .int q_value, .ref m_ends, .ref m_letters, .ref m_actOf, .ref m_whom, .ref m_actMany, .ref m_tokens, .ref m_afters, .ref m_afterOf, .int q_counted, .ref m_pile, .ref m_caseMany, .ref m_happen, .ref m_hasIf, .ref m_becomes, .ref m_goneOf, .ref m_heard, .ref m_pairs, .ref m_heaps, .int q_rounds, .int q_heapMany, .ref m_led, .ref m_newAt, .ref m_knowing, .ref m_firsts, .int (nI q_people), .ref m_secrets, .ref m_tried, .ref m_lanes, .ref m_lengths, .ref m_cells])), (m_caseMany, .inl (E.2.1 1, 4, .inl f_caseMany))]) ?_ rfl rfl rfl
    refine ww_if_eq_t (tgt := 49) C dX12_when_6 (by decide) (rfl) ?_
    refine ww_iconst (v := (-1)) C dX12_when_49 rfl ?_
    exact ww_iret (u := [(hm, .inr (12, [.ref m_manys, .ref m_reals, .ref m_factsOf, .ref m_possible, .int (nI q_undos), .int (nI q_models), .ref m_tape, .int (nI q_taped), .int q_fault, .int q_wrong, .int q_wrongAt, .int q_spot, .int q_place, .int q_token, .int q_value, .ref m_ends, .ref m_letters, .ref m_actOf, .ref m_whom, .ref m_actMany, .ref m_tokens, .ref m_afters, .ref m_afterOf, .int q_counted, .ref m_pile, .ref m_caseMany, .ref m_happen, .ref m_hasIf, .ref m_becomes, .ref m_goneOf, .ref m_heard, .ref m_pairs, .ref m_heaps, .int q_rounds, .int q_heapMany, .ref m_led, .ref m_newAt, .ref m_knowing, .ref m_firsts, .int (nI q_people), .ref m_secrets, .ref m_tried, .ref m_lanes, .ref m_lengths, .ref m_cells])), (m_caseMany, .inl (E.2.1 1, 4, .inl f_caseMany)), (m_hasIf, .inl (E.2.1 3, 16, .inl f_hasIf)), (m_actMany, .inl (E.2.1 1, 25, .inl f_actMany)), (m_actOf, .inl (E.2.1 1, 800, .inl f_actOf)), (m_whom, .inl (E.2.1 1, 800, .inl f_whom)), (m_tokens, .inl (E.2.1 1, 9, .inl f_tokens)), (m_afters, .inl (E.2.1 1, 9, .inl f_afters)), (m_becomes, .inl (E.2.1 1, 16, .inl f_becomes)), (m_goneOf, .inl (E.2.1 1, 16, .inl f_goneOf))]) C hT [8, 9, 0, 1, 2, 3, 4, 5, 6, 7] (gqk (by eq_refl)) (ndk (by decide +kernel)) rfl rfl dX12_when_50 (Or.inl ⟨rfl, rfl, (Or.inl h_10)⟩)
theorem dX12_hears_0 : decode cX12_hears 0 = .ok (.aload_n 0, 1) := dl_42 (by decide +kernel)
theorem dX12_hears_1 : decode cX12_hears 1 = .ok (.iload_n 1, 1) := dl_27 (by decide +kernel)
theorem dX12_hears_2 : decode cX12_hears 2 = .ok (.iload_n 3, 1) := dl_29 (by decide +kernel)
theorem dX12_hears_3 : decode cX12_hears 3 = .ok (.invokevirtual 243, 3) := dl_182 (by decide +kernel)
theorem dX12_hears_6 : decode cX12_hears 6 = .ok (.ifCond .eq 20, 3) := dl_153 (by decide +kernel)
theorem dX12_hears_9 : decode cX12_hears 9 = .ok (.aload_n 0, 1) := dl_42 (by decide +kernel)
theorem dX12_hears_10 : decode cX12_hears 10 = .ok (.iload_n 1, 1) := dl_27 (by decide +kernel)
theorem dX12_hears_11 : decode cX12_hears 11 = .ok (.iload 4, 2) := dl_21 (by decide +kernel)
theorem dX12_hears_13 : decode cX12_hears 13 = .ok (.invokevirtual 243, 3) := dl_182 (by decide +kernel)
theorem dX12_hears_16 : decode cX12_hears 16 = .ok (.ifCond .eq 10, 3) := dl_153 (by decide +kernel)
theorem dX12_hears_19 : decode cX12_hears 19 = .ok (.iload_n 2, 1) := dl_28 (by decide +kernel)
theorem dX12_hears_20 : decode cX12_hears 20 = .ok (.invokestatic 128, 3) := dl_184 (by decide +kernel)
theorem dX12_hears_23 : decode cX12_hears 23 = .ok (.ifCond .ne 5, 3) := dl_154 (by decide +kernel)
theorem dX12_hears_28 : decode cX12_hears 28 = .ok (.bipush 16, 2) := dl_16 (by decide +kernel)
theorem dX12_hears_30 : decode cX12_hears 30 = .ok (.iload_n 1, 1) := dl_27 (by decide +kernel)
theorem dX12_hears_31 : decode cX12_hears 31 = .ok (.imul, 1) := dl_104 (by decide +kernel)
theorem dX12_hears_32 : decode cX12_hears 32 = .ok (.iconst 4, 1) := dl_7 (by decide +kernel)
theorem dX12_hears_33 : decode cX12_hears 33 = .ok (.iload_n 2, 1) := dl_28 (by decide +kernel)
theorem dX12_hears_34 : decode cX12_hears 34 = .ok (.imul, 1) := dl_104 (by decide +kernel)
theorem dX12_hears_35 : decode cX12_hears 35 = .ok (.iadd, 1) := dl_96 (by decide +kernel)
theorem dX12_hears_36 : decode cX12_hears 36 = .ok (.iload_n 3, 1) := dl_29 (by decide +kernel)
theorem dX12_hears_37 : decode cX12_hears 37 = .ok (.iadd, 1) := dl_96 (by decide +kernel)
theorem dX12_hears_38 : decode cX12_hears 38 = .ok (.istore 6, 2) := dl_54 (by decide +kernel)
theorem dX12_hears_40 : decode cX12_hears 40 = .ok (.aload_n 0, 1) := dl_42 (by decide +kernel)
theorem dX12_hears_41 : decode cX12_hears 41 = .ok (.getfield 68, 3) := dl_180 (by decide +kernel)
theorem dX12_hears_44 : decode cX12_hears 44 = .ok (.iload 6, 2) := dl_21 (by decide +kernel)
theorem dX12_hears_46 : decode cX12_hears 46 = .ok (.iaload, 1) := dl_46 (by decide +kernel)
theorem dX12_hears_47 : decode cX12_hears 47 = .ok (.iload 4, 2) := dl_21 (by decide +kernel)
theorem dX12_hears_49 : decode cX12_hears 49 = .ok (.ishr, 1) := dl_122 (by decide +kernel)
theorem dX12_hears_50 : decode cX12_hears 50 = .ok (.iconst 1, 1) := dl_4 (by decide +kernel)
theorem dX12_hears_51 : decode cX12_hears 51 = .ok (.iand, 1) := dl_126 (by decide +kernel)
theorem dX12_hears_52 : decode cX12_hears 52 = .ok (.istore 7, 2) := dl_54 (by decide +kernel)
theorem dX12_hears_54 : decode cX12_hears 54 = .ok (.aload_n 0, 1) := dl_42 (by decide +kernel)
theorem dX12_hears_55 : decode cX12_hears 55 = .ok (.getfield 68, 3) := dl_180 (by decide +kernel)
theorem dX12_hears_58 : decode cX12_hears 58 = .ok (.iload 6, 2) := dl_21 (by decide +kernel)
theorem dX12_hears_60 : decode cX12_hears 60 = .ok (.iload 5, 2) := dl_21 (by decide +kernel)
theorem dX12_hears_62 : decode cX12_hears 62 = .ok (.ifCond .eq 18, 3) := dl_153 (by decide +kernel)
theorem dX12_hears_80 : decode cX12_hears 80 = .ok (.aload_n 0, 1) := dl_42 (by decide +kernel)
theorem dX12_hears_81 : decode cX12_hears 81 = .ok (.getfield 68, 3) := dl_180 (by decide +kernel)
theorem dX12_hears_84 : decode cX12_hears 84 = .ok (.iload 6, 2) := dl_21 (by decide +kernel)
theorem dX12_hears_86 : decode cX12_hears 86 = .ok (.iaload, 1) := dl_46 (by decide +kernel)
theorem dX12_hears_87 : decode cX12_hears 87 = .ok (.iconst 1, 1) := dl_4 (by decide +kernel)
theorem dX12_hears_88 : decode cX12_hears 88 = .ok (.iload 4, 2) := dl_21 (by decide +kernel)
theorem dX12_hears_90 : decode cX12_hears 90 = .ok (.ishl, 1) := dl_120 (by decide +kernel)
theorem dX12_hears_91 : decode cX12_hears 91 = .ok (.iconst (-1), 1) := dl_2 (by decide +kernel)
theorem dX12_hears_92 : decode cX12_hears 92 = .ok (.ixor, 1) := dl_130 (by decide +kernel)
theorem dX12_hears_93 : decode cX12_hears 93 = .ok (.iand, 1) := dl_126 (by decide +kernel)
theorem dX12_hears_94 : decode cX12_hears 94 = .ok (.iastore, 1) := dl_79 (by decide +kernel)
theorem dX12_hears_95 : decode cX12_hears 95 = .ok (.iload 7, 2) := dl_21 (by decide +kernel)
theorem dX12_hears_97 : decode cX12_hears 97 = .ok (.ireturn, 1) := dl_172 (by decide +kernel)
theorem dX12_hears_65 : decode cX12_hears 65 = .ok (.aload_n 0, 1) := dl_42 (by decide +kernel)
theorem dX12_hears_66 : decode cX12_hears 66 = .ok (.getfield 68, 3) := dl_180 (by decide +kernel)
theorem dX12_hears_69 : decode cX12_hears 69 = .ok (.iload 6, 2) := dl_21 (by decide +kernel)
theorem dX12_hears_71 : decode cX12_hears 71 = .ok (.iaload, 1) := dl_46 (by decide +kernel)
theorem dX12_hears_72 : decode cX12_hears 72 = .ok (.iconst 1, 1) := dl_4 (by decide +kernel)
theorem dX12_hears_73 : decode cX12_hears 73 = .ok (.iload 4, 2) := dl_21 (by decide +kernel)
theorem dX12_hears_75 : decode cX12_hears 75 = .ok (.ishl, 1) := dl_120 (by decide +kernel)
theorem dX12_hears_76 : decode cX12_hears 76 = .ok (.ior, 1) := dl_128 (by decide +kernel)
theorem dX12_hears_77 : decode cX12_hears 77 = .ok (.goto 17, 3) := dl_167 (by decide +kernel)
theorem dX12_hears_26 : decode cX12_hears 26 = .ok (.iconst (-1), 1) := dl_2 (by decide +kernel)
theorem dX12_hears_27 : decode cX12_hears 27 = .ok (.ireturn, 1) := dl_172 (by decide +kernel)
set_option maxRecDepth 100000 in
set_option maxHeartbeats 4000000 in
theorem y_hears (l : Launch) (E : EV) (ro : va_W) (hm : Nat) (v0 : Int32) (v1 : Int32) (v2 : Int32) (v3 : Int32) (v4 : Int32) (m_manys : Nat) (m_reals : Nat) (m_factsOf : Nat) (m_possible : Nat) (q_undos : Nat) (q_models : Nat) (m_tape : Nat) (q_taped : Nat) (q_fault : Int32) (q_wrong : Int32) (q_wrongAt : Int32) (q_spot : Int32) (q_place : Int32) (q_token : Int32) (q_value : Int32) (m_ends : Nat) (m_letters : Nat) (m_actOf : Nat) (m_whom : Nat) (m_actMany : Nat) (m_tokens : Nat) (m_afters : Nat) (m_afterOf : Nat) (q_counted : Int32) (m_pile : Nat) (m_caseMany : Nat) (m_happen : Nat) (m_hasIf : Nat) (m_becomes : Nat) (m_goneOf : Nat) (m_heard : Nat) (m_pairs : Nat) (m_heaps : Nat) (q_rounds : Int32) (q_heapMany : Int32) (m_led : Nat) (m_newAt : Nat) (m_knowing : Nat) (m_firsts : Nat) (q_people : Nat) (m_secrets : Nat) (m_tried : Nat) (m_lanes : Nat) (m_lengths : Nat) (m_cells : Nat) (f_caseMany : Nat → Int32) (f_heard : Nat → Int32) (hb_caseMany : NB 4 4 f_caseMany) : CT l yX12_hears (Cond.code yX12_hears cX12_hears 8 (some .int) :: TB) ({ frames := 3, cells := 0, slots := 0, locals := 68 }) E ro [.ref hm, .int v0, .int v1, .int v2, .int v3, .int v4] [(hm, .inr (12, [.ref m_manys, .ref m_reals, .ref m_factsOf, .ref m_possible, .int (nI q_undos), .int (nI q_models), .ref m_tape, .int (nI q_taped), .int q_fault, .int q_wrong, .int q_wrongAt, .int q_spot, .int q_place, .int q_token, .int q_value, .ref m_ends, .ref m_letters, .ref m_actOf, .ref m_whom, .ref m_actMany, .ref m_tokens, .ref m_afters, .ref m_afterOf, .int q_counted, .ref m_pile, .ref m_caseMany, .ref m_happen, .ref m_hasIf, .ref m_becomes, .ref m_goneOf, .ref m_heard, .ref m_pairs, .ref m_heaps, .int q_rounds, .int q_heapMany, .ref m_led, .ref m_newAt, .ref m_knowing, .ref m_firsts, .int (nI q_people), .ref m_secrets, .ref m_tried, .ref m_lanes, .ref m_lengths, .ref m_cells])), (m_caseMany, .inl (E.2.1 1, 4, .inl f_caseMany)), (m_heard, .inl (E.2.1 1, 64, .inl f_heard))] (Qi E (fun (rz : Int32) uz => (rz = (-1) ∧ uz = [(hm, .inr (12, [.ref m_manys, .ref m_reals, .ref m_factsOf, .ref m_possible, .int (nI q_undos), .int (nI q_models), .ref m_tape, .int (nI q_taped), .int q_fault, .int q_wrong, .int q_wrongAt, .int q_spot, .int q_place, .int q_token, .int q_value, .ref m_ends, .ref m_letters, .ref m_actOf, .ref m_whom, .ref m_actMany, .ref m_tokens, .ref m_afters, .ref m_afterOf, .int q_counted, .ref m_pile, .ref m_caseMany, .ref m_happen, .ref m_hasIf, .ref m_becomes, .ref m_goneOf, .ref m_heard, .ref m_pairs, .ref m_heaps, .int q_rounds, .int q_heapMany, .ref m_led, .ref m_newAt, .ref m_knowing, .ref m_firsts, .int (nI q_people), .ref m_secrets, .ref m_tried, .ref m_lanes, .ref m_lengths, .ref m_cells])), (m_caseMany, .inl (E.2.1 1, 4, .inl f_caseMany)), (m_heard, .inl (E.2.1 1, 64, .inl f_heard))] ∧ (¬ CSE (cN f_caseMany) v0 v2 ∨ ¬ CSE (cN f_caseMany) v0 v3 ∨ v1.toInt < 0 ∨ 3 < v1.toInt)) ∨ (∃ (k_ : Nat) (n_ : Nat) (i_ : Nat) (f_heardz : Nat → Int32), uz = [(hm, .inr (12, [.ref m_manys, .ref m_reals, .ref m_factsOf, .ref m_possible, .int (nI q_undos), .int (nI q_models), .ref m_tape, .int (nI q_taped), .int q_fault, .int q_wrong, .int q_wrongAt, .int q_spot, .int q_place, .int q_token, .int q_value, .ref m_ends, .ref m_letters, .ref m_actOf, .ref m_whom, .ref m_actMany, .ref m_tokens, .ref m_afters, .ref m_afterOf, .int q_counted, .ref m_pile, .ref m_caseMany, .ref m_happen, .ref m_hasIf, .ref m_becomes, .ref m_goneOf, .ref m_heard, .ref m_pairs, .ref m_heaps, .int q_rounds, .int q_heapMany, .ref m_led, .ref m_newAt, .ref m_knowing, .ref m_firsts, .int (nI q_people), .ref m_secrets, .ref m_tried, .ref m_lanes, .ref m_lengths, .ref m_cells])), (m_caseMany, .inl (E.2.1 1, 4, .inl f_caseMany)), (m_heard, .inl (E.2.1 1, 64, .inl f_heardz))] ∧ (CSE (cN f_caseMany) v0 v2) ∧ (CSE (cN f_caseMany) v0 v3) ∧ (v0 = nI k_) ∧ (v1 = nI n_) ∧ (v2 = nI i_) ∧ (k_ ≤ 3) ∧ (n_ ≤ 3) ∧ (i_ ≤ 3) ∧ (upd f_heard (16 * k_ + 4 * n_ + i_) (hbt (f_heard (16 * k_ + 4 * n_ + i_)) v3 v4) = f_heardz) ∧ (rz = f_heard (16 * k_ + 4 * n_ + i_) >>> (v3 &&& 31) &&& 1)))) 0 0 := by
  refine ct_of rfl rfl ?_
  intro X C hT hin hro
  show WW X 8 E 0 [(0, .ref hm), (1, .int v0), (2, .int v1), (3, .int v2), (4, .int v3), (5, .int v4)] [] [(hm, .inr (12, [.ref m_manys, .ref m_reals, .ref m_factsOf, .ref m_possible, .int (nI q_undos), .int (nI q_models), .ref m_tape, .int (nI q_taped), .int q_fault, .int q_wrong, .int q_wrongAt, .int q_spot, .int q_place, .int q_token, .int q_value, .ref m_ends, .ref m_letters, .ref m_actOf, .ref m_whom, .ref m_actMany, .ref m_tokens, .ref m_afters, .ref m_afterOf, .int q_counted, .ref m_pile, .ref m_caseMany, .ref m_happen, .ref m_hasIf, .ref m_becomes, .ref m_goneOf, .ref m_heard, .ref m_pairs, .ref m_heaps, .int q_rounds, .int q_heapMany, .ref m_led, .ref m_newAt, .ref m_knowing, .ref m_firsts, .int (nI q_people), .ref m_secrets, .ref m_tried, .ref m_lanes, .ref m_lengths, .ref m_cells])), (m_caseMany, .inl (E.2.1 1, 4, .inl f_caseMany)), (m_heard, .inl (E.2.1 1, 64, .inl f_heard))] 0 0
  refine ww_aload_n C dX12_hears_0 0 rfl rfl ?_
  refine ww_iload_n C dX12_hears_1 1 rfl rfl ?_
  refine ww_iload_n C dX12_hears_2 3 rfl rfl ?_
  refine ww_ci (wr := [(m_heard, .inl (E.2.1 1, 64, .inl f_heard))]) (k' := 0) (n' := 0) C (run_V (As := [.int v0, .int v2]) (rest := []) C (r_isCase X.2.1 E ro hm v0 v2 m_manys m_reals m_factsOf m_possible q_undos q_models m_tape q_taped q_fault q_wrong q_wrongAt q_spot q_place q_token q_value m_ends m_letters m_actOf m_whom m_actMany m_tokens m_afters m_afterOf q_counted m_pile m_caseMany m_happen m_hasIf m_becomes m_goneOf m_heard m_pairs m_heaps q_rounds q_heapMany m_led m_newAt m_knowing m_firsts q_people m_secrets m_tried m_lanes m_lengths m_cells f_caseMany hb_caseMany) mi_X12_isCase wl_X12_243 rfl 0 12 rfl rfl rfl rfl rfl dX12_hears_3) (roK hro) [0, 1] [2] rfl rfl rfl rfl (fun r_1 uz hw => ?_)
  rcases hw with hw | hw
  · refine an7 hw ?_
    clear hw
    intro he_8 he_9 h_2 h_3 h_4 h_5 h_6 hw
    have h_7 := hw
    clear hw
    have he_8 := he_8.symm
    subst he_8
    subst he_9
    refine ww_eq (ws' := [(m_heard, .inl (E.2.1 1, 64, .inl f_heard)), (hm, .inr (12, [.ref m_manys, .ref m_reals, .ref m_factsOf, .ref m_possible, .int (nI q_undos), .int (nI q_models), .ref m_tape, .int (nI q_taped), .int q_fault, .int q_wrong, .int q_wrongAt, .int q_spot, .int q_place, .int q_token, .int q_value, .ref m_ends, .ref m_letters, .ref m_actOf, .ref m_whom, .ref m_actMany, .ref m_tokens, .ref m_afters, .ref m_afterOf, .int q_counted, .ref m_pile, .ref m_caseMany, .ref m_happen, .ref m_hasIf, .ref m_becomes, .ref m_goneOf, .ref m_heard, .ref m_pairs, .ref m_heaps, .int q_rounds, .int q_heapMany, .ref m_led, .ref m_newAt, .ref m_knowing, .ref m_firsts, .int (nI q_people), .ref m_secrets, .ref m_tried, .ref m_lanes, .ref m_lengths, .ref m_cells])), (m_caseMany, .inl (E.2.1 1, 4, .inl f_caseMany))]) ?_ rfl rfl rfl
    refine ww_if_eq_f (tgt := 26) C dX12_hears_6 (by decide) (by decide) ?_
    refine ww_aload_n C dX12_hears_9 0 rfl rfl ?_
    refine ww_iload_n C dX12_hears_10 1 rfl rfl ?_
    refine ww_iload C dX12_hears_11 4 rfl ?_
    refine ww_ci (wr := [(m_heard, .inl (E.2.1 1, 64, .inl f_heard))]) (k' := 0) (n' := 0) C (run_V (As := [.int v0, .int v3]) (rest := []) C (r_isCase X.2.1 E ro hm v0 v3 m_manys m_reals m_factsOf m_possible q_undos q_models m_tape q_taped q_fault q_wrong q_wrongAt q_spot q_place q_token q_value m_ends m_letters m_actOf m_whom m_actMany m_tokens m_afters m_afterOf q_counted m_pile m_caseMany m_happen m_hasIf m_becomes m_goneOf m_heard m_pairs m_heaps q_rounds q_heapMany m_led m_newAt m_knowing m_firsts q_people m_secrets m_tried m_lanes m_lengths m_cells f_caseMany hb_caseMany) mi_X12_isCase wl_X12_243 rfl 0 12 rfl rfl rfl rfl rfl dX12_hears_13) (roK hro) [1, 2] [0] rfl rfl rfl rfl (fun r_13 uz hw => ?_)
    rcases hw with hw | hw
    · refine an7 hw ?_
      clear hw
      intro he_20 he_21 h_14 h_15 h_16 h_17 h_18 hw
      have h_19 := hw
      clear hw
      have he_20 := he_20.symm
      subst he_20
      subst he_21
      refine ww_eq (ws' := [(m_heard, .inl (E.2.1 1, 64, .inl f_heard)), (hm, .inr (12, [.ref m_manys, .ref m_reals, .ref m_factsOf, .ref m_possible, .int (nI q_undos), .int (nI q_models), .ref m_tape, .int (nI q_taped), .int q_fault, .int q_wrong, .int q_wrongAt, .int q_spot, .int q_place, .int q_token, .int q_value, .ref m_ends, .ref m_letters, .ref m_actOf, .ref m_whom, .ref m_actMany, .ref m_tokens, .ref m_afters, .ref m_afterOf, .int q_counted, .ref m_pile, .ref m_caseMany, .ref m_happen, .ref m_hasIf, .ref m_becomes, .ref m_goneOf, .ref m_heard, .ref m_pairs, .ref m_heaps, .int q_rounds, .int q_heapMany, .ref m_led, .ref m_newAt, .ref m_knowing, .ref m_firsts, .int (nI q_people), .ref m_secrets, .ref m_tried, .ref m_lanes, .ref m_lengths, .ref m_cells])), (m_caseMany, .inl (E.2.1 1, 4, .inl f_caseMany))]) ?_ rfl rfl rfl
      refine ww_if_eq_f (tgt := 26) C dX12_hears_16 (by decide) (by decide) ?_
      refine ww_iload_n C dX12_hears_19 2 rfl rfl ?_
      refine ww_ci (wr := [(m_heard, .inl (E.2.1 1, 64, .inl f_heard)), (hm, .inr (12, [.ref m_manys, .ref m_reals, .ref m_factsOf, .ref m_possible, .int (nI q_undos), .int (nI q_models), .ref m_tape, .int (nI q_taped), .int q_fault, .int q_wrong, .int q_wrongAt, .int q_spot, .int q_place, .int q_token, .int q_value, .ref m_ends, .ref m_letters, .ref m_actOf, .ref m_whom, .ref m_actMany, .ref m_tokens, .ref m_afters, .ref m_afterOf, .int q_counted, .ref m_pile, .ref m_caseMany, .ref m_happen, .ref m_hasIf, .ref m_becomes, .ref m_goneOf, .ref m_heard, .ref m_pairs, .ref m_heaps, .int q_rounds, .int q_heapMany, .ref m_led, .ref m_newAt, .ref m_knowing, .ref m_firsts, .int (nI q_people), .ref m_secrets, .ref m_tried, .ref m_lanes, .ref m_lengths, .ref m_cells])), (m_caseMany, .inl (E.2.1 1, 4, .inl f_caseMany))]) (k' := 0) (n' := 0) C (run_S (As := [.int v1]) (rest := []) C (r_isKnower X.2.1 E ro v1) ms_X12_isKnower wl_X12_128 rfl rfl rfl rfl dX12_hears_20) (roK hro) [] [0, 1, 2] rfl rfl rfl rfl (fun r_25 uz hw => ?_)
      rcases hw with hw | hw
      · refine an3 hw ?_
        clear hw
        intro he_28 he_29 h_26 hw
        have h_27 := hw
        clear hw
        have he_28 := he_28.symm
        subst he_28
        subst he_29
        refine ww_eq (ws' := [(m_heard, .inl (E.2.1 1, 64, .inl f_heard)), (hm, .inr (12, [.ref m_manys, .ref m_reals, .ref m_factsOf, .ref m_possible, .int (nI q_undos), .int (nI q_models), .ref m_tape, .int (nI q_taped), .int q_fault, .int q_wrong, .int q_wrongAt, .int q_spot, .int q_place, .int q_token, .int q_value, .ref m_ends, .ref m_letters, .ref m_actOf, .ref m_whom, .ref m_actMany, .ref m_tokens, .ref m_afters, .ref m_afterOf, .int q_counted, .ref m_pile, .ref m_caseMany, .ref m_happen, .ref m_hasIf, .ref m_becomes, .ref m_goneOf, .ref m_heard, .ref m_pairs, .ref m_heaps, .int q_rounds, .int q_heapMany, .ref m_led, .ref m_newAt, .ref m_knowing, .ref m_firsts, .int (nI q_people), .ref m_secrets, .ref m_tried, .ref m_lanes, .ref m_lengths, .ref m_cells])), (m_caseMany, .inl (E.2.1 1, 4, .inl f_caseMany))]) ?_ rfl rfl rfl
        refine ww_if_ne_t (tgt := 28) C dX12_hears_23 (by decide) (by decide) ?_
        obtain ⟨j_33, hj_33, rfl⟩ := i_nat (x := v0) (N := 3) (by omega) (by omega)
        have hzj_33 := nI_toInt (n := j_33) (by omega)
        obtain ⟨j_34, hj_34, rfl⟩ := i_nat (x := v1) (N := 3) (by omega) (by omega)
        have hzj_34 := nI_toInt (n := j_34) (by omega)
        obtain ⟨j_35, hj_35, rfl⟩ := i_nat (x := v2) (N := 3) (by omega) (by omega)
        have hzj_35 := nI_toInt (n := j_35) (by omega)
        refine ww_bipush (v := 16) C dX12_hears_28 rfl ?_
        refine ww_iload_n C dX12_hears_30 1 rfl rfl ?_
        refine ww_imul (v := (nI (16 * j_33))) C dX12_hears_31 (pk_mul 16 j_33) ?_
        refine ww_iconst (v := 4) C dX12_hears_32 rfl ?_
        refine ww_iload_n C dX12_hears_33 2 rfl rfl ?_
        refine ww_imul (v := (nI (4 * j_34))) C dX12_hears_34 (pk_mul 4 j_34) ?_
        refine ww_iadd (v := (nI ((16 * j_33) + (4 * j_34)))) C dX12_hears_35 (nI_add (16 * j_33) (4 * j_34)) ?_
        refine ww_iload_n C dX12_hears_36 3 rfl rfl ?_
        refine ww_iadd (v := (nI (((16 * j_33) + (4 * j_34)) + j_35))) C dX12_hears_37 (nI_add ((16 * j_33) + (4 * j_34)) j_35) ?_
        refine ww_istore (lv' := [(6, .int (nI (((16 * j_33) + (4 * j_34)) + j_35))), (0, .ref hm), (1, .int (nI j_33)), (2, .int (nI j_34)), (3, .int (nI j_35)), (4, .int v3), (5, .int v4)]) C dX12_hears_38 rfl rfl ?_
        refine ww_aload_n C dX12_hears_40 1 rfl rfl ?_
        refine ww_get C fg_X12_68 1 rfl rfl dX12_hears_41 ?_
        refine ww_iload C dX12_hears_44 0 rfl ?_
        obtain ⟨x_36, ex_36⟩ : ∃ z : Int32, f_heard (((16 * j_33) + (4 * j_34)) + j_35) = z := ⟨_, rfl⟩
        refine ww_iald (v := x_36) C 0 rfl (vp_in_nI (by omega) (by omega)) (ldn (by omega) ex_36) dX12_hears_46 ?_
        refine ww_iload C dX12_hears_47 5 rfl ?_
        obtain ⟨x_37, ex_37⟩ : ∃ z : Int32, x_36 >>> (v3 &&& 31) = z := ⟨_, rfl⟩
        refine ww_ishr (v := x_37) C dX12_hears_49 ex_37 ?_
        refine ww_iconst (v := 1) C dX12_hears_50 rfl ?_
        obtain ⟨j_38, hj_38, ej_38⟩ := pk_andE x_37 (m := 1) 1 rfl
        refine ww_iand (v := (nI j_38)) C dX12_hears_51 ej_38 ?_
        refine ww_istore (lv' := [(7, .int (nI j_38)), (6, .int (nI (((16 * j_33) + (4 * j_34)) + j_35))), (0, .ref hm), (1, .int (nI j_33)), (2, .int (nI j_34)), (3, .int (nI j_35)), (4, .int v3), (5, .int v4)]) C dX12_hears_52 rfl rfl ?_
        refine ww_aload_n C dX12_hears_54 2 rfl rfl ?_
        refine ww_get C fg_X12_68 1 rfl rfl dX12_hears_55 ?_
        refine ww_iload C dX12_hears_58 1 rfl ?_
        refine ww_iload C dX12_hears_60 7 rfl ?_
        refine ww_if_eq (tgt := 80) C dX12_hears_62 (by decide) (fun c_39 => ?_) (fun c_39 => ?_)
        · have zc_39 : v4.toInt = 0 := i_eq rfl rfl c_39
          refine ww_aload_n C dX12_hears_80 2 rfl rfl ?_
          refine ww_get C fg_X12_68 1 rfl rfl dX12_hears_81 ?_
          refine ww_iload C dX12_hears_84 1 rfl ?_
          obtain ⟨x_40, ex_40⟩ : ∃ z : Int32, f_heard (((16 * j_33) + (4 * j_34)) + j_35) = z := ⟨_, rfl⟩
          refine ww_iald (v := x_40) C 0 rfl (vp_in_nI (by omega) (by omega)) (ldn (by omega) ex_40) dX12_hears_86 ?_
          refine ww_iconst (v := 1) C dX12_hears_87 rfl ?_
          refine ww_iload C dX12_hears_88 6 rfl ?_
          obtain ⟨x_41, ex_41⟩ : ∃ z : Int32, (1 : Int32) <<< (v3 &&& 31) = z := ⟨_, rfl⟩
          refine ww_ishl (v := x_41) C dX12_hears_90 ex_41 ?_
          refine ww_iconst (v := (-1)) C dX12_hears_91 rfl ?_
          obtain ⟨x_42, ex_42⟩ : ∃ z : Int32, x_41 ^^^ ((-1) : Int32) = z := ⟨_, rfl⟩
          refine ww_ixor (v := x_42) C dX12_hears_92 ex_42 ?_
          obtain ⟨x_43, ex_43⟩ : ∃ z : Int32, x_40 &&& x_42 = z := ⟨_, rfl⟩
          refine ww_iand (v := x_43) C dX12_hears_93 ex_43 ?_
          obtain ⟨f_44, ef_44⟩ : ∃ z : Nat → Int32, upd f_heard (((16 * j_33) + (4 * j_34)) + j_35) x_43 = z := ⟨_, rfl⟩
          refine ww_iast (ws' := [(m_heard, .inl (E.2.1 1, 64, .inl f_44)), (hm, .inr (12, [.ref m_manys, .ref m_reals, .ref m_factsOf, .ref m_possible, .int (nI q_undos), .int (nI q_models), .ref m_tape, .int (nI q_taped), .int q_fault, .int q_wrong, .int q_wrongAt, .int q_spot, .int q_place, .int q_token, .int q_value, .ref m_ends, .ref m_letters, .ref m_actOf, .ref m_whom, .ref m_actMany, .ref m_tokens, .ref m_afters, .ref m_afterOf, .int q_counted, .ref m_pile, .ref m_caseMany, .ref m_happen, .ref m_hasIf, .ref m_becomes, .ref m_goneOf, .ref m_heard, .ref m_pairs, .ref m_heaps, .int q_rounds, .int q_heapMany, .ref m_led, .ref m_newAt, .ref m_knowing, .ref m_firsts, .int (nI q_people), .ref m_secrets, .ref m_tried, .ref m_lanes, .ref m_lengths, .ref m_cells])), (m_caseMany, .inl (E.2.1 1, 4, .inl f_caseMany))]) C 0 rfl (vp_in_nI (by omega) (by omega)) (ldn2 (by omega) ef_44) rfl dX12_hears_94 ?_
          refine ww_iload C dX12_hears_95 0 rfl ?_
          exact ww_iret (u := [(hm, .inr (12, [.ref m_manys, .ref m_reals, .ref m_factsOf, .ref m_possible, .int (nI q_undos), .int (nI q_models), .ref m_tape, .int (nI q_taped), .int q_fault, .int q_wrong, .int q_wrongAt, .int q_spot, .int q_place, .int q_token, .int q_value, .ref m_ends, .ref m_letters, .ref m_actOf, .ref m_whom, .ref m_actMany, .ref m_tokens, .ref m_afters, .ref m_afterOf, .int q_counted, .ref m_pile, .ref m_caseMany, .ref m_happen, .ref m_hasIf, .ref m_becomes, .ref m_goneOf, .ref m_heard, .ref m_pairs, .ref m_heaps, .int q_rounds, .int q_heapMany, .ref m_led, .ref m_newAt, .ref m_knowing, .ref m_firsts, .int (nI q_people), .ref m_secrets, .ref m_tried, .ref m_lanes, .ref m_lengths, .ref m_cells])), (m_caseMany, .inl (E.2.1 1, 4, .inl f_caseMany)), (m_heard, .inl (E.2.1 1, 64, .inl f_44))]) C hT [1, 2, 0] rfl rfl rfl rfl dX12_hears_97 (Or.inr ⟨j_33, j_34, j_35, f_44, rfl, h_7, h_19, rfl, rfl, rfl, (by omega), (by omega), (by omega), (by unfold hbt; rw [if_neg (fun h9 => h9 (by assumption)), ex_40, ex_41, ex_42, ex_43]; exact ef_44), (by rw [ex_36, ex_37, ej_38])⟩)
        · have zc_39 : v4.toInt ≠ 0 := i_ne rfl rfl c_39
          refine ww_aload_n C dX12_hears_65 2 rfl rfl ?_
          refine ww_get C fg_X12_68 1 rfl rfl dX12_hears_66 ?_
          refine ww_iload C dX12_hears_69 1 rfl ?_
          obtain ⟨x_45, ex_45⟩ : ∃ z : Int32, f_heard (((16 * j_33) + (4 * j_34)) + j_35) = z := ⟨_, rfl⟩
          refine ww_iald (v := x_45) C 0 rfl (vp_in_nI (by omega) (by omega)) (ldn (by omega) ex_45) dX12_hears_71 ?_
          refine ww_iconst (v := 1) C dX12_hears_72 rfl ?_
          refine ww_iload C dX12_hears_73 6 rfl ?_
          obtain ⟨x_46, ex_46⟩ : ∃ z : Int32, (1 : Int32) <<< (v3 &&& 31) = z := ⟨_, rfl⟩
          refine ww_ishl (v := x_46) C dX12_hears_75 ex_46 ?_
          obtain ⟨x_47, ex_47⟩ : ∃ z : Int32, x_45 ||| x_46 = z := ⟨_, rfl⟩
          refine ww_ior (v := x_47) C dX12_hears_76 ex_47 ?_
          refine ww_goto (tgt := 94) C dX12_hears_77 (by decide) ?_
          obtain ⟨f_48, ef_48⟩ : ∃ z : Nat → Int32, upd f_heard (((16 * j_33) + (4 * j_34)) + j_35) x_47 = z := ⟨_, rfl⟩
          refine ww_iast (ws' := [(m_heard, .inl (E.2.1 1, 64, .inl f_48)), (hm, .inr (12, [.ref m_manys, .ref m_reals, .ref m_factsOf, .ref m_possible, .int (nI q_undos), .int (nI q_models), .ref m_tape, .int (nI q_taped), .int q_fault, .int q_wrong, .int q_wrongAt, .int q_spot, .int q_place, .int q_token, .int q_value, .ref m_ends, .ref m_letters, .ref m_actOf, .ref m_whom, .ref m_actMany, .ref m_tokens, .ref m_afters, .ref m_afterOf, .int q_counted, .ref m_pile, .ref m_caseMany, .ref m_happen, .ref m_hasIf, .ref m_becomes, .ref m_goneOf, .ref m_heard, .ref m_pairs, .ref m_heaps, .int q_rounds, .int q_heapMany, .ref m_led, .ref m_newAt, .ref m_knowing, .ref m_firsts, .int (nI q_people), .ref m_secrets, .ref m_tried, .ref m_lanes, .ref m_lengths, .ref m_cells])), (m_caseMany, .inl (E.2.1 1, 4, .inl f_caseMany))]) C 0 rfl (vp_in_nI (by omega) (by omega)) (ldn2 (by omega) ef_48) rfl dX12_hears_94 ?_
          refine ww_iload C dX12_hears_95 0 rfl ?_
          exact ww_iret (u := [(hm, .inr (12, [.ref m_manys, .ref m_reals, .ref m_factsOf, .ref m_possible, .int (nI q_undos), .int (nI q_models), .ref m_tape, .int (nI q_taped), .int q_fault, .int q_wrong, .int q_wrongAt, .int q_spot, .int q_place, .int q_token, .int q_value, .ref m_ends, .ref m_letters, .ref m_actOf, .ref m_whom, .ref m_actMany, .ref m_tokens, .ref m_afters, .ref m_afterOf, .int q_counted, .ref m_pile, .ref m_caseMany, .ref m_happen, .ref m_hasIf, .ref m_becomes, .ref m_goneOf, .ref m_heard, .ref m_pairs, .ref m_heaps, .int q_rounds, .int q_heapMany, .ref m_led, .ref m_newAt, .ref m_knowing, .ref m_firsts, .int (nI q_people), .ref m_secrets, .ref m_tried, .ref m_lanes, .ref m_lengths, .ref m_cells])), (m_caseMany, .inl (E.2.1 1, 4, .inl f_caseMany)), (m_heard, .inl (E.2.1 1, 64, .inl f_48))]) C hT [1, 2, 0] rfl rfl rfl rfl dX12_hears_97 (Or.inr ⟨j_33, j_34, j_35, f_48, rfl, h_7, h_19, rfl, rfl, rfl, (by omega), (by omega), (by omega), (by unfold hbt; rw [if_pos (by assumption), ex_45, ex_46, ex_47]; exact ef_48), (by rw [ex_36, ex_37, ej_38])⟩)
      · refine an2 hw ?_
        clear hw
        intro he_31 he_32 hw
        have h_30 := hw
        clear hw
        have he_31 := he_31.symm
        subst he_31
        subst he_32
        refine ww_eq (ws' := [(m_heard, .inl (E.2.1 1, 64, .inl f_heard)), (hm, .inr (12, [.ref m_manys, .ref m_reals, .ref m_factsOf, .ref m_possible, .int (nI q_undos), .int (nI q_models), .ref m_tape, .int (nI q_taped), .int q_fault, .int q_wrong, .int q_wrongAt, .int q_spot, .int q_place, .int q_token, .int q_value, .ref m_ends, .ref m_letters, .ref m_actOf, .ref m_whom, .ref m_actMany, .ref m_tokens, .ref m_afters, .ref m_afterOf, .int q_counted, .ref m_pile, .ref m_caseMany, .ref m_happen, .ref m_hasIf, .ref m_becomes, .ref m_goneOf, .ref m_heard, .ref m_pairs, .ref m_heaps, .int q_rounds, .int q_heapMany, .ref m_led, .ref m_newAt, .ref m_knowing, .ref m_firsts, .int (nI q_people), .ref m_secrets, .ref m_tried, .ref m_lanes, .ref m_lengths, .ref m_cells])), (m_caseMany, .inl (E.2.1 1, 4, .inl f_caseMany))]) ?_ rfl rfl rfl
        refine ww_if_ne_f (tgt := 28) C dX12_hears_23 (by decide) (rfl) ?_
        refine ww_iconst (v := (-1)) C dX12_hears_26 rfl ?_
        exact ww_iret (u := [(hm, .inr (12, [.ref m_manys, .ref m_reals, .ref m_factsOf, .ref m_possible, .int (nI q_undos), .int (nI q_models), .ref m_tape, .int (nI q_taped), .int q_fault, .int q_wrong, .int q_wrongAt, .int q_spot, .int q_place, .int q_token, .int q_value, .ref m_ends, .ref m_letters, .ref m_actOf, .ref m_whom, .ref m_actMany, .ref m_tokens, .ref m_afters, .ref m_afterOf, .int q_counted, .ref m_pile, .ref m_caseMany, .ref m_happen, .ref m_hasIf, .ref m_becomes, .ref m_goneOf, .ref m_heard, .ref m_pairs, .ref m_heaps, .int q_rounds, .int q_heapMany, .ref m_led, .ref m_newAt, .ref m_knowing, .ref m_firsts, .int (nI q_people), .ref m_secrets, .ref m_tried, .ref m_lanes, .ref m_lengths, .ref m_cells])), (m_caseMany, .inl (E.2.1 1, 4, .inl f_caseMany)), (m_heard, .inl (E.2.1 1, 64, .inl f_heard))]) C hT [1, 2, 0] rfl rfl rfl rfl dX12_hears_27 (Or.inl ⟨rfl, rfl, (Or.inr (Or.inr (by omega)))⟩)
    · refine an2 hw ?_
      clear hw
      intro he_23 he_24 hw
      have h_22 := hw
      clear hw
      have he_23 := he_23.symm
      subst he_23
      subst he_24
      refine ww_eq (ws' := [(m_heard, .inl (E.2.1 1, 64, .inl f_heard)), (hm, .inr (12, [.ref m_manys, .ref m_reals, .ref m_factsOf, .ref m_possible, .int (nI q_undos), .int (nI q_models), .ref m_tape, .int (nI q_taped), .int q_fault, .int q_wrong, .int q_wrongAt, .int q_spot, .int q_place, .int q_token, .int q_value, .ref m_ends, .ref m_letters, .ref m_actOf, .ref m_whom, .ref m_actMany, .ref m_tokens, .ref m_afters, .ref m_afterOf, .int q_counted, .ref m_pile, .ref m_caseMany, .ref m_happen, .ref m_hasIf, .ref m_becomes, .ref m_goneOf, .ref m_heard, .ref m_pairs, .ref m_heaps, .int q_rounds, .int q_heapMany, .ref m_led, .ref m_newAt, .ref m_knowing, .ref m_firsts, .int (nI q_people), .ref m_secrets, .ref m_tried, .ref m_lanes, .ref m_lengths, .ref m_cells])), (m_caseMany, .inl (E.2.1 1, 4, .inl f_caseMany))]) ?_ rfl rfl rfl
      refine ww_if_eq_t (tgt := 26) C dX12_hears_16 (by decide) (rfl) ?_
      refine ww_iconst (v := (-1)) C dX12_hears_26 rfl ?_
      exact ww_iret (u := [(hm, .inr (12, [.ref m_manys, .ref m_reals, .ref m_factsOf, .ref m_possible, .int (nI q_undos), .int (nI q_models), .ref m_tape, .int (nI q_taped), .int q_fault, .int q_wrong, .int q_wrongAt, .int q_spot, .int q_place, .int q_token, .int q_value, .ref m_ends, .ref m_letters, .ref m_actOf, .ref m_whom, .ref m_actMany, .ref m_tokens, .ref m_afters, .ref m_afterOf, .int q_counted, .ref m_pile, .ref m_caseMany, .ref m_happen, .ref m_hasIf, .ref m_becomes, .ref m_goneOf, .ref m_heard, .ref m_pairs, .ref m_heaps, .int q_rounds, .int q_heapMany, .ref m_led, .ref m_newAt, .ref m_knowing, .ref m_firsts, .int (nI q_people), .ref m_secrets, .ref m_tried, .ref m_lanes, .ref m_lengths, .ref m_cells])), (m_caseMany, .inl (E.2.1 1, 4, .inl f_caseMany)), (m_heard, .inl (E.2.1 1, 64, .inl f_heard))]) C hT [1, 2, 0] rfl rfl rfl rfl dX12_hears_27 (Or.inl ⟨rfl, rfl, (Or.inr (Or.inl h_22))⟩)
  · refine an2 hw ?_
    clear hw
    intro he_11 he_12 hw
    have h_10 := hw
    clear hw
    have he_11 := he_11.symm
    subst he_11
    subst he_12
    refine ww_eq (ws' := [(m_heard, .inl (E.2.1 1, 64, .inl f_heard)), (hm, .inr (12, [.ref m_manys, .ref m_reals, .ref m_factsOf, .ref m_possible, .int (nI q_undos), .int (nI q_models), .ref m_tape, .int (nI q_taped), .int q_fault, .int q_wrong, .int q_wrongAt, .int q_spot, .int q_place, .int q_token, .int q_value, .ref m_ends, .ref m_letters, .ref m_actOf, .ref m_whom, .ref m_actMany, .ref m_tokens, .ref m_afters, .ref m_afterOf, .int q_counted, .ref m_pile, .ref m_caseMany, .ref m_happen, .ref m_hasIf, .ref m_becomes, .ref m_goneOf, .ref m_heard, .ref m_pairs, .ref m_heaps, .int q_rounds, .int q_heapMany, .ref m_led, .ref m_newAt, .ref m_knowing, .ref m_firsts, .int (nI q_people), .ref m_secrets, .ref m_tried, .ref m_lanes, .ref m_lengths, .ref m_cells])), (m_caseMany, .inl (E.2.1 1, 4, .inl f_caseMany))]) ?_ rfl rfl rfl
    refine ww_if_eq_t (tgt := 26) C dX12_hears_6 (by decide) (rfl) ?_
    refine ww_iconst (v := (-1)) C dX12_hears_26 rfl ?_
    exact ww_iret (u := [(hm, .inr (12, [.ref m_manys, .ref m_reals, .ref m_factsOf, .ref m_possible, .int (nI q_undos), .int (nI q_models), .ref m_tape, .int (nI q_taped), .int q_fault, .int q_wrong, .int q_wrongAt, .int q_spot, .int q_place, .int q_token, .int q_value, .ref m_ends, .ref m_letters, .ref m_actOf, .ref m_whom, .ref m_actMany, .ref m_tokens, .ref m_afters, .ref m_afterOf, .int q_counted, .ref m_pile, .ref m_caseMany, .ref m_happen, .ref m_hasIf, .ref m_becomes, .ref m_goneOf, .ref m_heard, .ref m_pairs, .ref m_heaps, .int q_rounds, .int q_heapMany, .ref m_led, .ref m_newAt, .ref m_knowing, .ref m_firsts, .int (nI q_people), .ref m_secrets, .ref m_tried, .ref m_lanes, .ref m_lengths, .ref m_cells])), (m_caseMany, .inl (E.2.1 1, 4, .inl f_caseMany)), (m_heard, .inl (E.2.1 1, 64, .inl f_heard))]) C hT [1, 2, 0] rfl rfl rfl rfl dX12_hears_27 (Or.inl ⟨rfl, rfl, (Or.inl h_10)⟩)
theorem dX12_happens_0 : decode cX12_happens 0 = .ok (.aload_n 0, 1) := dl_42 (by decide +kernel)
theorem dX12_happens_1 : decode cX12_happens 1 = .ok (.iload_n 1, 1) := dl_27 (by decide +kernel)
theorem dX12_happens_2 : decode cX12_happens 2 = .ok (.iload_n 2, 1) := dl_28 (by decide +kernel)
theorem dX12_happens_3 : decode cX12_happens 3 = .ok (.invokevirtual 243, 3) := dl_182 (by decide +kernel)
theorem dX12_happens_6 : decode cX12_happens 6 = .ok (.ifCond .ne 5, 3) := dl_154 (by decide +kernel)
theorem dX12_happens_11 : decode cX12_happens 11 = .ok (.aload_n 0, 1) := dl_42 (by decide +kernel)
theorem dX12_happens_12 : decode cX12_happens 12 = .ok (.getfield 55, 3) := dl_180 (by decide +kernel)
theorem dX12_happens_15 : decode cX12_happens 15 = .ok (.iload_n 1, 1) := dl_27 (by decide +kernel)
theorem dX12_happens_16 : decode cX12_happens 16 = .ok (.iaload, 1) := dl_46 (by decide +kernel)
theorem dX12_happens_17 : decode cX12_happens 17 = .ok (.istore_n 3, 1) := dl_62 (by decide +kernel)
theorem dX12_happens_18 : decode cX12_happens 18 = .ok (.aload_n 0, 1) := dl_42 (by decide +kernel)
theorem dX12_happens_19 : decode cX12_happens 19 = .ok (.getfield 55, 3) := dl_180 (by decide +kernel)
theorem dX12_happens_22 : decode cX12_happens 22 = .ok (.iload_n 1, 1) := dl_27 (by decide +kernel)
theorem dX12_happens_23 : decode cX12_happens 23 = .ok (.iload_n 2, 1) := dl_28 (by decide +kernel)
theorem dX12_happens_24 : decode cX12_happens 24 = .ok (.iastore, 1) := dl_79 (by decide +kernel)
theorem dX12_happens_25 : decode cX12_happens 25 = .ok (.iload_n 3, 1) := dl_29 (by decide +kernel)
theorem dX12_happens_26 : decode cX12_happens 26 = .ok (.ireturn, 1) := dl_172 (by decide +kernel)
theorem dX12_happens_9 : decode cX12_happens 9 = .ok (.iconst (-1), 1) := dl_2 (by decide +kernel)
theorem dX12_happens_10 : decode cX12_happens 10 = .ok (.ireturn, 1) := dl_172 (by decide +kernel)
set_option maxRecDepth 100000 in
set_option maxHeartbeats 4000000 in
theorem y_happens (l : Launch) (E : EV) (ro : va_W) (hm : Nat) (v0 : Int32) (v1 : Int32) (m_manys : Nat) (m_reals : Nat) (m_factsOf : Nat) (m_possible : Nat) (q_undos : Nat) (q_models : Nat) (m_tape : Nat) (q_taped : Nat) (q_fault : Int32) (q_wrong : Int32) (q_wrongAt : Int32) (q_spot : Int32) (q_place : Int32) (q_token : Int32) (q_value : Int32) (m_ends : Nat) (m_letters : Nat) (m_actOf : Nat) (m_whom : Nat) (m_actMany : Nat) (m_tokens : Nat) (m_afters : Nat) (m_afterOf : Nat) (q_counted : Int32) (m_pile : Nat) (m_caseMany : Nat) (m_happen : Nat) (m_hasIf : Nat) (m_becomes : Nat) (m_goneOf : Nat) (m_heard : Nat) (m_pairs : Nat) (m_heaps : Nat) (q_rounds : Int32) (q_heapMany : Int32) (m_led : Nat) (m_newAt : Nat) (m_knowing : Nat) (m_firsts : Nat) (q_people : Nat) (m_secrets : Nat) (m_tried : Nat) (m_lanes : Nat) (m_lengths : Nat) (m_cells : Nat) (f_caseMany : Nat → Int32) (f_happen : Nat → Int32) (hb_caseMany : NB 4 4 f_caseMany) (hb_happen : NB 4 3 f_happen) (hhp : HP f_caseMany f_happen) : CT l yX12_happens (Cond.code yX12_happens cX12_happens 4 (some .int) :: TB) ({ frames := 3, cells := 0, slots := 0, locals := 68 }) E ro [.ref hm, .int v0, .int v1] [(hm, .inr (12, [.ref m_manys, .ref m_reals, .ref m_factsOf, .ref m_possible, .int (nI q_undos), .int (nI q_models), .ref m_tape, .int (nI q_taped), .int q_fault, .int q_wrong, .int q_wrongAt, .int q_spot, .int q_place, .int q_token, .int q_value, .ref m_ends, .ref m_letters, .ref m_actOf, .ref m_whom, .ref m_actMany, .ref m_tokens, .ref m_afters, .ref m_afterOf, .int q_counted, .ref m_pile, .ref m_caseMany, .ref m_happen, .ref m_hasIf, .ref m_becomes, .ref m_goneOf, .ref m_heard, .ref m_pairs, .ref m_heaps, .int q_rounds, .int q_heapMany, .ref m_led, .ref m_newAt, .ref m_knowing, .ref m_firsts, .int (nI q_people), .ref m_secrets, .ref m_tried, .ref m_lanes, .ref m_lengths, .ref m_cells])), (m_caseMany, .inl (E.2.1 1, 4, .inl f_caseMany)), (m_happen, .inl (E.2.1 1, 4, .inl f_happen))] (Qi E (fun (rz : Int32) uz => (rz = (-1) ∧ uz = [(hm, .inr (12, [.ref m_manys, .ref m_reals, .ref m_factsOf, .ref m_possible, .int (nI q_undos), .int (nI q_models), .ref m_tape, .int (nI q_taped), .int q_fault, .int q_wrong, .int q_wrongAt, .int q_spot, .int q_place, .int q_token, .int q_value, .ref m_ends, .ref m_letters, .ref m_actOf, .ref m_whom, .ref m_actMany, .ref m_tokens, .ref m_afters, .ref m_afterOf, .int q_counted, .ref m_pile, .ref m_caseMany, .ref m_happen, .ref m_hasIf, .ref m_becomes, .ref m_goneOf, .ref m_heard, .ref m_pairs, .ref m_heaps, .int q_rounds, .int q_heapMany, .ref m_led, .ref m_newAt, .ref m_knowing, .ref m_firsts, .int (nI q_people), .ref m_secrets, .ref m_tried, .ref m_lanes, .ref m_lengths, .ref m_cells])), (m_caseMany, .inl (E.2.1 1, 4, .inl f_caseMany)), (m_happen, .inl (E.2.1 1, 4, .inl f_happen))] ∧ (¬ CSE (cN f_caseMany) v0 v1)) ∨ (∃ (k_ : Nat) (i_ : Nat) (f_happenz : Nat → Int32), uz = [(hm, .inr (12, [.ref m_manys, .ref m_reals, .ref m_factsOf, .ref m_possible, .int (nI q_undos), .int (nI q_models), .ref m_tape, .int (nI q_taped), .int q_fault, .int q_wrong, .int q_wrongAt, .int q_spot, .int q_place, .int q_token, .int q_value, .ref m_ends, .ref m_letters, .ref m_actOf, .ref m_whom, .ref m_actMany, .ref m_tokens, .ref m_afters, .ref m_afterOf, .int q_counted, .ref m_pile, .ref m_caseMany, .ref m_happen, .ref m_hasIf, .ref m_becomes, .ref m_goneOf, .ref m_heard, .ref m_pairs, .ref m_heaps, .int q_rounds, .int q_heapMany, .ref m_led, .ref m_newAt, .ref m_knowing, .ref m_firsts, .int (nI q_people), .ref m_secrets, .ref m_tried, .ref m_lanes, .ref m_lengths, .ref m_cells])), (m_caseMany, .inl (E.2.1 1, 4, .inl f_caseMany)), (m_happen, .inl (E.2.1 1, 4, .inl f_happenz))] ∧ (NB 4 3 f_happenz) ∧ (HP f_caseMany f_happenz) ∧ (CSE (cN f_caseMany) v0 v1) ∧ (v0 = nI k_) ∧ (v1 = nI i_) ∧ (k_ ≤ 3) ∧ (i_ ≤ 3) ∧ (upd f_happen k_ (nI i_) = f_happenz) ∧ (rz = nI (cN f_happen k_))))) 0 0 := by
  refine ct_of rfl rfl ?_
  intro X C hT hin hro
  show WW X 4 E 0 [(0, .ref hm), (1, .int v0), (2, .int v1)] [] [(hm, .inr (12, [.ref m_manys, .ref m_reals, .ref m_factsOf, .ref m_possible, .int (nI q_undos), .int (nI q_models), .ref m_tape, .int (nI q_taped), .int q_fault, .int q_wrong, .int q_wrongAt, .int q_spot, .int q_place, .int q_token, .int q_value, .ref m_ends, .ref m_letters, .ref m_actOf, .ref m_whom, .ref m_actMany, .ref m_tokens, .ref m_afters, .ref m_afterOf, .int q_counted, .ref m_pile, .ref m_caseMany, .ref m_happen, .ref m_hasIf, .ref m_becomes, .ref m_goneOf, .ref m_heard, .ref m_pairs, .ref m_heaps, .int q_rounds, .int q_heapMany, .ref m_led, .ref m_newAt, .ref m_knowing, .ref m_firsts, .int (nI q_people), .ref m_secrets, .ref m_tried, .ref m_lanes, .ref m_lengths, .ref m_cells])), (m_caseMany, .inl (E.2.1 1, 4, .inl f_caseMany)), (m_happen, .inl (E.2.1 1, 4, .inl f_happen))] 0 0
  refine ww_aload_n C dX12_happens_0 0 rfl rfl ?_
  refine ww_iload_n C dX12_happens_1 1 rfl rfl ?_
  refine ww_iload_n C dX12_happens_2 2 rfl rfl ?_
  refine ww_ci (wr := [(m_happen, .inl (E.2.1 1, 4, .inl f_happen))]) (k' := 0) (n' := 0) C (run_V (As := [.int v0, .int v1]) (rest := []) C (r_isCase X.2.1 E ro hm v0 v1 m_manys m_reals m_factsOf m_possible q_undos q_models m_tape q_taped q_fault q_wrong q_wrongAt q_spot q_place q_token q_value m_ends m_letters m_actOf m_whom m_actMany m_tokens m_afters m_afterOf q_counted m_pile m_caseMany m_happen m_hasIf m_becomes m_goneOf m_heard m_pairs m_heaps q_rounds q_heapMany m_led m_newAt m_knowing m_firsts q_people m_secrets m_tried m_lanes m_lengths m_cells f_caseMany hb_caseMany) mi_X12_isCase wl_X12_243 rfl 0 12 rfl rfl rfl rfl rfl dX12_happens_3) (roK hro) [0, 1] [2] rfl rfl rfl rfl (fun r_1 uz hw => ?_)
  rcases hw with hw | hw
  · refine an7 hw ?_
    clear hw
    intro he_8 he_9 h_2 h_3 h_4 h_5 h_6 hw
    have h_7 := hw
    clear hw
    have he_8 := he_8.symm
    subst he_8
    subst he_9
    refine ww_eq (ws' := [(m_happen, .inl (E.2.1 1, 4, .inl f_happen)), (hm, .inr (12, [.ref m_manys, .ref m_reals, .ref m_factsOf, .ref m_possible, .int (nI q_undos), .int (nI q_models), .ref m_tape, .int (nI q_taped), .int q_fault, .int q_wrong, .int q_wrongAt, .int q_spot, .int q_place, .int q_token, .int q_value, .ref m_ends, .ref m_letters, .ref m_actOf, .ref m_whom, .ref m_actMany, .ref m_tokens, .ref m_afters, .ref m_afterOf, .int q_counted, .ref m_pile, .ref m_caseMany, .ref m_happen, .ref m_hasIf, .ref m_becomes, .ref m_goneOf, .ref m_heard, .ref m_pairs, .ref m_heaps, .int q_rounds, .int q_heapMany, .ref m_led, .ref m_newAt, .ref m_knowing, .ref m_firsts, .int (nI q_people), .ref m_secrets, .ref m_tried, .ref m_lanes, .ref m_lengths, .ref m_cells])), (m_caseMany, .inl (E.2.1 1, 4, .inl f_caseMany))]) ?_ rfl rfl rfl
    refine ww_if_ne_t (tgt := 11) C dX12_happens_6 (by decide) (by decide) ?_
    obtain ⟨j_13, hj_13, rfl⟩ := i_nat (x := v0) (N := 3) (by omega) (by omega)
    have hzj_13 := nI_toInt (n := j_13) (by omega)
    obtain ⟨j_14, hj_14, rfl⟩ := i_nat (x := v1) (N := 3) (by omega) (by omega)
    have hzj_14 := nI_toInt (n := j_14) (by omega)
    rw [nI_clamp (by omega)] at h_6
    refine ww_aload_n C dX12_happens_11 0 rfl rfl ?_
    refine ww_get C fg_X12_55 1 rfl rfl dX12_happens_12 ?_
    refine ww_iload_n C dX12_happens_15 1 rfl rfl ?_
    have hbx_15 := (hb_happen j_13 (by omega)).2
    refine ww_iald (v := (nI (cN f_happen j_13))) C 0 rfl (vp_in_nI (by omega) (by omega)) (ldn (by omega) (hb_happen j_13 (by omega)).1) dX12_happens_16 ?_
    refine ww_istore_n (lv' := [(3, .int (nI (cN f_happen j_13))), (0, .ref hm), (1, .int (nI j_13)), (2, .int (nI j_14))]) C dX12_happens_17 rfl rfl rfl ?_
    refine ww_aload_n C dX12_happens_18 1 rfl rfl ?_
    refine ww_get C fg_X12_55 1 rfl rfl dX12_happens_19 ?_
    refine ww_iload_n C dX12_happens_22 2 rfl rfl ?_
    refine ww_iload_n C dX12_happens_23 3 rfl rfl ?_
    obtain ⟨f_16, ef_16⟩ : ∃ z : Nat → Int32, upd f_happen j_13 (nI j_14) = z := ⟨_, rfl⟩
    refine ww_iast (ws' := [(m_happen, .inl (E.2.1 1, 4, .inl f_16)), (hm, .inr (12, [.ref m_manys, .ref m_reals, .ref m_factsOf, .ref m_possible, .int (nI q_undos), .int (nI q_models), .ref m_tape, .int (nI q_taped), .int q_fault, .int q_wrong, .int q_wrongAt, .int q_spot, .int q_place, .int q_token, .int q_value, .ref m_ends, .ref m_letters, .ref m_actOf, .ref m_whom, .ref m_actMany, .ref m_tokens, .ref m_afters, .ref m_afterOf, .int q_counted, .ref m_pile, .ref m_caseMany, .ref m_happen, .ref m_hasIf, .ref m_becomes, .ref m_goneOf, .ref m_heard, .ref m_pairs, .ref m_heaps, .int q_rounds, .int q_heapMany, .ref m_led, .ref m_newAt, .ref m_knowing, .ref m_firsts, .int (nI q_people), .ref m_secrets, .ref m_tried, .ref m_lanes, .ref m_lengths, .ref m_cells])), (m_caseMany, .inl (E.2.1 1, 4, .inl f_caseMany))]) C 0 rfl (vp_in_nI (by omega) (by omega)) (ldn2 (by omega) ef_16) rfl dX12_happens_24 ?_
    refine ww_iload_n C dX12_happens_25 0 rfl rfl ?_
    exact ww_iret (u := [(hm, .inr (12, [.ref m_manys, .ref m_reals, .ref m_factsOf, .ref m_possible, .int (nI q_undos), .int (nI q_models), .ref m_tape, .int (nI q_taped), .int q_fault, .int q_wrong, .int q_wrongAt, .int q_spot, .int q_place, .int q_token, .int q_value, .ref m_ends, .ref m_letters, .ref m_actOf, .ref m_whom, .ref m_actMany, .ref m_tokens, .ref m_afters, .ref m_afterOf, .int q_counted, .ref m_pile, .ref m_caseMany, .ref m_happen, .ref m_hasIf, .ref m_becomes, .ref m_goneOf, .ref m_heard, .ref m_pairs, .ref m_heaps, .int q_rounds, .int q_heapMany, .ref m_led, .ref m_newAt, .ref m_knowing, .ref m_firsts, .int (nI q_people), .ref m_secrets, .ref m_tried, .ref m_lanes, .ref m_lengths, .ref m_cells])), (m_caseMany, .inl (E.2.1 1, 4, .inl f_caseMany)), (m_happen, .inl (E.2.1 1, 4, .inl f_16))]) C hT [1, 2, 0] rfl rfl rfl rfl dX12_happens_26 (Or.inr ⟨j_13, j_14, f_16, rfl, (NB.put hb_happen (t := j_14) (by omega) (by decide) ef_16), (HP.put2 (b := j_14) hhp ef_16 (by omega) (by omega)), h_7, rfl, rfl, (by omega), (by omega), ef_16, rfl⟩)
  · refine an2 hw ?_
    clear hw
    intro he_11 he_12 hw
    have h_10 := hw
    clear hw
    have he_11 := he_11.symm
    subst he_11
    subst he_12
    refine ww_eq (ws' := [(m_happen, .inl (E.2.1 1, 4, .inl f_happen)), (hm, .inr (12, [.ref m_manys, .ref m_reals, .ref m_factsOf, .ref m_possible, .int (nI q_undos), .int (nI q_models), .ref m_tape, .int (nI q_taped), .int q_fault, .int q_wrong, .int q_wrongAt, .int q_spot, .int q_place, .int q_token, .int q_value, .ref m_ends, .ref m_letters, .ref m_actOf, .ref m_whom, .ref m_actMany, .ref m_tokens, .ref m_afters, .ref m_afterOf, .int q_counted, .ref m_pile, .ref m_caseMany, .ref m_happen, .ref m_hasIf, .ref m_becomes, .ref m_goneOf, .ref m_heard, .ref m_pairs, .ref m_heaps, .int q_rounds, .int q_heapMany, .ref m_led, .ref m_newAt, .ref m_knowing, .ref m_firsts, .int (nI q_people), .ref m_secrets, .ref m_tried, .ref m_lanes, .ref m_lengths, .ref m_cells])), (m_caseMany, .inl (E.2.1 1, 4, .inl f_caseMany))]) ?_ rfl rfl rfl
    refine ww_if_ne_f (tgt := 11) C dX12_happens_6 (by decide) (rfl) ?_
    refine ww_iconst (v := (-1)) C dX12_happens_9 rfl ?_
    exact ww_iret (u := [(hm, .inr (12, [.ref m_manys, .ref m_reals, .ref m_factsOf, .ref m_possible, .int (nI q_undos), .int (nI q_models), .ref m_tape, .int (nI q_taped), .int q_fault, .int q_wrong, .int q_wrongAt, .int q_spot, .int q_place, .int q_token, .int q_value, .ref m_ends, .ref m_letters, .ref m_actOf, .ref m_whom, .ref m_actMany, .ref m_tokens, .ref m_afters, .ref m_afterOf, .int q_counted, .ref m_pile, .ref m_caseMany, .ref m_happen, .ref m_hasIf, .ref m_becomes, .ref m_goneOf, .ref m_heard, .ref m_pairs, .ref m_heaps, .int q_rounds, .int q_heapMany, .ref m_led, .ref m_newAt, .ref m_knowing, .ref m_firsts, .int (nI q_people), .ref m_secrets, .ref m_tried, .ref m_lanes, .ref m_lengths, .ref m_cells])), (m_caseMany, .inl (E.2.1 1, 4, .inl f_caseMany)), (m_happen, .inl (E.2.1 1, 4, .inl f_happen))]) C hT [1, 2, 0] rfl rfl rfl rfl dX12_happens_10 (Or.inl ⟨rfl, rfl, h_10⟩)
theorem dX12_word_0 : decode cX12_word 0 = .ok (.iload_n 1, 1) := dl_27 (by decide +kernel)
theorem dX12_word_1 : decode cX12_word 1 = .ok (.i2l, 1) := dl_133 (by decide +kernel)
theorem dX12_word_2 : decode cX12_word 2 = .ok (.lconst 0, 1) := dl_9 (by decide +kernel)
theorem dX12_word_3 : decode cX12_word 3 = .ok (.ldc2_w 113, 3) := dl_20 (by decide +kernel)
theorem dX12_word_6 : decode cX12_word 6 = .ok (.invokestatic 115, 3) := dl_184 (by decide +kernel)
theorem dX12_word_9 : decode cX12_word 9 = .ok (.ifCond .eq 36, 3) := dl_153 (by decide +kernel)
theorem dX12_word_12 : decode cX12_word 12 = .ok (.iload_n 2, 1) := dl_28 (by decide +kernel)
theorem dX12_word_13 : decode cX12_word 13 = .ok (.i2l, 1) := dl_133 (by decide +kernel)
theorem dX12_word_14 : decode cX12_word 14 = .ok (.lconst 0, 1) := dl_9 (by decide +kernel)
theorem dX12_word_15 : decode cX12_word 15 = .ok (.ldc2_w 254, 3) := dl_20 (by decide +kernel)
theorem wv_X12_254 : Cond.constantLong RX12 254 2 ∈ TB := tbm (tq6 (List.mem_of_getElem? (i := 153) (by decide +kernel))) (by decide +kernel)
theorem dX12_word_18 : decode cX12_word 18 = .ok (.invokestatic 115, 3) := dl_184 (by decide +kernel)
theorem dX12_word_21 : decode cX12_word 21 = .ok (.ifCond .eq 24, 3) := dl_153 (by decide +kernel)
theorem dX12_word_24 : decode cX12_word 24 = .ok (.aload_n 0, 1) := dl_42 (by decide +kernel)
theorem dX12_word_25 : decode cX12_word 25 = .ok (.iload_n 3, 1) := dl_29 (by decide +kernel)
theorem dX12_word_26 : decode cX12_word 26 = .ok (.invokevirtual 247, 3) := dl_182 (by decide +kernel)
theorem dX12_word_29 : decode cX12_word 29 = .ok (.ifCond .eq 16, 3) := dl_153 (by decide +kernel)
theorem dX12_word_32 : decode cX12_word 32 = .ok (.iload 4, 2) := dl_21 (by decide +kernel)
theorem dX12_word_34 : decode cX12_word 34 = .ok (.i2l, 1) := dl_133 (by decide +kernel)
theorem dX12_word_35 : decode cX12_word 35 = .ok (.lconst 0, 1) := dl_9 (by decide +kernel)
theorem dX12_word_36 : decode cX12_word 36 = .ok (.ldc2_w 119, 3) := dl_20 (by decide +kernel)
theorem dX12_word_39 : decode cX12_word 39 = .ok (.invokestatic 115, 3) := dl_184 (by decide +kernel)
theorem dX12_word_42 : decode cX12_word 42 = .ok (.ifCond .ne 5, 3) := dl_154 (by decide +kernel)
theorem dX12_word_47 : decode cX12_word 47 = .ok (.aload_n 0, 1) := dl_42 (by decide +kernel)
theorem dX12_word_48 : decode cX12_word 48 = .ok (.iload_n 1, 1) := dl_27 (by decide +kernel)
theorem dX12_word_49 : decode cX12_word 49 = .ok (.iload_n 2, 1) := dl_28 (by decide +kernel)
theorem dX12_word_50 : decode cX12_word 50 = .ok (.ifCond .ne 7, 3) := dl_154 (by decide +kernel)
theorem dX12_word_53 : decode cX12_word 53 = .ok (.iconst 1, 1) := dl_4 (by decide +kernel)
theorem dX12_word_54 : decode cX12_word 54 = .ok (.goto 4, 3) := dl_167 (by decide +kernel)
theorem dX12_word_58 : decode cX12_word 58 = .ok (.invokevirtual 240, 3) := dl_182 (by decide +kernel)
theorem dX12_word_61 : decode cX12_word 61 = .ok (.aload_n 0, 1) := dl_42 (by decide +kernel)
theorem dX12_word_62 : decode cX12_word 62 = .ok (.iload_n 1, 1) := dl_27 (by decide +kernel)
theorem dX12_word_63 : decode cX12_word 63 = .ok (.iload_n 2, 1) := dl_28 (by decide +kernel)
theorem dX12_word_64 : decode cX12_word 64 = .ok (.iconst 2, 1) := dl_5 (by decide +kernel)
theorem dX12_word_65 : decode cX12_word 65 = .ok (.if_icmp .ne 7, 3) := dl_160 (by decide +kernel)
theorem dX12_word_72 : decode cX12_word 72 = .ok (.iconst 0, 1) := dl_3 (by decide +kernel)
theorem dX12_word_73 : decode cX12_word 73 = .ok (.iload_n 3, 1) := dl_29 (by decide +kernel)
theorem dX12_word_74 : decode cX12_word 74 = .ok (.invokevirtual 250, 3) := dl_182 (by decide +kernel)
theorem dX12_word_77 : decode cX12_word 77 = .ok (.iconst 0, 1) := dl_3 (by decide +kernel)
theorem dX12_word_78 : decode cX12_word 78 = .ok (.istore 5, 2) := dl_54 (by decide +kernel)
theorem dX12_word_80 : decode cX12_word 80 = .ok (.iload 5, 2) := dl_21 (by decide +kernel)
theorem dX12_word_82 : decode cX12_word 82 = .ok (.iconst 4, 1) := dl_7 (by decide +kernel)
theorem dX12_word_83 : decode cX12_word 83 = .ok (.if_icmp .ge 80, 3) := dl_162 (by decide +kernel)
theorem dX12_word_163 : decode cX12_word 163 = .ok (.aload_n 0, 1) := dl_42 (by decide +kernel)
theorem dX12_word_164 : decode cX12_word 164 = .ok (.getfield 52, 3) := dl_180 (by decide +kernel)
theorem dX12_word_167 : decode cX12_word 167 = .ok (.iload_n 1, 1) := dl_27 (by decide +kernel)
theorem dX12_word_168 : decode cX12_word 168 = .ok (.iaload, 1) := dl_46 (by decide +kernel)
theorem dX12_word_169 : decode cX12_word 169 = .ok (.ireturn, 1) := dl_172 (by decide +kernel)
theorem dX12_word_86 : decode cX12_word 86 = .ok (.iload 4, 2) := dl_21 (by decide +kernel)
theorem dX12_word_88 : decode cX12_word 88 = .ok (.iload 5, 2) := dl_21 (by decide +kernel)
theorem dX12_word_90 : decode cX12_word 90 = .ok (.ishr, 1) := dl_122 (by decide +kernel)
theorem dX12_word_91 : decode cX12_word 91 = .ok (.iconst 1, 1) := dl_4 (by decide +kernel)
theorem dX12_word_92 : decode cX12_word 92 = .ok (.iand, 1) := dl_126 (by decide +kernel)
theorem dX12_word_93 : decode cX12_word 93 = .ok (.iconst 1, 1) := dl_4 (by decide +kernel)
theorem dX12_word_94 : decode cX12_word 94 = .ok (.if_icmp .ne 7, 3) := dl_160 (by decide +kernel)
theorem dX12_word_101 : decode cX12_word 101 = .ok (.iconst 0, 1) := dl_3 (by decide +kernel)
theorem dX12_word_102 : decode cX12_word 102 = .ok (.istore 6, 2) := dl_54 (by decide +kernel)
theorem dX12_word_104 : decode cX12_word 104 = .ok (.aload_n 0, 1) := dl_42 (by decide +kernel)
theorem dX12_word_105 : decode cX12_word 105 = .ok (.getfield 68, 3) := dl_180 (by decide +kernel)
theorem dX12_word_108 : decode cX12_word 108 = .ok (.bipush 16, 2) := dl_16 (by decide +kernel)
theorem dX12_word_110 : decode cX12_word 110 = .ok (.iload_n 1, 1) := dl_27 (by decide +kernel)
theorem dX12_word_111 : decode cX12_word 111 = .ok (.imul, 1) := dl_104 (by decide +kernel)
theorem dX12_word_112 : decode cX12_word 112 = .ok (.iconst 4, 1) := dl_7 (by decide +kernel)
theorem dX12_word_113 : decode cX12_word 113 = .ok (.iload 5, 2) := dl_21 (by decide +kernel)
theorem dX12_word_115 : decode cX12_word 115 = .ok (.imul, 1) := dl_104 (by decide +kernel)
theorem dX12_word_116 : decode cX12_word 116 = .ok (.iadd, 1) := dl_96 (by decide +kernel)
theorem dX12_word_117 : decode cX12_word 117 = .ok (.iload_n 2, 1) := dl_28 (by decide +kernel)
theorem dX12_word_118 : decode cX12_word 118 = .ok (.ifCond .eq 8, 3) := dl_153 (by decide +kernel)
theorem dX12_word_126 : decode cX12_word 126 = .ok (.iconst 1, 1) := dl_4 (by decide +kernel)
theorem dX12_word_127 : decode cX12_word 127 = .ok (.goto 4, 3) := dl_167 (by decide +kernel)
theorem dX12_word_131 : decode cX12_word 131 = .ok (.iastore, 1) := dl_79 (by decide +kernel)
theorem dX12_word_132 : decode cX12_word 132 = .ok (.aload_n 0, 1) := dl_42 (by decide +kernel)
theorem dX12_word_133 : decode cX12_word 133 = .ok (.getfield 68, 3) := dl_180 (by decide +kernel)
theorem dX12_word_136 : decode cX12_word 136 = .ok (.bipush 16, 2) := dl_16 (by decide +kernel)
theorem dX12_word_138 : decode cX12_word 138 = .ok (.iload_n 1, 1) := dl_27 (by decide +kernel)
theorem dX12_word_139 : decode cX12_word 139 = .ok (.imul, 1) := dl_104 (by decide +kernel)
theorem dX12_word_140 : decode cX12_word 140 = .ok (.iconst 4, 1) := dl_7 (by decide +kernel)
theorem dX12_word_141 : decode cX12_word 141 = .ok (.iload 5, 2) := dl_21 (by decide +kernel)
theorem dX12_word_143 : decode cX12_word 143 = .ok (.imul, 1) := dl_104 (by decide +kernel)
theorem dX12_word_144 : decode cX12_word 144 = .ok (.iadd, 1) := dl_96 (by decide +kernel)
theorem dX12_word_145 : decode cX12_word 145 = .ok (.iconst 1, 1) := dl_4 (by decide +kernel)
theorem dX12_word_146 : decode cX12_word 146 = .ok (.iadd, 1) := dl_96 (by decide +kernel)
theorem dX12_word_147 : decode cX12_word 147 = .ok (.iload_n 2, 1) := dl_28 (by decide +kernel)
theorem dX12_word_148 : decode cX12_word 148 = .ok (.ifCond .ne 7, 3) := dl_154 (by decide +kernel)
theorem dX12_word_151 : decode cX12_word 151 = .ok (.iconst 0, 1) := dl_3 (by decide +kernel)
theorem dX12_word_152 : decode cX12_word 152 = .ok (.goto 4, 3) := dl_167 (by decide +kernel)
theorem dX12_word_156 : decode cX12_word 156 = .ok (.iastore, 1) := dl_79 (by decide +kernel)
theorem dX12_word_157 : decode cX12_word 157 = .ok (.iinc 5 1, 3) := dl_132 (by decide +kernel)
theorem dX12_word_160 : decode cX12_word 160 = .ok (.goto (-80), 3) := dl_167 (by decide +kernel)
theorem dX12_word_97 : decode cX12_word 97 = .ok (.iconst 1, 1) := dl_4 (by decide +kernel)
theorem dX12_word_98 : decode cX12_word 98 = .ok (.goto 4, 3) := dl_167 (by decide +kernel)
theorem dX12_word_57 : decode cX12_word 57 = .ok (.iconst 2, 1) := dl_5 (by decide +kernel)
theorem dX12_word_121 : decode cX12_word 121 = .ok (.iload 6, 2) := dl_21 (by decide +kernel)
theorem dX12_word_123 : decode cX12_word 123 = .ok (.ifCond .eq 7, 3) := dl_153 (by decide +kernel)
theorem dX12_word_130 : decode cX12_word 130 = .ok (.iconst 2, 1) := dl_5 (by decide +kernel)
theorem dX12_word_155 : decode cX12_word 155 = .ok (.iconst 2, 1) := dl_5 (by decide +kernel)
theorem dX12_word_68 : decode cX12_word 68 = .ok (.iconst 1, 1) := dl_4 (by decide +kernel)
theorem dX12_word_69 : decode cX12_word 69 = .ok (.goto 4, 3) := dl_167 (by decide +kernel)
theorem dX12_word_45 : decode cX12_word 45 = .ok (.iconst (-1), 1) := dl_2 (by decide +kernel)
theorem dX12_word_46 : decode cX12_word 46 = .ok (.ireturn, 1) := dl_172 (by decide +kernel)
set_option maxRecDepth 100000 in
set_option maxHeartbeats 4000000 in
theorem y_word (l : Launch) (E : EV) (ro : va_W) (hm : Nat) (v0 : Int32) (v1 : Int32) (v2 : Int32) (v3 : Int32) (m_manys : Nat) (m_reals : Nat) (m_factsOf : Nat) (m_possible : Nat) (q_undos : Nat) (q_models : Nat) (m_tape : Nat) (q_taped : Nat) (q_fault : Int32) (q_wrong : Int32) (q_wrongAt : Int32) (q_spot : Int32) (q_place : Int32) (q_token : Int32) (q_value : Int32) (m_ends : Nat) (m_letters : Nat) (m_actOf : Nat) (m_whom : Nat) (m_actMany : Nat) (m_tokens : Nat) (m_afters : Nat) (m_afterOf : Nat) (q_counted : Int32) (m_pile : Nat) (m_caseMany : Nat) (m_happen : Nat) (m_hasIf : Nat) (m_becomes : Nat) (m_goneOf : Nat) (m_heard : Nat) (m_pairs : Nat) (m_heaps : Nat) (q_rounds : Int32) (q_heapMany : Int32) (m_led : Nat) (m_newAt : Nat) (m_knowing : Nat) (m_firsts : Nat) (q_people : Nat) (m_secrets : Nat) (m_tried : Nat) (m_lanes : Nat) (m_lengths : Nat) (m_cells : Nat) (f_caseMany : Nat → Int32) (f_happen : Nat → Int32) (f_hasIf : Nat → Int32) (f_becomes : Nat → Int32) (f_goneOf : Nat → Int32) (f_heard : Nat → Int32) (f_actMany : Nat → Int32) (f_actOf : Nat → Int32) (f_whom : Nat → Int32) (f_tokens : Nat → Int32) (f_afters : Nat → Int32) (hb_caseMany : NB 4 4 f_caseMany) (hb_happen : NB 4 3 f_happen) (hhp : HP f_caseMany f_happen) (hb_actMany : NB 25 32 f_actMany) (hsv : SV f_actOf f_actMany) (hb_afters : NB 9 2 f_afters) : CT l yX12_word (Cond.code yX12_word cX12_word 7 (some .int) :: TB) ({ frames := 3, cells := 0, slots := 0, locals := 67 }) E ro [.ref hm, .int v0, .int v1, .int v2, .int v3] [(hm, .inr (12, [.ref m_manys, .ref m_reals, .ref m_factsOf, .ref m_possible, .int (nI q_undos), .int (nI q_models), .ref m_tape, .int (nI q_taped), .int q_fault, .int q_wrong, .int q_wrongAt, .int q_spot, .int q_place, .int q_token, .int q_value, .ref m_ends, .ref m_letters, .ref m_actOf, .ref m_whom, .ref m_actMany, .ref m_tokens, .ref m_afters, .ref m_afterOf, .int q_counted, .ref m_pile, .ref m_caseMany, .ref m_happen, .ref m_hasIf, .ref m_becomes, .ref m_goneOf, .ref m_heard, .ref m_pairs, .ref m_heaps, .int q_rounds, .int q_heapMany, .ref m_led, .ref m_newAt, .ref m_knowing, .ref m_firsts, .int (nI q_people), .ref m_secrets, .ref m_tried, .ref m_lanes, .ref m_lengths, .ref m_cells])), (m_caseMany, .inl (E.2.1 1, 4, .inl f_caseMany)), (m_happen, .inl (E.2.1 1, 4, .inl f_happen)), (m_hasIf, .inl (E.2.1 3, 16, .inl f_hasIf)), (m_becomes, .inl (E.2.1 1, 16, .inl f_becomes)), (m_goneOf, .inl (E.2.1 1, 16, .inl f_goneOf)), (m_heard, .inl (E.2.1 1, 64, .inl f_heard)), (m_actMany, .inl (E.2.1 1, 25, .inl f_actMany)), (m_actOf, .inl (E.2.1 1, 800, .inl f_actOf)), (m_whom, .inl (E.2.1 1, 800, .inl f_whom)), (m_tokens, .inl (E.2.1 1, 9, .inl f_tokens)), (m_afters, .inl (E.2.1 1, 9, .inl f_afters))] (Qi E (fun (rz : Int32) uz => (rz = (-1) ∧ uz = [(hm, .inr (12, [.ref m_manys, .ref m_reals, .ref m_factsOf, .ref m_possible, .int (nI q_undos), .int (nI q_models), .ref m_tape, .int (nI q_taped), .int q_fault, .int q_wrong, .int q_wrongAt, .int q_spot, .int q_place, .int q_token, .int q_value, .ref m_ends, .ref m_letters, .ref m_actOf, .ref m_whom, .ref m_actMany, .ref m_tokens, .ref m_afters, .ref m_afterOf, .int q_counted, .ref m_pile, .ref m_caseMany, .ref m_happen, .ref m_hasIf, .ref m_becomes, .ref m_goneOf, .ref m_heard, .ref m_pairs, .ref m_heaps, .int q_rounds, .int q_heapMany, .ref m_led, .ref m_newAt, .ref m_knowing, .ref m_firsts, .int (nI q_people), .ref m_secrets, .ref m_tried, .ref m_lanes, .ref m_lengths, .ref m_cells])), (m_caseMany, .inl (E.2.1 1, 4, .inl f_caseMany)), (m_happen, .inl (E.2.1 1, 4, .inl f_happen)), (m_hasIf, .inl (E.2.1 3, 16, .inl f_hasIf)), (m_becomes, .inl (E.2.1 1, 16, .inl f_becomes)), (m_goneOf, .inl (E.2.1 1, 16, .inl f_goneOf)), (m_heard, .inl (E.2.1 1, 64, .inl f_heard)), (m_actMany, .inl (E.2.1 1, 25, .inl f_actMany)), (m_actOf, .inl (E.2.1 1, 800, .inl f_actOf)), (m_whom, .inl (E.2.1 1, 800, .inl f_whom)), (m_tokens, .inl (E.2.1 1, 9, .inl f_tokens)), (m_afters, .inl (E.2.1 1, 9, .inl f_afters))] ∧ (v0.toInt < 0 ∨ 3 < v0.toInt ∨ v1.toInt < 0 ∨ 2 < v1.toInt ∨ ¬ PLN (tRr f_tokens f_afters) v2 ∨ v3.toInt < 0 ∨ 15 < v3.toInt)) ∨ (∃ (k_ : Nat) (d_ : Nat) (f_caseManyz : Nat → Int32) (f_happenz : Nat → Int32) (f_hasIfz : Nat → Int32) (f_becomesz : Nat → Int32) (f_goneOfz : Nat → Int32) (f_heardz : Nat → Int32) (f_actManyz : Nat → Int32) (f_actOfz : Nat → Int32) (f_whomz : Nat → Int32), uz = [(hm, .inr (12, [.ref m_manys, .ref m_reals, .ref m_factsOf, .ref m_possible, .int (nI q_undos), .int (nI q_models), .ref m_tape, .int (nI q_taped), .int q_fault, .int q_wrong, .int q_wrongAt, .int q_spot, .int q_place, .int q_token, .int q_value, .ref m_ends, .ref m_letters, .ref m_actOf, .ref m_whom, .ref m_actMany, .ref m_tokens, .ref m_afters, .ref m_afterOf, .int q_counted, .ref m_pile, .ref m_caseMany, .ref m_happen, .ref m_hasIf, .ref m_becomes, .ref m_goneOf, .ref m_heard, .ref m_pairs, .ref m_heaps, .int q_rounds, .int q_heapMany, .ref m_led, .ref m_newAt, .ref m_knowing, .ref m_firsts, .int (nI q_people), .ref m_secrets, .ref m_tried, .ref m_lanes, .ref m_lengths, .ref m_cells])), (m_caseMany, .inl (E.2.1 1, 4, .inl f_caseManyz)), (m_happen, .inl (E.2.1 1, 4, .inl f_happenz)), (m_hasIf, .inl (E.2.1 3, 16, .inl f_hasIfz)), (m_becomes, .inl (E.2.1 1, 16, .inl f_becomesz)), (m_goneOf, .inl (E.2.1 1, 16, .inl f_goneOfz)), (m_heard, .inl (E.2.1 1, 64, .inl f_heardz)), (m_actMany, .inl (E.2.1 1, 25, .inl f_actManyz)), (m_actOf, .inl (E.2.1 1, 800, .inl f_actOfz)), (m_whom, .inl (E.2.1 1, 800, .inl f_whomz)), (m_tokens, .inl (E.2.1 1, 9, .inl f_tokens)), (m_afters, .inl (E.2.1 1, 9, .inl f_afters))] ∧ (NB 4 4 f_caseManyz) ∧ (NB 4 3 f_happenz) ∧ (HP f_caseManyz f_happenz) ∧ (NB 25 32 f_actManyz) ∧ (SV f_actOfz f_actManyz) ∧ (PLN (tRr f_tokens f_afters) v2) ∧ (v0 = nI k_) ∧ (v1 = nI d_) ∧ (k_ ≤ 3) ∧ (d_ ≤ 2) ∧ (0 ≤ v3.toInt ∧ v3.toInt ≤ 15) ∧ (upd f_caseMany k_ (nI (if d_ = 0 then 1 else 2)) = f_caseManyz) ∧ (upd f_happen k_ (nI 0) = f_happenz) ∧ (WX k_ d_ v3 4 f_heard f_heardz) ∧ (rz = nI (if d_ = 0 then 1 else 2)) ∧ (∃ (s_ : Nat) (h_ : Nat → Int32), v2 = nI s_ ∧ s_ ≤ 7 ∧ Z4 k_ 4 f_hasIf h_ ∧ upd h_ (4 * k_ + (if d_ = 2 then 1 else 0)) 1 = f_hasIfz ∧ upd f_actMany (8 + 4 * k_ + (if d_ = 2 then 1 else 0)) (nI (cN f_actMany s_)) = f_actManyz ∧ CPG 32 s_ (8 + 4 * k_ + (if d_ = 2 then 1 else 0)) 32 f_actOf f_actOfz ∧ CPG 32 s_ (8 + 4 * k_ + (if d_ = 2 then 1 else 0)) 32 f_whom f_whomz) ∧ (Z4 k_ 4 f_becomes f_becomesz) ∧ (Z4 k_ 4 f_goneOf f_goneOfz)))) 0 0 := by
  refine ct_of rfl rfl ?_
  intro X C hT hin hro
  show WW X 7 E 0 [(0, .ref hm), (1, .int v0), (2, .int v1), (3, .int v2), (4, .int v3)] [] [(hm, .inr (12, [.ref m_manys, .ref m_reals, .ref m_factsOf, .ref m_possible, .int (nI q_undos), .int (nI q_models), .ref m_tape, .int (nI q_taped), .int q_fault, .int q_wrong, .int q_wrongAt, .int q_spot, .int q_place, .int q_token, .int q_value, .ref m_ends, .ref m_letters, .ref m_actOf, .ref m_whom, .ref m_actMany, .ref m_tokens, .ref m_afters, .ref m_afterOf, .int q_counted, .ref m_pile, .ref m_caseMany, .ref m_happen, .ref m_hasIf, .ref m_becomes, .ref m_goneOf, .ref m_heard, .ref m_pairs, .ref m_heaps, .int q_rounds, .int q_heapMany, .ref m_led, .ref m_newAt, .ref m_knowing, .ref m_firsts, .int (nI q_people), .ref m_secrets, .ref m_tried, .ref m_lanes, .ref m_lengths, .ref m_cells])), (m_caseMany, .inl (E.2.1 1, 4, .inl f_caseMany)), (m_happen, .inl (E.2.1 1, 4, .inl f_happen)), (m_hasIf, .inl (E.2.1 3, 16, .inl f_hasIf)), (m_becomes, .inl (E.2.1 1, 16, .inl f_becomes)), (m_goneOf, .inl (E.2.1 1, 16, .inl f_goneOf)), (m_heard, .inl (E.2.1 1, 64, .inl f_heard)), (m_actMany, .inl (E.2.1 1, 25, .inl f_actMany)), (m_actOf, .inl (E.2.1 1, 800, .inl f_actOf)), (m_whom, .inl (E.2.1 1, 800, .inl f_whom)), (m_tokens, .inl (E.2.1 1, 9, .inl f_tokens)), (m_afters, .inl (E.2.1 1, 9, .inl f_afters))] 0 0
  refine ww_iload_n C dX12_word_0 1 rfl rfl ?_
  refine ww_i2l (v := v0.toInt64) C dX12_word_1 rfl ?_
  refine ww_lconst (v := 0) C dX12_word_2 rfl ?_
  refine ww_ldc2 C wv_X12_113 dX12_word_3 ?_
  refine ww_ci (wr := [(hm, .inr (12, [.ref m_manys, .ref m_reals, .ref m_factsOf, .ref m_possible, .int (nI q_undos), .int (nI q_models), .ref m_tape, .int (nI q_taped), .int q_fault, .int q_wrong, .int q_wrongAt, .int q_spot, .int q_place, .int q_token, .int q_value, .ref m_ends, .ref m_letters, .ref m_actOf, .ref m_whom, .ref m_actMany, .ref m_tokens, .ref m_afters, .ref m_afterOf, .int q_counted, .ref m_pile, .ref m_caseMany, .ref m_happen, .ref m_hasIf, .ref m_becomes, .ref m_goneOf, .ref m_heard, .ref m_pairs, .ref m_heaps, .int q_rounds, .int q_heapMany, .ref m_led, .ref m_newAt, .ref m_knowing, .ref m_firsts, .int (nI q_people), .ref m_secrets, .ref m_tried, .ref m_lanes, .ref m_lengths, .ref m_cells])), (m_caseMany, .inl (E.2.1 1, 4, .inl f_caseMany)), (m_happen, .inl (E.2.1 1, 4, .inl f_happen)), (m_hasIf, .inl (E.2.1 3, 16, .inl f_hasIf)), (m_becomes, .inl (E.2.1 1, 16, .inl f_becomes)), (m_goneOf, .inl (E.2.1 1, 16, .inl f_goneOf)), (m_heard, .inl (E.2.1 1, 64, .inl f_heard)), (m_actMany, .inl (E.2.1 1, 25, .inl f_actMany)), (m_actOf, .inl (E.2.1 1, 800, .inl f_actOf)), (m_whom, .inl (E.2.1 1, 800, .inl f_whom)), (m_tokens, .inl (E.2.1 1, 9, .inl f_tokens)), (m_afters, .inl (E.2.1 1, 9, .inl f_afters))]) (k' := 0) (n' := 0) C (run_S (As := [.long v0.toInt64, .long 0, .long 3]) (rest := []) C (r_in X.2.1 E ro v0.toInt64 0 3 v0.toInt 0 3 (Int32.toInt_toInt64 _) rfl rfl) ms_X12_in wl_X12_115 rfl rfl rfl rfl dX12_word_6) (roK hro) [] [0, 1, 2, 3, 4, 5, 6, 7, 8, 9, 10, 11] rfl (gqk (by eq_refl)) (plk (by decide +kernel)) rfl (fun r_1 uz hw => ?_)
  rcases hw with hw | hw
  · refine an3 hw ?_
    clear hw
    intro he_4 he_5 h_2 hw
    have h_3 := hw
    clear hw
    have he_4 := he_4.symm
    subst he_4
    subst he_5
    refine ww_eq (ws' := [(hm, .inr (12, [.ref m_manys, .ref m_reals, .ref m_factsOf, .ref m_possible, .int (nI q_undos), .int (nI q_models), .ref m_tape, .int (nI q_taped), .int q_fault, .int q_wrong, .int q_wrongAt, .int q_spot, .int q_place, .int q_token, .int q_value, .ref m_ends, .ref m_letters, .ref m_actOf, .ref m_whom, .ref m_actMany, .ref m_tokens, .ref m_afters, .ref m_afterOf, .int q_counted, .ref m_pile, .ref m_caseMany, .ref m_happen, .ref m_hasIf, .ref m_becomes, .ref m_goneOf, .ref m_heard, .ref m_pairs, .ref m_heaps, .int q_rounds, .int q_heapMany, .ref m_led, .ref m_newAt, .ref m_knowing, .ref m_firsts, .int (nI q_people), .ref m_secrets, .ref m_tried, .ref m_lanes, .ref m_lengths, .ref m_cells])), (m_caseMany, .inl (E.2.1 1, 4, .inl f_caseMany)), (m_happen, .inl (E.2.1 1, 4, .inl f_happen)), (m_hasIf, .inl (E.2.1 3, 16, .inl f_hasIf)), (m_becomes, .inl (E.2.1 1, 16, .inl f_becomes)), (m_goneOf, .inl (E.2.1 1, 16, .inl f_goneOf)), (m_heard, .inl (E.2.1 1, 64, .inl f_heard)), (m_actMany, .inl (E.2.1 1, 25, .inl f_actMany)), (m_actOf, .inl (E.2.1 1, 800, .inl f_actOf)), (m_whom, .inl (E.2.1 1, 800, .inl f_whom)), (m_tokens, .inl (E.2.1 1, 9, .inl f_tokens)), (m_afters, .inl (E.2.1 1, 9, .inl f_afters))]) ?_ rfl rfl rfl
    refine ww_if_eq_f (tgt := 45) C dX12_word_9 (by decide) (by decide) ?_
    refine ww_iload_n C dX12_word_12 2 rfl rfl ?_
    refine ww_i2l (v := v1.toInt64) C dX12_word_13 rfl ?_
    refine ww_lconst (v := 0) C dX12_word_14 rfl ?_
    refine ww_ldc2 C wv_X12_254 dX12_word_15 ?_
    refine ww_ci (wr := [(hm, .inr (12, [.ref m_manys, .ref m_reals, .ref m_factsOf, .ref m_possible, .int (nI q_undos), .int (nI q_models), .ref m_tape, .int (nI q_taped), .int q_fault, .int q_wrong, .int q_wrongAt, .int q_spot, .int q_place, .int q_token, .int q_value, .ref m_ends, .ref m_letters, .ref m_actOf, .ref m_whom, .ref m_actMany, .ref m_tokens, .ref m_afters, .ref m_afterOf, .int q_counted, .ref m_pile, .ref m_caseMany, .ref m_happen, .ref m_hasIf, .ref m_becomes, .ref m_goneOf, .ref m_heard, .ref m_pairs, .ref m_heaps, .int q_rounds, .int q_heapMany, .ref m_led, .ref m_newAt, .ref m_knowing, .ref m_firsts, .int (nI q_people), .ref m_secrets, .ref m_tried, .ref m_lanes, .ref m_lengths, .ref m_cells])), (m_caseMany, .inl (E.2.1 1, 4, .inl f_caseMany)), (m_happen, .inl (E.2.1 1, 4, .inl f_happen)), (m_hasIf, .inl (E.2.1 3, 16, .inl f_hasIf)), (m_becomes, .inl (E.2.1 1, 16, .inl f_becomes)), (m_goneOf, .inl (E.2.1 1, 16, .inl f_goneOf)), (m_heard, .inl (E.2.1 1, 64, .inl f_heard)), (m_actMany, .inl (E.2.1 1, 25, .inl f_actMany)), (m_actOf, .inl (E.2.1 1, 800, .inl f_actOf)), (m_whom, .inl (E.2.1 1, 800, .inl f_whom)), (m_tokens, .inl (E.2.1 1, 9, .inl f_tokens)), (m_afters, .inl (E.2.1 1, 9, .inl f_afters))]) (k' := 0) (n' := 0) C (run_S (As := [.long v1.toInt64, .long 0, .long 2]) (rest := []) C (r_in X.2.1 E ro v1.toInt64 0 2 v1.toInt 0 2 (Int32.toInt_toInt64 _) rfl rfl) ms_X12_in wl_X12_115 rfl rfl rfl rfl dX12_word_18) (roK hro) [] [0, 1, 2, 3, 4, 5, 6, 7, 8, 9, 10, 11] rfl (gqk (by eq_refl)) (plk (by decide +kernel)) rfl (fun r_9 uz hw => ?_)
    rcases hw with hw | hw
    · refine an3 hw ?_
      clear hw
      intro he_12 he_13 h_10 hw
      have h_11 := hw
      clear hw
      have he_12 := he_12.symm
      subst he_12
      subst he_13
      refine ww_eq (ws' := [(hm, .inr (12, [.ref m_manys, .ref m_reals, .ref m_factsOf, .ref m_possible, .int (nI q_undos), .int (nI q_models), .ref m_tape, .int (nI q_taped), .int q_fault, .int q_wrong, .int q_wrongAt, .int q_spot, .int q_place, .int q_token, .int q_value, .ref m_ends, .ref m_letters, .ref m_actOf, .ref m_whom, .ref m_actMany, .ref m_tokens, .ref m_afters, .ref m_afterOf, .int q_counted, .ref m_pile, .ref m_caseMany, .ref m_happen, .ref m_hasIf, .ref m_becomes, .ref m_goneOf, .ref m_heard, .ref m_pairs, .ref m_heaps, .int q_rounds, .int q_heapMany, .ref m_led, .ref m_newAt, .ref m_knowing, .ref m_firsts, .int (nI q_people), .ref m_secrets, .ref m_tried, .ref m_lanes, .ref m_lengths, .ref m_cells])), (m_caseMany, .inl (E.2.1 1, 4, .inl f_caseMany)), (m_happen, .inl (E.2.1 1, 4, .inl f_happen)), (m_hasIf, .inl (E.2.1 3, 16, .inl f_hasIf)), (m_becomes, .inl (E.2.1 1, 16, .inl f_becomes)), (m_goneOf, .inl (E.2.1 1, 16, .inl f_goneOf)), (m_heard, .inl (E.2.1 1, 64, .inl f_heard)), (m_actMany, .inl (E.2.1 1, 25, .inl f_actMany)), (m_actOf, .inl (E.2.1 1, 800, .inl f_actOf)), (m_whom, .inl (E.2.1 1, 800, .inl f_whom)), (m_tokens, .inl (E.2.1 1, 9, .inl f_tokens)), (m_afters, .inl (E.2.1 1, 9, .inl f_afters))]) ?_ rfl rfl rfl
      refine ww_if_eq_f (tgt := 45) C dX12_word_21 (by decide) (by decide) ?_
      refine ww_aload_n C dX12_word_24 0 rfl rfl ?_
      refine ww_iload_n C dX12_word_25 3 rfl rfl ?_
      refine ww_ci (wr := [(m_caseMany, .inl (E.2.1 1, 4, .inl f_caseMany)), (m_happen, .inl (E.2.1 1, 4, .inl f_happen)), (m_hasIf, .inl (E.2.1 3, 16, .inl f_hasIf)), (m_becomes, .inl (E.2.1 1, 16, .inl f_becomes)), (m_goneOf, .inl (E.2.1 1, 16, .inl f_goneOf)), (m_heard, .inl (E.2.1 1, 64, .inl f_heard)), (m_actMany, .inl (E.2.1 1, 25, .inl f_actMany)), (m_actOf, .inl (E.2.1 1, 800, .inl f_actOf)), (m_whom, .inl (E.2.1 1, 800, .inl f_whom))]) (k' := 0) (n' := 0) C (run_V (As := [.int v2]) (rest := []) C (r_isPlain X.2.1 E ro hm v2 m_manys m_reals m_factsOf m_possible q_undos q_models m_tape q_taped q_fault q_wrong q_wrongAt q_spot q_place q_token q_value m_ends m_letters m_actOf m_whom m_actMany m_tokens m_afters m_afterOf q_counted m_pile m_caseMany m_happen m_hasIf m_becomes m_goneOf m_heard m_pairs m_heaps q_rounds q_heapMany m_led m_newAt m_knowing m_firsts q_people m_secrets m_tried m_lanes m_lengths m_cells f_tokens f_afters hb_afters) mi_X12_isPlain wl_X12_247 rfl 0 12 rfl rfl rfl rfl rfl dX12_word_26) (roK hro) [0, 10, 11] [1, 2, 3, 4, 5, 6, 7, 8, 9] rfl (gqk (by eq_refl)) (plk (by decide +kernel)) rfl (fun r_17 uz hw => ?_)
      rcases hw with hw | hw
      · refine an4 hw ?_
        clear hw
        intro he_21 he_22 h_18 h_19 hw
        have h_20 := hw
        clear hw
        have he_21 := he_21.symm
        subst he_21
        subst he_22
        refine ww_eq (ws' := [(m_caseMany, .inl (E.2.1 1, 4, .inl f_caseMany)), (m_happen, .inl (E.2.1 1, 4, .inl f_happen)), (m_hasIf, .inl (E.2.1 3, 16, .inl f_hasIf)), (m_becomes, .inl (E.2.1 1, 16, .inl f_becomes)), (m_goneOf, .inl (E.2.1 1, 16, .inl f_goneOf)), (m_heard, .inl (E.2.1 1, 64, .inl f_heard)), (m_actMany, .inl (E.2.1 1, 25, .inl f_actMany)), (m_actOf, .inl (E.2.1 1, 800, .inl f_actOf)), (m_whom, .inl (E.2.1 1, 800, .inl f_whom)), (hm, .inr (12, [.ref m_manys, .ref m_reals, .ref m_factsOf, .ref m_possible, .int (nI q_undos), .int (nI q_models), .ref m_tape, .int (nI q_taped), .int q_fault, .int q_wrong, .int q_wrongAt, .int q_spot, .int q_place, .int q_token, .int q_value, .ref m_ends, .ref m_letters, .ref m_actOf, .ref m_whom, .ref m_actMany, .ref m_tokens, .ref m_afters, .ref m_afterOf, .int q_counted, .ref m_pile, .ref m_caseMany, .ref m_happen, .ref m_hasIf, .ref m_becomes, .ref m_goneOf, .ref m_heard, .ref m_pairs, .ref m_heaps, .int q_rounds, .int q_heapMany, .ref m_led, .ref m_newAt, .ref m_knowing, .ref m_firsts, .int (nI q_people), .ref m_secrets, .ref m_tried, .ref m_lanes, .ref m_lengths, .ref m_cells])), (m_tokens, .inl (E.2.1 1, 9, .inl f_tokens)), (m_afters, .inl (E.2.1 1, 9, .inl f_afters))]) ?_ rfl rfl rfl
        refine ww_if_eq_f (tgt := 45) C dX12_word_29 (by decide) (by decide) ?_
        refine ww_iload C dX12_word_32 4 rfl ?_
        refine ww_i2l (v := v3.toInt64) C dX12_word_34 rfl ?_
        refine ww_lconst (v := 0) C dX12_word_35 rfl ?_
        refine ww_ldc2 C wv_X12_119 dX12_word_36 ?_
        refine ww_ci (wr := [(m_caseMany, .inl (E.2.1 1, 4, .inl f_caseMany)), (m_happen, .inl (E.2.1 1, 4, .inl f_happen)), (m_hasIf, .inl (E.2.1 3, 16, .inl f_hasIf)), (m_becomes, .inl (E.2.1 1, 16, .inl f_becomes)), (m_goneOf, .inl (E.2.1 1, 16, .inl f_goneOf)), (m_heard, .inl (E.2.1 1, 64, .inl f_heard)), (m_actMany, .inl (E.2.1 1, 25, .inl f_actMany)), (m_actOf, .inl (E.2.1 1, 800, .inl f_actOf)), (m_whom, .inl (E.2.1 1, 800, .inl f_whom)), (hm, .inr (12, [.ref m_manys, .ref m_reals, .ref m_factsOf, .ref m_possible, .int (nI q_undos), .int (nI q_models), .ref m_tape, .int (nI q_taped), .int q_fault, .int q_wrong, .int q_wrongAt, .int q_spot, .int q_place, .int q_token, .int q_value, .ref m_ends, .ref m_letters, .ref m_actOf, .ref m_whom, .ref m_actMany, .ref m_tokens, .ref m_afters, .ref m_afterOf, .int q_counted, .ref m_pile, .ref m_caseMany, .ref m_happen, .ref m_hasIf, .ref m_becomes, .ref m_goneOf, .ref m_heard, .ref m_pairs, .ref m_heaps, .int q_rounds, .int q_heapMany, .ref m_led, .ref m_newAt, .ref m_knowing, .ref m_firsts, .int (nI q_people), .ref m_secrets, .ref m_tried, .ref m_lanes, .ref m_lengths, .ref m_cells])), (m_tokens, .inl (E.2.1 1, 9, .inl f_tokens)), (m_afters, .inl (E.2.1 1, 9, .inl f_afters))]) (k' := 0) (n' := 0) C (run_S (As := [.long v3.toInt64, .long 0, .long 15]) (rest := []) C (r_in X.2.1 E ro v3.toInt64 0 15 v3.toInt 0 15 (Int32.toInt_toInt64 _) rfl rfl) ms_X12_in wl_X12_115 rfl rfl rfl rfl dX12_word_39) (roK hro) [] [0, 1, 2, 3, 4, 5, 6, 7, 8, 9, 10, 11] rfl (gqk (by eq_refl)) (plk (by decide +kernel)) rfl (fun r_26 uz hw => ?_)
        rcases hw with hw | hw
        · refine an3 hw ?_
          clear hw
          intro he_29 he_30 h_27 hw
          have h_28 := hw
          clear hw
          have he_29 := he_29.symm
          subst he_29
          subst he_30
          refine ww_eq (ws' := [(m_caseMany, .inl (E.2.1 1, 4, .inl f_caseMany)), (m_happen, .inl (E.2.1 1, 4, .inl f_happen)), (m_hasIf, .inl (E.2.1 3, 16, .inl f_hasIf)), (m_becomes, .inl (E.2.1 1, 16, .inl f_becomes)), (m_goneOf, .inl (E.2.1 1, 16, .inl f_goneOf)), (m_heard, .inl (E.2.1 1, 64, .inl f_heard)), (m_actMany, .inl (E.2.1 1, 25, .inl f_actMany)), (m_actOf, .inl (E.2.1 1, 800, .inl f_actOf)), (m_whom, .inl (E.2.1 1, 800, .inl f_whom)), (hm, .inr (12, [.ref m_manys, .ref m_reals, .ref m_factsOf, .ref m_possible, .int (nI q_undos), .int (nI q_models), .ref m_tape, .int (nI q_taped), .int q_fault, .int q_wrong, .int q_wrongAt, .int q_spot, .int q_place, .int q_token, .int q_value, .ref m_ends, .ref m_letters, .ref m_actOf, .ref m_whom, .ref m_actMany, .ref m_tokens, .ref m_afters, .ref m_afterOf, .int q_counted, .ref m_pile, .ref m_caseMany, .ref m_happen, .ref m_hasIf, .ref m_becomes, .ref m_goneOf, .ref m_heard, .ref m_pairs, .ref m_heaps, .int q_rounds, .int q_heapMany, .ref m_led, .ref m_newAt, .ref m_knowing, .ref m_firsts, .int (nI q_people), .ref m_secrets, .ref m_tried, .ref m_lanes, .ref m_lengths, .ref m_cells])), (m_tokens, .inl (E.2.1 1, 9, .inl f_tokens)), (m_afters, .inl (E.2.1 1, 9, .inl f_afters))]) ?_ rfl rfl rfl
          refine ww_if_ne_t (tgt := 47) C dX12_word_42 (by decide) (by decide) ?_
          obtain ⟨j_34, hj_34, rfl⟩ := i_nat (x := v0) (N := 3) (by omega) (by omega)
          have hzj_34 := nI_toInt (n := j_34) (by omega)
          obtain ⟨j_35, hj_35, rfl⟩ := i_nat (x := v2) (N := 7) (by omega) (by omega)
          have hzj_35 := nI_toInt (n := j_35) (by omega)
          refine ww_aload_n C dX12_word_47 0 rfl rfl ?_
          refine ww_iload_n C dX12_word_48 1 rfl rfl ?_
          rcases sp_0_2 (x := v1) (by omega) (by omega) with rfl | rfl | rfl
          · refine ww_iload_n C dX12_word_49 2 rfl rfl ?_
            refine ww_if_ne_f (tgt := 57) C dX12_word_50 (by decide) (rfl) ?_
            refine ww_iconst (v := 1) C dX12_word_53 rfl ?_
            refine ww_goto (tgt := 58) C dX12_word_54 (by decide) ?_
            refine ww_cv (wr := [(m_actMany, .inl (E.2.1 1, 25, .inl f_actMany)), (m_actOf, .inl (E.2.1 1, 800, .inl f_actOf)), (m_whom, .inl (E.2.1 1, 800, .inl f_whom)), (m_tokens, .inl (E.2.1 1, 9, .inl f_tokens)), (m_afters, .inl (E.2.1 1, 9, .inl f_afters))]) (k' := 0) (n' := 0) C (run_V (As := [.int (nI j_34), .int 1]) (rest := []) C (r_clearEvent X.2.1 E ro hm j_34 1 m_manys m_reals m_factsOf m_possible q_undos q_models m_tape q_taped q_fault q_wrong q_wrongAt q_spot q_place q_token q_value m_ends m_letters m_actOf m_whom m_actMany m_tokens m_afters m_afterOf q_counted m_pile m_caseMany m_happen m_hasIf m_becomes m_goneOf m_heard m_pairs m_heaps q_rounds q_heapMany m_led m_newAt m_knowing m_firsts q_people m_secrets m_tried m_lanes m_lengths m_cells f_caseMany f_happen f_hasIf f_becomes f_goneOf f_heard hb_caseMany hb_happen hhp (by omega) (by omega) (by omega)) mi_X12_clearEvent wl_X12_240 rfl 0 12 rfl rfl rfl rfl rfl dX12_word_58) (roK hro) [9, 0, 1, 2, 3, 4, 5] [6, 7, 8, 10, 11] rfl rfl (plk (by decide +kernel)) rfl (fun uz hw => ?_)
            refine ex6 hw ?_
            clear hw
            intro f_caseManyz_37 f_happenz_38 f_hasIfz_39 f_becomesz_40 f_goneOfz_41 f_heardz_42 hw
            refine an8 hw ?_
            clear hw
            intro he_52 h_43 h_44 h_45 h_46 h_47 h_48 h_49 hw
            refine an1 hw ?_
            clear hw
            intro h_50 hw
            have h_51 := hw
            clear hw
            subst he_52
            refine ww_eq (ws' := [(m_actMany, .inl (E.2.1 1, 25, .inl f_actMany)), (m_actOf, .inl (E.2.1 1, 800, .inl f_actOf)), (m_whom, .inl (E.2.1 1, 800, .inl f_whom)), (m_tokens, .inl (E.2.1 1, 9, .inl f_tokens)), (m_afters, .inl (E.2.1 1, 9, .inl f_afters)), (hm, .inr (12, [.ref m_manys, .ref m_reals, .ref m_factsOf, .ref m_possible, .int (nI q_undos), .int (nI q_models), .ref m_tape, .int (nI q_taped), .int q_fault, .int q_wrong, .int q_wrongAt, .int q_spot, .int q_place, .int q_token, .int q_value, .ref m_ends, .ref m_letters, .ref m_actOf, .ref m_whom, .ref m_actMany, .ref m_tokens, .ref m_afters, .ref m_afterOf, .int q_counted, .ref m_pile, .ref m_caseMany, .ref m_happen, .ref m_hasIf, .ref m_becomes, .ref m_goneOf, .ref m_heard, .ref m_pairs, .ref m_heaps, .int q_rounds, .int q_heapMany, .ref m_led, .ref m_newAt, .ref m_knowing, .ref m_firsts, .int (nI q_people), .ref m_secrets, .ref m_tried, .ref m_lanes, .ref m_lengths, .ref m_cells])), (m_caseMany, .inl (E.2.1 1, 4, .inl f_caseManyz_37)), (m_happen, .inl (E.2.1 1, 4, .inl f_happenz_38)), (m_hasIf, .inl (E.2.1 3, 16, .inl f_hasIfz_39)), (m_becomes, .inl (E.2.1 1, 16, .inl f_becomesz_40)), (m_goneOf, .inl (E.2.1 1, 16, .inl f_goneOfz_41)), (m_heard, .inl (E.2.1 1, 64, .inl f_heardz_42))]) ?_ rfl rfl rfl
            refine ww_aload_n C dX12_word_61 0 rfl rfl ?_
            refine ww_iload_n C dX12_word_62 1 rfl rfl ?_
            refine ww_iload_n C dX12_word_63 2 rfl rfl ?_
            refine ww_iconst (v := 2) C dX12_word_64 rfl ?_
            refine ww_icmp_ne_t (tgt := 72) C dX12_word_65 (by decide) (by decide) ?_
            refine ww_iconst (v := 0) C dX12_word_72 rfl ?_
            refine ww_iload_n C dX12_word_73 3 rfl rfl ?_
            refine ww_cv (wr := [(m_tokens, .inl (E.2.1 1, 9, .inl f_tokens)), (m_afters, .inl (E.2.1 1, 9, .inl f_afters)), (m_caseMany, .inl (E.2.1 1, 4, .inl f_caseManyz_37)), (m_happen, .inl (E.2.1 1, 4, .inl f_happenz_38)), (m_becomes, .inl (E.2.1 1, 16, .inl f_becomesz_40)), (m_goneOf, .inl (E.2.1 1, 16, .inl f_goneOfz_41)), (m_heard, .inl (E.2.1 1, 64, .inl f_heardz_42))]) (k' := 0) (n' := 0) C (run_V (As := [.int (nI j_34), .int 0, .int (nI j_35)]) (rest := []) C (r_giveIf X.2.1 E ro hm j_34 0 j_35 m_manys m_reals m_factsOf m_possible q_undos q_models m_tape q_taped q_fault q_wrong q_wrongAt q_spot q_place q_token q_value m_ends m_letters m_actOf m_whom m_actMany m_tokens m_afters m_afterOf q_counted m_pile m_caseMany m_happen m_hasIf m_becomes m_goneOf m_heard m_pairs m_heaps q_rounds q_heapMany m_led m_newAt m_knowing m_firsts q_people m_secrets m_tried m_lanes m_lengths m_cells f_hasIfz_39 f_actMany f_actOf f_whom hb_actMany hsv (by omega) (by omega) (by omega)) mi_X12_giveIf wl_X12_250 rfl 0 12 rfl rfl rfl rfl rfl dX12_word_74) (roK hro) [5, 8, 0, 1, 2] [3, 4, 6, 7, 9, 10, 11] rfl rfl (plk (by decide +kernel)) rfl (fun uz hw => ?_)
            refine ex4 hw ?_
            clear hw
            intro f_hasIfz_54 f_actManyz_55 f_actOfz_56 f_whomz_57 hw
            refine an6 hw ?_
            clear hw
            intro he_64 h_58 h_59 h_60 h_61 h_62 hw
            have h_63 := hw
            clear hw
            subst he_64
            refine ww_eq (ws' := [(m_tokens, .inl (E.2.1 1, 9, .inl f_tokens)), (m_afters, .inl (E.2.1 1, 9, .inl f_afters)), (m_caseMany, .inl (E.2.1 1, 4, .inl f_caseManyz_37)), (m_happen, .inl (E.2.1 1, 4, .inl f_happenz_38)), (m_becomes, .inl (E.2.1 1, 16, .inl f_becomesz_40)), (m_goneOf, .inl (E.2.1 1, 16, .inl f_goneOfz_41)), (m_heard, .inl (E.2.1 1, 64, .inl f_heardz_42)), (hm, .inr (12, [.ref m_manys, .ref m_reals, .ref m_factsOf, .ref m_possible, .int (nI q_undos), .int (nI q_models), .ref m_tape, .int (nI q_taped), .int q_fault, .int q_wrong, .int q_wrongAt, .int q_spot, .int q_place, .int q_token, .int q_value, .ref m_ends, .ref m_letters, .ref m_actOf, .ref m_whom, .ref m_actMany, .ref m_tokens, .ref m_afters, .ref m_afterOf, .int q_counted, .ref m_pile, .ref m_caseMany, .ref m_happen, .ref m_hasIf, .ref m_becomes, .ref m_goneOf, .ref m_heard, .ref m_pairs, .ref m_heaps, .int q_rounds, .int q_heapMany, .ref m_led, .ref m_newAt, .ref m_knowing, .ref m_firsts, .int (nI q_people), .ref m_secrets, .ref m_tried, .ref m_lanes, .ref m_lengths, .ref m_cells])), (m_hasIf, .inl (E.2.1 3, 16, .inl f_hasIfz_54)), (m_actMany, .inl (E.2.1 1, 25, .inl f_actManyz_55)), (m_actOf, .inl (E.2.1 1, 800, .inl f_actOfz_56)), (m_whom, .inl (E.2.1 1, 800, .inl f_whomz_57))]) ?_ rfl rfl rfl
            refine ww_iconst (v := 0) C dX12_word_77 rfl ?_
            refine ww_istore (lv' := [(5, .int 0), (0, .ref hm), (1, .int (nI j_34)), (2, .int 0), (3, .int (nI j_35)), (4, .int v3)]) C dX12_word_78 rfl rfl ?_
            have loop_80 : ∀ (fu : Nat) (i1 : Nat) (g1 : Nat → Int32), (i1 ≤ 4) → (WX j_34 0 v3 i1 f_heard g1) → 4 - i1 < fu → WW X 7 E 80 [(5, .int (nI i1)), (0, .ref hm), (1, .int (nI j_34)), (2, .int 0), (3, .int (nI j_35)), (4, .int v3)] [] [(m_tokens, .inl (E.2.1 1, 9, .inl f_tokens)), (m_afters, .inl (E.2.1 1, 9, .inl f_afters)), (m_caseMany, .inl (E.2.1 1, 4, .inl f_caseManyz_37)), (m_happen, .inl (E.2.1 1, 4, .inl f_happenz_38)), (m_becomes, .inl (E.2.1 1, 16, .inl f_becomesz_40)), (m_goneOf, .inl (E.2.1 1, 16, .inl f_goneOfz_41)), (m_heard, .inl (E.2.1 1, 64, .inl g1)), (hm, .inr (12, [.ref m_manys, .ref m_reals, .ref m_factsOf, .ref m_possible, .int (nI q_undos), .int (nI q_models), .ref m_tape, .int (nI q_taped), .int q_fault, .int q_wrong, .int q_wrongAt, .int q_spot, .int q_place, .int q_token, .int q_value, .ref m_ends, .ref m_letters, .ref m_actOf, .ref m_whom, .ref m_actMany, .ref m_tokens, .ref m_afters, .ref m_afterOf, .int q_counted, .ref m_pile, .ref m_caseMany, .ref m_happen, .ref m_hasIf, .ref m_becomes, .ref m_goneOf, .ref m_heard, .ref m_pairs, .ref m_heaps, .int q_rounds, .int q_heapMany, .ref m_led, .ref m_newAt, .ref m_knowing, .ref m_firsts, .int (nI q_people), .ref m_secrets, .ref m_tried, .ref m_lanes, .ref m_lengths, .ref m_cells])), (m_hasIf, .inl (E.2.1 3, 16, .inl f_hasIfz_54)), (m_actMany, .inl (E.2.1 1, 25, .inl f_actManyz_55)), (m_actOf, .inl (E.2.1 1, 800, .inl f_actOfz_56)), (m_whom, .inl (E.2.1 1, 800, .inl f_whomz_57))] 0 0 := by
              intro fu
              induction fu with
              | zero => intro i1 g1 hi1 hwx hmeas; exact absurd hmeas (Nat.not_lt_zero _)
              | succ fu ih_80 =>
                intro i1 g1 hi1 hwx hmeas
                refine ww_iload C dX12_word_80 0 rfl ?_
                refine ww_iconst (v := 4) C dX12_word_82 rfl ?_
                refine ww_icmp_ge (tgt := 163) C dX12_word_83 (by decide) (fun c_65 => ?_) (fun c_65 => ?_)
                · have zc_65 : ((i1 : Nat) : Int) ≥ 4 := i_le rfl (nI_toInt (n := i1) (by omega)) c_65
                  refine ww_aload_n C dX12_word_163 1 rfl rfl ?_
                  refine ww_get C fg_X12_52 7 rfl rfl dX12_word_164 ?_
                  refine ww_iload_n C dX12_word_167 2 rfl rfl ?_
                  have hbx_66 := (h_43 j_34 (by omega)).2
                  refine ww_iald (v := (nI (cN f_caseManyz_37 j_34))) C 2 rfl (vp_in_nI (by omega) (by omega)) (ldn (by omega) (h_43 j_34 (by omega)).1) dX12_word_168 ?_
                  exact ww_iret (u := [(hm, .inr (12, [.ref m_manys, .ref m_reals, .ref m_factsOf, .ref m_possible, .int (nI q_undos), .int (nI q_models), .ref m_tape, .int (nI q_taped), .int q_fault, .int q_wrong, .int q_wrongAt, .int q_spot, .int q_place, .int q_token, .int q_value, .ref m_ends, .ref m_letters, .ref m_actOf, .ref m_whom, .ref m_actMany, .ref m_tokens, .ref m_afters, .ref m_afterOf, .int q_counted, .ref m_pile, .ref m_caseMany, .ref m_happen, .ref m_hasIf, .ref m_becomes, .ref m_goneOf, .ref m_heard, .ref m_pairs, .ref m_heaps, .int q_rounds, .int q_heapMany, .ref m_led, .ref m_newAt, .ref m_knowing, .ref m_firsts, .int (nI q_people), .ref m_secrets, .ref m_tried, .ref m_lanes, .ref m_lengths, .ref m_cells])), (m_caseMany, .inl (E.2.1 1, 4, .inl f_caseManyz_37)), (m_happen, .inl (E.2.1 1, 4, .inl f_happenz_38)), (m_hasIf, .inl (E.2.1 3, 16, .inl f_hasIfz_54)), (m_becomes, .inl (E.2.1 1, 16, .inl f_becomesz_40)), (m_goneOf, .inl (E.2.1 1, 16, .inl f_goneOfz_41)), (m_heard, .inl (E.2.1 1, 64, .inl g1)), (m_actMany, .inl (E.2.1 1, 25, .inl f_actManyz_55)), (m_actOf, .inl (E.2.1 1, 800, .inl f_actOfz_56)), (m_whom, .inl (E.2.1 1, 800, .inl f_whomz_57)), (m_tokens, .inl (E.2.1 1, 9, .inl f_tokens)), (m_afters, .inl (E.2.1 1, 9, .inl f_afters))]) C hT [7, 2, 3, 8, 4, 5, 6, 9, 10, 11, 0, 1] (gqk (by eq_refl)) (ndk (by decide +kernel)) rfl rfl dX12_word_169 (Or.inr ⟨j_34, 0, f_caseManyz_37, f_happenz_38, f_hasIfz_54, f_becomesz_40, f_goneOfz_41, g1, f_actManyz_55, f_actOfz_56, f_whomz_57, rfl, h_43, h_44, h_45, h_58, h_59, h_20, rfl, rfl, (by omega), (by omega), (by omega), h_46, h_47, (by rw [show (4 : Nat) = i1 by omega]; exact hwx), (by rw [cN_s (by decide) h_46]; rfl), ⟨j_35, _, rfl, by omega, h_49, h_60, h_61, h_62, h_63⟩, h_50, h_51⟩)
                · have zc_65 : ((i1 : Nat) : Int) < 4 := i_nle rfl (nI_toInt (n := i1) (by omega)) c_65
                  refine ww_iload C dX12_word_86 5 rfl ?_
                  refine ww_iload C dX12_word_88 0 rfl ?_
                  obtain ⟨x_67, ex_67⟩ : ∃ z : Int32, v3 >>> ((nI i1) &&& 31) = z := ⟨_, rfl⟩
                  refine ww_ishr (v := x_67) C dX12_word_90 ex_67 ?_
                  refine ww_iconst (v := 1) C dX12_word_91 rfl ?_
                  obtain ⟨j_68, hj_68, ej_68⟩ := pk_andE x_67 (m := 1) 1 rfl
                  refine ww_iand (v := (nI j_68)) C dX12_word_92 ej_68 ?_
                  refine ww_iconst (v := 1) C dX12_word_93 rfl ?_
                  refine ww_icmp_ne (tgt := 101) C dX12_word_94 (by decide) (fun c_69 => ?_) (fun c_69 => ?_)
                  · have zc_69 : ((j_68 : Nat) : Int) ≠ 1 := i_ne (nI_toInt (n := j_68) (by omega)) rfl c_69
                    refine ww_iconst (v := 0) C dX12_word_101 rfl ?_
                    refine ww_istore (lv' := [(6, .int 0), (5, .int (nI i1)), (0, .ref hm), (1, .int (nI j_34)), (2, .int 0), (3, .int (nI j_35)), (4, .int v3)]) C dX12_word_102 rfl rfl ?_
                    refine ww_aload_n C dX12_word_104 2 rfl rfl ?_
                    refine ww_get C fg_X12_68 7 rfl rfl dX12_word_105 ?_
                    refine ww_bipush (v := 16) C dX12_word_108 rfl ?_
                    refine ww_iload_n C dX12_word_110 3 rfl rfl ?_
                    refine ww_imul (v := (nI (16 * j_34))) C dX12_word_111 (pk_mul 16 j_34) ?_
                    refine ww_iconst (v := 4) C dX12_word_112 rfl ?_
                    refine ww_iload C dX12_word_113 1 rfl ?_
                    refine ww_imul (v := (nI (4 * i1))) C dX12_word_115 (pk_mul 4 i1) ?_
                    refine ww_iadd (v := (nI ((16 * j_34) + (4 * i1)))) C dX12_word_116 (nI_add (16 * j_34) (4 * i1)) ?_
                    refine ww_iload_n C dX12_word_117 4 rfl rfl ?_
                    refine ww_if_eq_t (tgt := 126) C dX12_word_118 (by decide) (rfl) ?_
                    refine ww_iconst (v := 1) C dX12_word_126 rfl ?_
                    refine ww_goto (tgt := 131) C dX12_word_127 (by decide) ?_
                    obtain ⟨f_70, ef_70⟩ : ∃ z : Nat → Int32, upd g1 ((16 * j_34) + (4 * i1)) 1 = z := ⟨_, rfl⟩
                    refine ww_iast (ws' := [(m_tokens, .inl (E.2.1 1, 9, .inl f_tokens)), (m_afters, .inl (E.2.1 1, 9, .inl f_afters)), (m_caseMany, .inl (E.2.1 1, 4, .inl f_caseManyz_37)), (m_happen, .inl (E.2.1 1, 4, .inl f_happenz_38)), (m_becomes, .inl (E.2.1 1, 16, .inl f_becomesz_40)), (m_goneOf, .inl (E.2.1 1, 16, .inl f_goneOfz_41)), (m_heard, .inl (E.2.1 1, 64, .inl f_70)), (hm, .inr (12, [.ref m_manys, .ref m_reals, .ref m_factsOf, .ref m_possible, .int (nI q_undos), .int (nI q_models), .ref m_tape, .int (nI q_taped), .int q_fault, .int q_wrong, .int q_wrongAt, .int q_spot, .int q_place, .int q_token, .int q_value, .ref m_ends, .ref m_letters, .ref m_actOf, .ref m_whom, .ref m_actMany, .ref m_tokens, .ref m_afters, .ref m_afterOf, .int q_counted, .ref m_pile, .ref m_caseMany, .ref m_happen, .ref m_hasIf, .ref m_becomes, .ref m_goneOf, .ref m_heard, .ref m_pairs, .ref m_heaps, .int q_rounds, .int q_heapMany, .ref m_led, .ref m_newAt, .ref m_knowing, .ref m_firsts, .int (nI q_people), .ref m_secrets, .ref m_tried, .ref m_lanes, .ref m_lengths, .ref m_cells])), (m_hasIf, .inl (E.2.1 3, 16, .inl f_hasIfz_54)), (m_actMany, .inl (E.2.1 1, 25, .inl f_actManyz_55)), (m_actOf, .inl (E.2.1 1, 800, .inl f_actOfz_56)), (m_whom, .inl (E.2.1 1, 800, .inl f_whomz_57))]) C 6 rfl (vp_in_nI (by omega) (by omega)) (ldn2 (by omega) ef_70) rfl dX12_word_131 ?_
                    refine ww_aload_n C dX12_word_132 2 rfl rfl ?_
                    refine ww_get C fg_X12_68 7 rfl rfl dX12_word_133 ?_
                    refine ww_bipush (v := 16) C dX12_word_136 rfl ?_
                    refine ww_iload_n C dX12_word_138 3 rfl rfl ?_
                    refine ww_imul (v := (nI (16 * j_34))) C dX12_word_139 (pk_mul 16 j_34) ?_
                    refine ww_iconst (v := 4) C dX12_word_140 rfl ?_
                    refine ww_iload C dX12_word_141 1 rfl ?_
                    refine ww_imul (v := (nI (4 * i1))) C dX12_word_143 (pk_mul 4 i1) ?_
                    refine ww_iadd (v := (nI ((16 * j_34) + (4 * i1)))) C dX12_word_144 (nI_add (16 * j_34) (4 * i1)) ?_
                    refine ww_iconst (v := 1) C dX12_word_145 rfl ?_
                    refine ww_iadd (v := (nI (((16 * j_34) + (4 * i1)) + 1))) C dX12_word_146 (nI_add ((16 * j_34) + (4 * i1)) 1) ?_
                    refine ww_iload_n C dX12_word_147 4 rfl rfl ?_
                    refine ww_if_ne_f (tgt := 155) C dX12_word_148 (by decide) (rfl) ?_
                    refine ww_iconst (v := 0) C dX12_word_151 rfl ?_
                    refine ww_goto (tgt := 156) C dX12_word_152 (by decide) ?_
                    obtain ⟨f_71, ef_71⟩ : ∃ z : Nat → Int32, upd f_70 (((16 * j_34) + (4 * i1)) + 1) 0 = z := ⟨_, rfl⟩
                    refine ww_iast (ws' := [(m_tokens, .inl (E.2.1 1, 9, .inl f_tokens)), (m_afters, .inl (E.2.1 1, 9, .inl f_afters)), (m_caseMany, .inl (E.2.1 1, 4, .inl f_caseManyz_37)), (m_happen, .inl (E.2.1 1, 4, .inl f_happenz_38)), (m_becomes, .inl (E.2.1 1, 16, .inl f_becomesz_40)), (m_goneOf, .inl (E.2.1 1, 16, .inl f_goneOfz_41)), (m_heard, .inl (E.2.1 1, 64, .inl f_71)), (hm, .inr (12, [.ref m_manys, .ref m_reals, .ref m_factsOf, .ref m_possible, .int (nI q_undos), .int (nI q_models), .ref m_tape, .int (nI q_taped), .int q_fault, .int q_wrong, .int q_wrongAt, .int q_spot, .int q_place, .int q_token, .int q_value, .ref m_ends, .ref m_letters, .ref m_actOf, .ref m_whom, .ref m_actMany, .ref m_tokens, .ref m_afters, .ref m_afterOf, .int q_counted, .ref m_pile, .ref m_caseMany, .ref m_happen, .ref m_hasIf, .ref m_becomes, .ref m_goneOf, .ref m_heard, .ref m_pairs, .ref m_heaps, .int q_rounds, .int q_heapMany, .ref m_led, .ref m_newAt, .ref m_knowing, .ref m_firsts, .int (nI q_people), .ref m_secrets, .ref m_tried, .ref m_lanes, .ref m_lengths, .ref m_cells])), (m_hasIf, .inl (E.2.1 3, 16, .inl f_hasIfz_54)), (m_actMany, .inl (E.2.1 1, 25, .inl f_actManyz_55)), (m_actOf, .inl (E.2.1 1, 800, .inl f_actOfz_56)), (m_whom, .inl (E.2.1 1, 800, .inl f_whomz_57))]) C 6 rfl (vp_in_nI (by omega) (by omega)) (ldn2 (by omega) ef_71) rfl dX12_word_156 ?_
                    refine ww_iinc (j := 1) (v := (nI (i1 + 1))) (lv' := [(5, .int (nI (i1 + 1))), (6, .int 0), (0, .ref hm), (1, .int (nI j_34)), (2, .int 0), (3, .int (nI j_35)), (4, .int v3)]) C dX12_word_157 rfl (nI_add i1 1) rfl rfl ?_
                    refine ww_goto (tgt := 80) C dX12_word_160 (by decide) ?_
                    exact ww_lv [0, 2, 3, 4, 5, 6] rfl (ww_sub [0, 1, 2, 3, 4, 5, 6, 7, 8, 9, 10, 11] (ndk (by decide +kernel)) (gqk (by eq_refl)) (ih_80 (i1 + 1) f_71 (by omega) (WX.ext hwx (by omega) rfl rfl ef_70 ef_71) (by omega)))
                  · have zc_69 : ((j_68 : Nat) : Int) = 1 := i_eq (nI_toInt (n := j_68) (by omega)) rfl c_69
                    refine ww_iconst (v := 1) C dX12_word_97 rfl ?_
                    refine ww_goto (tgt := 102) C dX12_word_98 (by decide) ?_
                    refine ww_istore (lv' := [(6, .int 1), (5, .int (nI i1)), (0, .ref hm), (1, .int (nI j_34)), (2, .int 0), (3, .int (nI j_35)), (4, .int v3)]) C dX12_word_102 rfl rfl ?_
                    refine ww_aload_n C dX12_word_104 2 rfl rfl ?_
                    refine ww_get C fg_X12_68 7 rfl rfl dX12_word_105 ?_
                    refine ww_bipush (v := 16) C dX12_word_108 rfl ?_
                    refine ww_iload_n C dX12_word_110 3 rfl rfl ?_
                    refine ww_imul (v := (nI (16 * j_34))) C dX12_word_111 (pk_mul 16 j_34) ?_
                    refine ww_iconst (v := 4) C dX12_word_112 rfl ?_
                    refine ww_iload C dX12_word_113 1 rfl ?_
                    refine ww_imul (v := (nI (4 * i1))) C dX12_word_115 (pk_mul 4 i1) ?_
                    refine ww_iadd (v := (nI ((16 * j_34) + (4 * i1)))) C dX12_word_116 (nI_add (16 * j_34) (4 * i1)) ?_
                    refine ww_iload_n C dX12_word_117 4 rfl rfl ?_
                    refine ww_if_eq_t (tgt := 126) C dX12_word_118 (by decide) (rfl) ?_
                    refine ww_iconst (v := 1) C dX12_word_126 rfl ?_
                    refine ww_goto (tgt := 131) C dX12_word_127 (by decide) ?_
                    obtain ⟨f_72, ef_72⟩ : ∃ z : Nat → Int32, upd g1 ((16 * j_34) + (4 * i1)) 1 = z := ⟨_, rfl⟩
                    refine ww_iast (ws' := [(m_tokens, .inl (E.2.1 1, 9, .inl f_tokens)), (m_afters, .inl (E.2.1 1, 9, .inl f_afters)), (m_caseMany, .inl (E.2.1 1, 4, .inl f_caseManyz_37)), (m_happen, .inl (E.2.1 1, 4, .inl f_happenz_38)), (m_becomes, .inl (E.2.1 1, 16, .inl f_becomesz_40)), (m_goneOf, .inl (E.2.1 1, 16, .inl f_goneOfz_41)), (m_heard, .inl (E.2.1 1, 64, .inl f_72)), (hm, .inr (12, [.ref m_manys, .ref m_reals, .ref m_factsOf, .ref m_possible, .int (nI q_undos), .int (nI q_models), .ref m_tape, .int (nI q_taped), .int q_fault, .int q_wrong, .int q_wrongAt, .int q_spot, .int q_place, .int q_token, .int q_value, .ref m_ends, .ref m_letters, .ref m_actOf, .ref m_whom, .ref m_actMany, .ref m_tokens, .ref m_afters, .ref m_afterOf, .int q_counted, .ref m_pile, .ref m_caseMany, .ref m_happen, .ref m_hasIf, .ref m_becomes, .ref m_goneOf, .ref m_heard, .ref m_pairs, .ref m_heaps, .int q_rounds, .int q_heapMany, .ref m_led, .ref m_newAt, .ref m_knowing, .ref m_firsts, .int (nI q_people), .ref m_secrets, .ref m_tried, .ref m_lanes, .ref m_lengths, .ref m_cells])), (m_hasIf, .inl (E.2.1 3, 16, .inl f_hasIfz_54)), (m_actMany, .inl (E.2.1 1, 25, .inl f_actManyz_55)), (m_actOf, .inl (E.2.1 1, 800, .inl f_actOfz_56)), (m_whom, .inl (E.2.1 1, 800, .inl f_whomz_57))]) C 6 rfl (vp_in_nI (by omega) (by omega)) (ldn2 (by omega) ef_72) rfl dX12_word_131 ?_
                    refine ww_aload_n C dX12_word_132 2 rfl rfl ?_
                    refine ww_get C fg_X12_68 7 rfl rfl dX12_word_133 ?_
                    refine ww_bipush (v := 16) C dX12_word_136 rfl ?_
                    refine ww_iload_n C dX12_word_138 3 rfl rfl ?_
                    refine ww_imul (v := (nI (16 * j_34))) C dX12_word_139 (pk_mul 16 j_34) ?_
                    refine ww_iconst (v := 4) C dX12_word_140 rfl ?_
                    refine ww_iload C dX12_word_141 1 rfl ?_
                    refine ww_imul (v := (nI (4 * i1))) C dX12_word_143 (pk_mul 4 i1) ?_
                    refine ww_iadd (v := (nI ((16 * j_34) + (4 * i1)))) C dX12_word_144 (nI_add (16 * j_34) (4 * i1)) ?_
                    refine ww_iconst (v := 1) C dX12_word_145 rfl ?_
                    refine ww_iadd (v := (nI (((16 * j_34) + (4 * i1)) + 1))) C dX12_word_146 (nI_add ((16 * j_34) + (4 * i1)) 1) ?_
                    refine ww_iload_n C dX12_word_147 4 rfl rfl ?_
                    refine ww_if_ne_f (tgt := 155) C dX12_word_148 (by decide) (rfl) ?_
                    refine ww_iconst (v := 0) C dX12_word_151 rfl ?_
                    refine ww_goto (tgt := 156) C dX12_word_152 (by decide) ?_
                    obtain ⟨f_73, ef_73⟩ : ∃ z : Nat → Int32, upd f_72 (((16 * j_34) + (4 * i1)) + 1) 0 = z := ⟨_, rfl⟩
                    refine ww_iast (ws' := [(m_tokens, .inl (E.2.1 1, 9, .inl f_tokens)), (m_afters, .inl (E.2.1 1, 9, .inl f_afters)), (m_caseMany, .inl (E.2.1 1, 4, .inl f_caseManyz_37)), (m_happen, .inl (E.2.1 1, 4, .inl f_happenz_38)), (m_becomes, .inl (E.2.1 1, 16, .inl f_becomesz_40)), (m_goneOf, .inl (E.2.1 1, 16, .inl f_goneOfz_41)), (m_heard, .inl (E.2.1 1, 64, .inl f_73)), (hm, .inr (12, [.ref m_manys, .ref m_reals, .ref m_factsOf, .ref m_possible, .int (nI q_undos), .int (nI q_models), .ref m_tape, .int (nI q_taped), .int q_fault, .int q_wrong, .int q_wrongAt, .int q_spot, .int q_place, .int q_token, .int q_value, .ref m_ends, .ref m_letters, .ref m_actOf, .ref m_whom, .ref m_actMany, .ref m_tokens, .ref m_afters, .ref m_afterOf, .int q_counted, .ref m_pile, .ref m_caseMany, .ref m_happen, .ref m_hasIf, .ref m_becomes, .ref m_goneOf, .ref m_heard, .ref m_pairs, .ref m_heaps, .int q_rounds, .int q_heapMany, .ref m_led, .ref m_newAt, .ref m_knowing, .ref m_firsts, .int (nI q_people), .ref m_secrets, .ref m_tried, .ref m_lanes, .ref m_lengths, .ref m_cells])), (m_hasIf, .inl (E.2.1 3, 16, .inl f_hasIfz_54)), (m_actMany, .inl (E.2.1 1, 25, .inl f_actManyz_55)), (m_actOf, .inl (E.2.1 1, 800, .inl f_actOfz_56)), (m_whom, .inl (E.2.1 1, 800, .inl f_whomz_57))]) C 6 rfl (vp_in_nI (by omega) (by omega)) (ldn2 (by omega) ef_73) rfl dX12_word_156 ?_
                    refine ww_iinc (j := 1) (v := (nI (i1 + 1))) (lv' := [(5, .int (nI (i1 + 1))), (6, .int 1), (0, .ref hm), (1, .int (nI j_34)), (2, .int 0), (3, .int (nI j_35)), (4, .int v3)]) C dX12_word_157 rfl (nI_add i1 1) rfl rfl ?_
                    refine ww_goto (tgt := 80) C dX12_word_160 (by decide) ?_
                    exact ww_lv [0, 2, 3, 4, 5, 6] rfl (ww_sub [0, 1, 2, 3, 4, 5, 6, 7, 8, 9, 10, 11] (ndk (by decide +kernel)) (gqk (by eq_refl)) (ih_80 (i1 + 1) f_73 (by omega) (WX.ext hwx (by omega) rfl rfl ef_72 ef_73) (by omega)))
            exact ww_lv [0, 1, 2, 3, 4, 5] rfl (ww_sub [0, 1, 2, 3, 4, 5, 6, 7, 8, 9, 10, 11] (ndk (by decide +kernel)) (gqk (by eq_refl)) (loop_80 _ 0 f_heardz_42 (by omega) (WX.nil h_48) (Nat.lt_succ_self _)))
          · refine ww_iload_n C dX12_word_49 2 rfl rfl ?_
            refine ww_if_ne_t (tgt := 57) C dX12_word_50 (by decide) (by decide) ?_
            refine ww_iconst (v := 2) C dX12_word_57 rfl ?_
            refine ww_cv (wr := [(m_actMany, .inl (E.2.1 1, 25, .inl f_actMany)), (m_actOf, .inl (E.2.1 1, 800, .inl f_actOf)), (m_whom, .inl (E.2.1 1, 800, .inl f_whom)), (m_tokens, .inl (E.2.1 1, 9, .inl f_tokens)), (m_afters, .inl (E.2.1 1, 9, .inl f_afters))]) (k' := 0) (n' := 0) C (run_V (As := [.int (nI j_34), .int 2]) (rest := []) C (r_clearEvent X.2.1 E ro hm j_34 2 m_manys m_reals m_factsOf m_possible q_undos q_models m_tape q_taped q_fault q_wrong q_wrongAt q_spot q_place q_token q_value m_ends m_letters m_actOf m_whom m_actMany m_tokens m_afters m_afterOf q_counted m_pile m_caseMany m_happen m_hasIf m_becomes m_goneOf m_heard m_pairs m_heaps q_rounds q_heapMany m_led m_newAt m_knowing m_firsts q_people m_secrets m_tried m_lanes m_lengths m_cells f_caseMany f_happen f_hasIf f_becomes f_goneOf f_heard hb_caseMany hb_happen hhp (by omega) (by omega) (by omega)) mi_X12_clearEvent wl_X12_240 rfl 0 12 rfl rfl rfl rfl rfl dX12_word_58) (roK hro) [9, 0, 1, 2, 3, 4, 5] [6, 7, 8, 10, 11] rfl rfl (plk (by decide +kernel)) rfl (fun uz hw => ?_)
            refine ex6 hw ?_
            clear hw
            intro f_caseManyz_75 f_happenz_76 f_hasIfz_77 f_becomesz_78 f_goneOfz_79 f_heardz_80 hw
            refine an8 hw ?_
            clear hw
            intro he_90 h_81 h_82 h_83 h_84 h_85 h_86 h_87 hw
            refine an1 hw ?_
            clear hw
            intro h_88 hw
            have h_89 := hw
            clear hw
            subst he_90
            refine ww_eq (ws' := [(m_actMany, .inl (E.2.1 1, 25, .inl f_actMany)), (m_actOf, .inl (E.2.1 1, 800, .inl f_actOf)), (m_whom, .inl (E.2.1 1, 800, .inl f_whom)), (m_tokens, .inl (E.2.1 1, 9, .inl f_tokens)), (m_afters, .inl (E.2.1 1, 9, .inl f_afters)), (hm, .inr (12, [.ref m_manys, .ref m_reals, .ref m_factsOf, .ref m_possible, .int (nI q_undos), .int (nI q_models), .ref m_tape, .int (nI q_taped), .int q_fault, .int q_wrong, .int q_wrongAt, .int q_spot, .int q_place, .int q_token, .int q_value, .ref m_ends, .ref m_letters, .ref m_actOf, .ref m_whom, .ref m_actMany, .ref m_tokens, .ref m_afters, .ref m_afterOf, .int q_counted, .ref m_pile, .ref m_caseMany, .ref m_happen, .ref m_hasIf, .ref m_becomes, .ref m_goneOf, .ref m_heard, .ref m_pairs, .ref m_heaps, .int q_rounds, .int q_heapMany, .ref m_led, .ref m_newAt, .ref m_knowing, .ref m_firsts, .int (nI q_people), .ref m_secrets, .ref m_tried, .ref m_lanes, .ref m_lengths, .ref m_cells])), (m_caseMany, .inl (E.2.1 1, 4, .inl f_caseManyz_75)), (m_happen, .inl (E.2.1 1, 4, .inl f_happenz_76)), (m_hasIf, .inl (E.2.1 3, 16, .inl f_hasIfz_77)), (m_becomes, .inl (E.2.1 1, 16, .inl f_becomesz_78)), (m_goneOf, .inl (E.2.1 1, 16, .inl f_goneOfz_79)), (m_heard, .inl (E.2.1 1, 64, .inl f_heardz_80))]) ?_ rfl rfl rfl
            refine ww_aload_n C dX12_word_61 0 rfl rfl ?_
            refine ww_iload_n C dX12_word_62 1 rfl rfl ?_
            refine ww_iload_n C dX12_word_63 2 rfl rfl ?_
            refine ww_iconst (v := 2) C dX12_word_64 rfl ?_
            refine ww_icmp_ne_t (tgt := 72) C dX12_word_65 (by decide) (by decide) ?_
            refine ww_iconst (v := 0) C dX12_word_72 rfl ?_
            refine ww_iload_n C dX12_word_73 3 rfl rfl ?_
            refine ww_cv (wr := [(m_tokens, .inl (E.2.1 1, 9, .inl f_tokens)), (m_afters, .inl (E.2.1 1, 9, .inl f_afters)), (m_caseMany, .inl (E.2.1 1, 4, .inl f_caseManyz_75)), (m_happen, .inl (E.2.1 1, 4, .inl f_happenz_76)), (m_becomes, .inl (E.2.1 1, 16, .inl f_becomesz_78)), (m_goneOf, .inl (E.2.1 1, 16, .inl f_goneOfz_79)), (m_heard, .inl (E.2.1 1, 64, .inl f_heardz_80))]) (k' := 0) (n' := 0) C (run_V (As := [.int (nI j_34), .int 0, .int (nI j_35)]) (rest := []) C (r_giveIf X.2.1 E ro hm j_34 0 j_35 m_manys m_reals m_factsOf m_possible q_undos q_models m_tape q_taped q_fault q_wrong q_wrongAt q_spot q_place q_token q_value m_ends m_letters m_actOf m_whom m_actMany m_tokens m_afters m_afterOf q_counted m_pile m_caseMany m_happen m_hasIf m_becomes m_goneOf m_heard m_pairs m_heaps q_rounds q_heapMany m_led m_newAt m_knowing m_firsts q_people m_secrets m_tried m_lanes m_lengths m_cells f_hasIfz_77 f_actMany f_actOf f_whom hb_actMany hsv (by omega) (by omega) (by omega)) mi_X12_giveIf wl_X12_250 rfl 0 12 rfl rfl rfl rfl rfl dX12_word_74) (roK hro) [5, 8, 0, 1, 2] [3, 4, 6, 7, 9, 10, 11] rfl rfl (plk (by decide +kernel)) rfl (fun uz hw => ?_)
            refine ex4 hw ?_
            clear hw
            intro f_hasIfz_92 f_actManyz_93 f_actOfz_94 f_whomz_95 hw
            refine an6 hw ?_
            clear hw
            intro he_102 h_96 h_97 h_98 h_99 h_100 hw
            have h_101 := hw
            clear hw
            subst he_102
            refine ww_eq (ws' := [(m_tokens, .inl (E.2.1 1, 9, .inl f_tokens)), (m_afters, .inl (E.2.1 1, 9, .inl f_afters)), (m_caseMany, .inl (E.2.1 1, 4, .inl f_caseManyz_75)), (m_happen, .inl (E.2.1 1, 4, .inl f_happenz_76)), (m_becomes, .inl (E.2.1 1, 16, .inl f_becomesz_78)), (m_goneOf, .inl (E.2.1 1, 16, .inl f_goneOfz_79)), (m_heard, .inl (E.2.1 1, 64, .inl f_heardz_80)), (hm, .inr (12, [.ref m_manys, .ref m_reals, .ref m_factsOf, .ref m_possible, .int (nI q_undos), .int (nI q_models), .ref m_tape, .int (nI q_taped), .int q_fault, .int q_wrong, .int q_wrongAt, .int q_spot, .int q_place, .int q_token, .int q_value, .ref m_ends, .ref m_letters, .ref m_actOf, .ref m_whom, .ref m_actMany, .ref m_tokens, .ref m_afters, .ref m_afterOf, .int q_counted, .ref m_pile, .ref m_caseMany, .ref m_happen, .ref m_hasIf, .ref m_becomes, .ref m_goneOf, .ref m_heard, .ref m_pairs, .ref m_heaps, .int q_rounds, .int q_heapMany, .ref m_led, .ref m_newAt, .ref m_knowing, .ref m_firsts, .int (nI q_people), .ref m_secrets, .ref m_tried, .ref m_lanes, .ref m_lengths, .ref m_cells])), (m_hasIf, .inl (E.2.1 3, 16, .inl f_hasIfz_92)), (m_actMany, .inl (E.2.1 1, 25, .inl f_actManyz_93)), (m_actOf, .inl (E.2.1 1, 800, .inl f_actOfz_94)), (m_whom, .inl (E.2.1 1, 800, .inl f_whomz_95))]) ?_ rfl rfl rfl
            refine ww_iconst (v := 0) C dX12_word_77 rfl ?_
            refine ww_istore (lv' := [(5, .int 0), (0, .ref hm), (1, .int (nI j_34)), (2, .int 1), (3, .int (nI j_35)), (4, .int v3)]) C dX12_word_78 rfl rfl ?_
            have loop_80 : ∀ (fu : Nat) (i1 : Nat) (g1 : Nat → Int32), (i1 ≤ 4) → (WX j_34 1 v3 i1 f_heard g1) → 4 - i1 < fu → WW X 7 E 80 [(5, .int (nI i1)), (0, .ref hm), (1, .int (nI j_34)), (2, .int 1), (3, .int (nI j_35)), (4, .int v3)] [] [(m_tokens, .inl (E.2.1 1, 9, .inl f_tokens)), (m_afters, .inl (E.2.1 1, 9, .inl f_afters)), (m_caseMany, .inl (E.2.1 1, 4, .inl f_caseManyz_75)), (m_happen, .inl (E.2.1 1, 4, .inl f_happenz_76)), (m_becomes, .inl (E.2.1 1, 16, .inl f_becomesz_78)), (m_goneOf, .inl (E.2.1 1, 16, .inl f_goneOfz_79)), (m_heard, .inl (E.2.1 1, 64, .inl g1)), (hm, .inr (12, [.ref m_manys, .ref m_reals, .ref m_factsOf, .ref m_possible, .int (nI q_undos), .int (nI q_models), .ref m_tape, .int (nI q_taped), .int q_fault, .int q_wrong, .int q_wrongAt, .int q_spot, .int q_place, .int q_token, .int q_value, .ref m_ends, .ref m_letters, .ref m_actOf, .ref m_whom, .ref m_actMany, .ref m_tokens, .ref m_afters, .ref m_afterOf, .int q_counted, .ref m_pile, .ref m_caseMany, .ref m_happen, .ref m_hasIf, .ref m_becomes, .ref m_goneOf, .ref m_heard, .ref m_pairs, .ref m_heaps, .int q_rounds, .int q_heapMany, .ref m_led, .ref m_newAt, .ref m_knowing, .ref m_firsts, .int (nI q_people), .ref m_secrets, .ref m_tried, .ref m_lanes, .ref m_lengths, .ref m_cells])), (m_hasIf, .inl (E.2.1 3, 16, .inl f_hasIfz_92)), (m_actMany, .inl (E.2.1 1, 25, .inl f_actManyz_93)), (m_actOf, .inl (E.2.1 1, 800, .inl f_actOfz_94)), (m_whom, .inl (E.2.1 1, 800, .inl f_whomz_95))] 0 0 := by
              intro fu
              induction fu with
              | zero => intro i1 g1 hi1 hwx hmeas; exact absurd hmeas (Nat.not_lt_zero _)
              | succ fu ih_80 =>
                intro i1 g1 hi1 hwx hmeas
                refine ww_iload C dX12_word_80 0 rfl ?_
                refine ww_iconst (v := 4) C dX12_word_82 rfl ?_
                refine ww_icmp_ge (tgt := 163) C dX12_word_83 (by decide) (fun c_103 => ?_) (fun c_103 => ?_)
                · have zc_103 : ((i1 : Nat) : Int) ≥ 4 := i_le rfl (nI_toInt (n := i1) (by omega)) c_103
                  refine ww_aload_n C dX12_word_163 1 rfl rfl ?_
                  refine ww_get C fg_X12_52 7 rfl rfl dX12_word_164 ?_
                  refine ww_iload_n C dX12_word_167 2 rfl rfl ?_
                  have hbx_104 := (h_81 j_34 (by omega)).2
                  refine ww_iald (v := (nI (cN f_caseManyz_75 j_34))) C 2 rfl (vp_in_nI (by omega) (by omega)) (ldn (by omega) (h_81 j_34 (by omega)).1) dX12_word_168 ?_
                  exact ww_iret (u := [(hm, .inr (12, [.ref m_manys, .ref m_reals, .ref m_factsOf, .ref m_possible, .int (nI q_undos), .int (nI q_models), .ref m_tape, .int (nI q_taped), .int q_fault, .int q_wrong, .int q_wrongAt, .int q_spot, .int q_place, .int q_token, .int q_value, .ref m_ends, .ref m_letters, .ref m_actOf, .ref m_whom, .ref m_actMany, .ref m_tokens, .ref m_afters, .ref m_afterOf, .int q_counted, .ref m_pile, .ref m_caseMany, .ref m_happen, .ref m_hasIf, .ref m_becomes, .ref m_goneOf, .ref m_heard, .ref m_pairs, .ref m_heaps, .int q_rounds, .int q_heapMany, .ref m_led, .ref m_newAt, .ref m_knowing, .ref m_firsts, .int (nI q_people), .ref m_secrets, .ref m_tried, .ref m_lanes, .ref m_lengths, .ref m_cells])), (m_caseMany, .inl (E.2.1 1, 4, .inl f_caseManyz_75)), (m_happen, .inl (E.2.1 1, 4, .inl f_happenz_76)), (m_hasIf, .inl (E.2.1 3, 16, .inl f_hasIfz_92)), (m_becomes, .inl (E.2.1 1, 16, .inl f_becomesz_78)), (m_goneOf, .inl (E.2.1 1, 16, .inl f_goneOfz_79)), (m_heard, .inl (E.2.1 1, 64, .inl g1)), (m_actMany, .inl (E.2.1 1, 25, .inl f_actManyz_93)), (m_actOf, .inl (E.2.1 1, 800, .inl f_actOfz_94)), (m_whom, .inl (E.2.1 1, 800, .inl f_whomz_95)), (m_tokens, .inl (E.2.1 1, 9, .inl f_tokens)), (m_afters, .inl (E.2.1 1, 9, .inl f_afters))]) C hT [7, 2, 3, 8, 4, 5, 6, 9, 10, 11, 0, 1] (gqk (by eq_refl)) (ndk (by decide +kernel)) rfl rfl dX12_word_169 (Or.inr ⟨j_34, 1, f_caseManyz_75, f_happenz_76, f_hasIfz_92, f_becomesz_78, f_goneOfz_79, g1, f_actManyz_93, f_actOfz_94, f_whomz_95, rfl, h_81, h_82, h_83, h_96, h_97, h_20, rfl, rfl, (by omega), (by omega), (by omega), h_84, h_85, (by rw [show (4 : Nat) = i1 by omega]; exact hwx), (by rw [cN_s (by decide) h_84]; rfl), ⟨j_35, _, rfl, by omega, h_87, h_98, h_99, h_100, h_101⟩, h_88, h_89⟩)
                · have zc_103 : ((i1 : Nat) : Int) < 4 := i_nle rfl (nI_toInt (n := i1) (by omega)) c_103
                  refine ww_iload C dX12_word_86 5 rfl ?_
                  refine ww_iload C dX12_word_88 0 rfl ?_
                  obtain ⟨x_105, ex_105⟩ : ∃ z : Int32, v3 >>> ((nI i1) &&& 31) = z := ⟨_, rfl⟩
                  refine ww_ishr (v := x_105) C dX12_word_90 ex_105 ?_
                  refine ww_iconst (v := 1) C dX12_word_91 rfl ?_
                  obtain ⟨j_106, hj_106, ej_106⟩ := pk_andE x_105 (m := 1) 1 rfl
                  refine ww_iand (v := (nI j_106)) C dX12_word_92 ej_106 ?_
                  refine ww_iconst (v := 1) C dX12_word_93 rfl ?_
                  refine ww_icmp_ne (tgt := 101) C dX12_word_94 (by decide) (fun c_107 => ?_) (fun c_107 => ?_)
                  · have zc_107 : ((j_106 : Nat) : Int) ≠ 1 := i_ne (nI_toInt (n := j_106) (by omega)) rfl c_107
                    refine ww_iconst (v := 0) C dX12_word_101 rfl ?_
                    refine ww_istore (lv' := [(6, .int 0), (5, .int (nI i1)), (0, .ref hm), (1, .int (nI j_34)), (2, .int 1), (3, .int (nI j_35)), (4, .int v3)]) C dX12_word_102 rfl rfl ?_
                    refine ww_aload_n C dX12_word_104 2 rfl rfl ?_
                    refine ww_get C fg_X12_68 7 rfl rfl dX12_word_105 ?_
                    refine ww_bipush (v := 16) C dX12_word_108 rfl ?_
                    refine ww_iload_n C dX12_word_110 3 rfl rfl ?_
                    refine ww_imul (v := (nI (16 * j_34))) C dX12_word_111 (pk_mul 16 j_34) ?_
                    refine ww_iconst (v := 4) C dX12_word_112 rfl ?_
                    refine ww_iload C dX12_word_113 1 rfl ?_
                    refine ww_imul (v := (nI (4 * i1))) C dX12_word_115 (pk_mul 4 i1) ?_
                    refine ww_iadd (v := (nI ((16 * j_34) + (4 * i1)))) C dX12_word_116 (nI_add (16 * j_34) (4 * i1)) ?_
                    refine ww_iload_n C dX12_word_117 4 rfl rfl ?_
                    refine ww_if_eq_f (tgt := 126) C dX12_word_118 (by decide) (by decide) ?_
                    refine ww_iload C dX12_word_121 0 rfl ?_
                    refine ww_if_eq_t (tgt := 130) C dX12_word_123 (by decide) (rfl) ?_
                    refine ww_iconst (v := 2) C dX12_word_130 rfl ?_
                    obtain ⟨f_108, ef_108⟩ : ∃ z : Nat → Int32, upd g1 ((16 * j_34) + (4 * i1)) 2 = z := ⟨_, rfl⟩
                    refine ww_iast (ws' := [(m_tokens, .inl (E.2.1 1, 9, .inl f_tokens)), (m_afters, .inl (E.2.1 1, 9, .inl f_afters)), (m_caseMany, .inl (E.2.1 1, 4, .inl f_caseManyz_75)), (m_happen, .inl (E.2.1 1, 4, .inl f_happenz_76)), (m_becomes, .inl (E.2.1 1, 16, .inl f_becomesz_78)), (m_goneOf, .inl (E.2.1 1, 16, .inl f_goneOfz_79)), (m_heard, .inl (E.2.1 1, 64, .inl f_108)), (hm, .inr (12, [.ref m_manys, .ref m_reals, .ref m_factsOf, .ref m_possible, .int (nI q_undos), .int (nI q_models), .ref m_tape, .int (nI q_taped), .int q_fault, .int q_wrong, .int q_wrongAt, .int q_spot, .int q_place, .int q_token, .int q_value, .ref m_ends, .ref m_letters, .ref m_actOf, .ref m_whom, .ref m_actMany, .ref m_tokens, .ref m_afters, .ref m_afterOf, .int q_counted, .ref m_pile, .ref m_caseMany, .ref m_happen, .ref m_hasIf, .ref m_becomes, .ref m_goneOf, .ref m_heard, .ref m_pairs, .ref m_heaps, .int q_rounds, .int q_heapMany, .ref m_led, .ref m_newAt, .ref m_knowing, .ref m_firsts, .int (nI q_people), .ref m_secrets, .ref m_tried, .ref m_lanes, .ref m_lengths, .ref m_cells])), (m_hasIf, .inl (E.2.1 3, 16, .inl f_hasIfz_92)), (m_actMany, .inl (E.2.1 1, 25, .inl f_actManyz_93)), (m_actOf, .inl (E.2.1 1, 800, .inl f_actOfz_94)), (m_whom, .inl (E.2.1 1, 800, .inl f_whomz_95))]) C 6 rfl (vp_in_nI (by omega) (by omega)) (ldn2 (by omega) ef_108) rfl dX12_word_131 ?_
                    refine ww_aload_n C dX12_word_132 2 rfl rfl ?_
                    refine ww_get C fg_X12_68 7 rfl rfl dX12_word_133 ?_
                    refine ww_bipush (v := 16) C dX12_word_136 rfl ?_
                    refine ww_iload_n C dX12_word_138 3 rfl rfl ?_
                    refine ww_imul (v := (nI (16 * j_34))) C dX12_word_139 (pk_mul 16 j_34) ?_
                    refine ww_iconst (v := 4) C dX12_word_140 rfl ?_
                    refine ww_iload C dX12_word_141 1 rfl ?_
                    refine ww_imul (v := (nI (4 * i1))) C dX12_word_143 (pk_mul 4 i1) ?_
                    refine ww_iadd (v := (nI ((16 * j_34) + (4 * i1)))) C dX12_word_144 (nI_add (16 * j_34) (4 * i1)) ?_
                    refine ww_iconst (v := 1) C dX12_word_145 rfl ?_
                    refine ww_iadd (v := (nI (((16 * j_34) + (4 * i1)) + 1))) C dX12_word_146 (nI_add ((16 * j_34) + (4 * i1)) 1) ?_
                    refine ww_iload_n C dX12_word_147 4 rfl rfl ?_
                    refine ww_if_ne_t (tgt := 155) C dX12_word_148 (by decide) (by decide) ?_
                    refine ww_iconst (v := 2) C dX12_word_155 rfl ?_
                    obtain ⟨f_109, ef_109⟩ : ∃ z : Nat → Int32, upd f_108 (((16 * j_34) + (4 * i1)) + 1) 2 = z := ⟨_, rfl⟩
                    refine ww_iast (ws' := [(m_tokens, .inl (E.2.1 1, 9, .inl f_tokens)), (m_afters, .inl (E.2.1 1, 9, .inl f_afters)), (m_caseMany, .inl (E.2.1 1, 4, .inl f_caseManyz_75)), (m_happen, .inl (E.2.1 1, 4, .inl f_happenz_76)), (m_becomes, .inl (E.2.1 1, 16, .inl f_becomesz_78)), (m_goneOf, .inl (E.2.1 1, 16, .inl f_goneOfz_79)), (m_heard, .inl (E.2.1 1, 64, .inl f_109)), (hm, .inr (12, [.ref m_manys, .ref m_reals, .ref m_factsOf, .ref m_possible, .int (nI q_undos), .int (nI q_models), .ref m_tape, .int (nI q_taped), .int q_fault, .int q_wrong, .int q_wrongAt, .int q_spot, .int q_place, .int q_token, .int q_value, .ref m_ends, .ref m_letters, .ref m_actOf, .ref m_whom, .ref m_actMany, .ref m_tokens, .ref m_afters, .ref m_afterOf, .int q_counted, .ref m_pile, .ref m_caseMany, .ref m_happen, .ref m_hasIf, .ref m_becomes, .ref m_goneOf, .ref m_heard, .ref m_pairs, .ref m_heaps, .int q_rounds, .int q_heapMany, .ref m_led, .ref m_newAt, .ref m_knowing, .ref m_firsts, .int (nI q_people), .ref m_secrets, .ref m_tried, .ref m_lanes, .ref m_lengths, .ref m_cells])), (m_hasIf, .inl (E.2.1 3, 16, .inl f_hasIfz_92)), (m_actMany, .inl (E.2.1 1, 25, .inl f_actManyz_93)), (m_actOf, .inl (E.2.1 1, 800, .inl f_actOfz_94)), (m_whom, .inl (E.2.1 1, 800, .inl f_whomz_95))]) C 6 rfl (vp_in_nI (by omega) (by omega)) (ldn2 (by omega) ef_109) rfl dX12_word_156 ?_
                    refine ww_iinc (j := 1) (v := (nI (i1 + 1))) (lv' := [(5, .int (nI (i1 + 1))), (6, .int 0), (0, .ref hm), (1, .int (nI j_34)), (2, .int 1), (3, .int (nI j_35)), (4, .int v3)]) C dX12_word_157 rfl (nI_add i1 1) rfl rfl ?_
                    refine ww_goto (tgt := 80) C dX12_word_160 (by decide) ?_
                    exact ww_lv [0, 2, 3, 4, 5, 6] rfl (ww_sub [0, 1, 2, 3, 4, 5, 6, 7, 8, 9, 10, 11] (ndk (by decide +kernel)) (gqk (by eq_refl)) (ih_80 (i1 + 1) f_109 (by omega) (WX.ext hwx (by omega) (by rw [if_neg (by first | (right; exact hasb_1 (by omega) (by assumption) (by assumption) (by omega)) | (rintro (h9 | h9); exact absurd h9 (by decide); rw [hasb_0 (by omega) (by assumption) (by assumption) (by omega)] at h9; cases h9))]) rfl ef_108 ef_109) (by omega)))
                  · have zc_107 : ((j_106 : Nat) : Int) = 1 := i_eq (nI_toInt (n := j_106) (by omega)) rfl c_107
                    refine ww_iconst (v := 1) C dX12_word_97 rfl ?_
                    refine ww_goto (tgt := 102) C dX12_word_98 (by decide) ?_
                    refine ww_istore (lv' := [(6, .int 1), (5, .int (nI i1)), (0, .ref hm), (1, .int (nI j_34)), (2, .int 1), (3, .int (nI j_35)), (4, .int v3)]) C dX12_word_102 rfl rfl ?_
                    refine ww_aload_n C dX12_word_104 2 rfl rfl ?_
                    refine ww_get C fg_X12_68 7 rfl rfl dX12_word_105 ?_
                    refine ww_bipush (v := 16) C dX12_word_108 rfl ?_
                    refine ww_iload_n C dX12_word_110 3 rfl rfl ?_
                    refine ww_imul (v := (nI (16 * j_34))) C dX12_word_111 (pk_mul 16 j_34) ?_
                    refine ww_iconst (v := 4) C dX12_word_112 rfl ?_
                    refine ww_iload C dX12_word_113 1 rfl ?_
                    refine ww_imul (v := (nI (4 * i1))) C dX12_word_115 (pk_mul 4 i1) ?_
                    refine ww_iadd (v := (nI ((16 * j_34) + (4 * i1)))) C dX12_word_116 (nI_add (16 * j_34) (4 * i1)) ?_
                    refine ww_iload_n C dX12_word_117 4 rfl rfl ?_
                    refine ww_if_eq_f (tgt := 126) C dX12_word_118 (by decide) (by decide) ?_
                    refine ww_iload C dX12_word_121 0 rfl ?_
                    refine ww_if_eq_f (tgt := 130) C dX12_word_123 (by decide) (by decide) ?_
                    refine ww_iconst (v := 1) C dX12_word_126 rfl ?_
                    refine ww_goto (tgt := 131) C dX12_word_127 (by decide) ?_
                    obtain ⟨f_110, ef_110⟩ : ∃ z : Nat → Int32, upd g1 ((16 * j_34) + (4 * i1)) 1 = z := ⟨_, rfl⟩
                    refine ww_iast (ws' := [(m_tokens, .inl (E.2.1 1, 9, .inl f_tokens)), (m_afters, .inl (E.2.1 1, 9, .inl f_afters)), (m_caseMany, .inl (E.2.1 1, 4, .inl f_caseManyz_75)), (m_happen, .inl (E.2.1 1, 4, .inl f_happenz_76)), (m_becomes, .inl (E.2.1 1, 16, .inl f_becomesz_78)), (m_goneOf, .inl (E.2.1 1, 16, .inl f_goneOfz_79)), (m_heard, .inl (E.2.1 1, 64, .inl f_110)), (hm, .inr (12, [.ref m_manys, .ref m_reals, .ref m_factsOf, .ref m_possible, .int (nI q_undos), .int (nI q_models), .ref m_tape, .int (nI q_taped), .int q_fault, .int q_wrong, .int q_wrongAt, .int q_spot, .int q_place, .int q_token, .int q_value, .ref m_ends, .ref m_letters, .ref m_actOf, .ref m_whom, .ref m_actMany, .ref m_tokens, .ref m_afters, .ref m_afterOf, .int q_counted, .ref m_pile, .ref m_caseMany, .ref m_happen, .ref m_hasIf, .ref m_becomes, .ref m_goneOf, .ref m_heard, .ref m_pairs, .ref m_heaps, .int q_rounds, .int q_heapMany, .ref m_led, .ref m_newAt, .ref m_knowing, .ref m_firsts, .int (nI q_people), .ref m_secrets, .ref m_tried, .ref m_lanes, .ref m_lengths, .ref m_cells])), (m_hasIf, .inl (E.2.1 3, 16, .inl f_hasIfz_92)), (m_actMany, .inl (E.2.1 1, 25, .inl f_actManyz_93)), (m_actOf, .inl (E.2.1 1, 800, .inl f_actOfz_94)), (m_whom, .inl (E.2.1 1, 800, .inl f_whomz_95))]) C 6 rfl (vp_in_nI (by omega) (by omega)) (ldn2 (by omega) ef_110) rfl dX12_word_131 ?_
                    refine ww_aload_n C dX12_word_132 2 rfl rfl ?_
                    refine ww_get C fg_X12_68 7 rfl rfl dX12_word_133 ?_
                    refine ww_bipush (v := 16) C dX12_word_136 rfl ?_
                    refine ww_iload_n C dX12_word_138 3 rfl rfl ?_
                    refine ww_imul (v := (nI (16 * j_34))) C dX12_word_139 (pk_mul 16 j_34) ?_
                    refine ww_iconst (v := 4) C dX12_word_140 rfl ?_
                    refine ww_iload C dX12_word_141 1 rfl ?_
                    refine ww_imul (v := (nI (4 * i1))) C dX12_word_143 (pk_mul 4 i1) ?_
                    refine ww_iadd (v := (nI ((16 * j_34) + (4 * i1)))) C dX12_word_144 (nI_add (16 * j_34) (4 * i1)) ?_
                    refine ww_iconst (v := 1) C dX12_word_145 rfl ?_
                    refine ww_iadd (v := (nI (((16 * j_34) + (4 * i1)) + 1))) C dX12_word_146 (nI_add ((16 * j_34) + (4 * i1)) 1) ?_
                    refine ww_iload_n C dX12_word_147 4 rfl rfl ?_
                    refine ww_if_ne_t (tgt := 155) C dX12_word_148 (by decide) (by decide) ?_
                    refine ww_iconst (v := 2) C dX12_word_155 rfl ?_
                    obtain ⟨f_111, ef_111⟩ : ∃ z : Nat → Int32, upd f_110 (((16 * j_34) + (4 * i1)) + 1) 2 = z := ⟨_, rfl⟩
                    refine ww_iast (ws' := [(m_tokens, .inl (E.2.1 1, 9, .inl f_tokens)), (m_afters, .inl (E.2.1 1, 9, .inl f_afters)), (m_caseMany, .inl (E.2.1 1, 4, .inl f_caseManyz_75)), (m_happen, .inl (E.2.1 1, 4, .inl f_happenz_76)), (m_becomes, .inl (E.2.1 1, 16, .inl f_becomesz_78)), (m_goneOf, .inl (E.2.1 1, 16, .inl f_goneOfz_79)), (m_heard, .inl (E.2.1 1, 64, .inl f_111)), (hm, .inr (12, [.ref m_manys, .ref m_reals, .ref m_factsOf, .ref m_possible, .int (nI q_undos), .int (nI q_models), .ref m_tape, .int (nI q_taped), .int q_fault, .int q_wrong, .int q_wrongAt, .int q_spot, .int q_place, .int q_token, .int q_value, .ref m_ends, .ref m_letters, .ref m_actOf, .ref m_whom, .ref m_actMany, .ref m_tokens, .ref m_afters, .ref m_afterOf, .int q_counted, .ref m_pile, .ref m_caseMany, .ref m_happen, .ref m_hasIf, .ref m_becomes, .ref m_goneOf, .ref m_heard, .ref m_pairs, .ref m_heaps, .int q_rounds, .int q_heapMany, .ref m_led, .ref m_newAt, .ref m_knowing, .ref m_firsts, .int (nI q_people), .ref m_secrets, .ref m_tried, .ref m_lanes, .ref m_lengths, .ref m_cells])), (m_hasIf, .inl (E.2.1 3, 16, .inl f_hasIfz_92)), (m_actMany, .inl (E.2.1 1, 25, .inl f_actManyz_93)), (m_actOf, .inl (E.2.1 1, 800, .inl f_actOfz_94)), (m_whom, .inl (E.2.1 1, 800, .inl f_whomz_95))]) C 6 rfl (vp_in_nI (by omega) (by omega)) (ldn2 (by omega) ef_111) rfl dX12_word_156 ?_
                    refine ww_iinc (j := 1) (v := (nI (i1 + 1))) (lv' := [(5, .int (nI (i1 + 1))), (6, .int 1), (0, .ref hm), (1, .int (nI j_34)), (2, .int 1), (3, .int (nI j_35)), (4, .int v3)]) C dX12_word_157 rfl (nI_add i1 1) rfl rfl ?_
                    refine ww_goto (tgt := 80) C dX12_word_160 (by decide) ?_
                    exact ww_lv [0, 2, 3, 4, 5, 6] rfl (ww_sub [0, 1, 2, 3, 4, 5, 6, 7, 8, 9, 10, 11] (ndk (by decide +kernel)) (gqk (by eq_refl)) (ih_80 (i1 + 1) f_111 (by omega) (WX.ext hwx (by omega) (by rw [if_pos (by first | (right; exact hasb_1 (by omega) (by assumption) (by assumption) (by omega)) | (rintro (h9 | h9); exact absurd h9 (by decide); rw [hasb_0 (by omega) (by assumption) (by assumption) (by omega)] at h9; cases h9))]) rfl ef_110 ef_111) (by omega)))
            exact ww_lv [0, 1, 2, 3, 4, 5] rfl (ww_sub [0, 1, 2, 3, 4, 5, 6, 7, 8, 9, 10, 11] (ndk (by decide +kernel)) (gqk (by eq_refl)) (loop_80 _ 0 f_heardz_80 (by omega) (WX.nil h_86) (Nat.lt_succ_self _)))
          · refine ww_iload_n C dX12_word_49 2 rfl rfl ?_
            refine ww_if_ne_t (tgt := 57) C dX12_word_50 (by decide) (by decide) ?_
            refine ww_iconst (v := 2) C dX12_word_57 rfl ?_
            refine ww_cv (wr := [(m_actMany, .inl (E.2.1 1, 25, .inl f_actMany)), (m_actOf, .inl (E.2.1 1, 800, .inl f_actOf)), (m_whom, .inl (E.2.1 1, 800, .inl f_whom)), (m_tokens, .inl (E.2.1 1, 9, .inl f_tokens)), (m_afters, .inl (E.2.1 1, 9, .inl f_afters))]) (k' := 0) (n' := 0) C (run_V (As := [.int (nI j_34), .int 2]) (rest := []) C (r_clearEvent X.2.1 E ro hm j_34 2 m_manys m_reals m_factsOf m_possible q_undos q_models m_tape q_taped q_fault q_wrong q_wrongAt q_spot q_place q_token q_value m_ends m_letters m_actOf m_whom m_actMany m_tokens m_afters m_afterOf q_counted m_pile m_caseMany m_happen m_hasIf m_becomes m_goneOf m_heard m_pairs m_heaps q_rounds q_heapMany m_led m_newAt m_knowing m_firsts q_people m_secrets m_tried m_lanes m_lengths m_cells f_caseMany f_happen f_hasIf f_becomes f_goneOf f_heard hb_caseMany hb_happen hhp (by omega) (by omega) (by omega)) mi_X12_clearEvent wl_X12_240 rfl 0 12 rfl rfl rfl rfl rfl dX12_word_58) (roK hro) [9, 0, 1, 2, 3, 4, 5] [6, 7, 8, 10, 11] rfl rfl (plk (by decide +kernel)) rfl (fun uz hw => ?_)
            refine ex6 hw ?_
            clear hw
            intro f_caseManyz_113 f_happenz_114 f_hasIfz_115 f_becomesz_116 f_goneOfz_117 f_heardz_118 hw
            refine an8 hw ?_
            clear hw
            intro he_128 h_119 h_120 h_121 h_122 h_123 h_124 h_125 hw
            refine an1 hw ?_
            clear hw
            intro h_126 hw
            have h_127 := hw
            clear hw
            subst he_128
            refine ww_eq (ws' := [(m_actMany, .inl (E.2.1 1, 25, .inl f_actMany)), (m_actOf, .inl (E.2.1 1, 800, .inl f_actOf)), (m_whom, .inl (E.2.1 1, 800, .inl f_whom)), (m_tokens, .inl (E.2.1 1, 9, .inl f_tokens)), (m_afters, .inl (E.2.1 1, 9, .inl f_afters)), (hm, .inr (12, [.ref m_manys, .ref m_reals, .ref m_factsOf, .ref m_possible, .int (nI q_undos), .int (nI q_models), .ref m_tape, .int (nI q_taped), .int q_fault, .int q_wrong, .int q_wrongAt, .int q_spot, .int q_place, .int q_token, .int q_value, .ref m_ends, .ref m_letters, .ref m_actOf, .ref m_whom, .ref m_actMany, .ref m_tokens, .ref m_afters, .ref m_afterOf, .int q_counted, .ref m_pile, .ref m_caseMany, .ref m_happen, .ref m_hasIf, .ref m_becomes, .ref m_goneOf, .ref m_heard, .ref m_pairs, .ref m_heaps, .int q_rounds, .int q_heapMany, .ref m_led, .ref m_newAt, .ref m_knowing, .ref m_firsts, .int (nI q_people), .ref m_secrets, .ref m_tried, .ref m_lanes, .ref m_lengths, .ref m_cells])), (m_caseMany, .inl (E.2.1 1, 4, .inl f_caseManyz_113)), (m_happen, .inl (E.2.1 1, 4, .inl f_happenz_114)), (m_hasIf, .inl (E.2.1 3, 16, .inl f_hasIfz_115)), (m_becomes, .inl (E.2.1 1, 16, .inl f_becomesz_116)), (m_goneOf, .inl (E.2.1 1, 16, .inl f_goneOfz_117)), (m_heard, .inl (E.2.1 1, 64, .inl f_heardz_118))]) ?_ rfl rfl rfl
            refine ww_aload_n C dX12_word_61 0 rfl rfl ?_
            refine ww_iload_n C dX12_word_62 1 rfl rfl ?_
            refine ww_iload_n C dX12_word_63 2 rfl rfl ?_
            refine ww_iconst (v := 2) C dX12_word_64 rfl ?_
            refine ww_icmp_ne_f (tgt := 72) C dX12_word_65 (by decide) (rfl) ?_
            refine ww_iconst (v := 1) C dX12_word_68 rfl ?_
            refine ww_goto (tgt := 73) C dX12_word_69 (by decide) ?_
            refine ww_iload_n C dX12_word_73 3 rfl rfl ?_
            refine ww_cv (wr := [(m_tokens, .inl (E.2.1 1, 9, .inl f_tokens)), (m_afters, .inl (E.2.1 1, 9, .inl f_afters)), (m_caseMany, .inl (E.2.1 1, 4, .inl f_caseManyz_113)), (m_happen, .inl (E.2.1 1, 4, .inl f_happenz_114)), (m_becomes, .inl (E.2.1 1, 16, .inl f_becomesz_116)), (m_goneOf, .inl (E.2.1 1, 16, .inl f_goneOfz_117)), (m_heard, .inl (E.2.1 1, 64, .inl f_heardz_118))]) (k' := 0) (n' := 0) C (run_V (As := [.int (nI j_34), .int 1, .int (nI j_35)]) (rest := []) C (r_giveIf X.2.1 E ro hm j_34 1 j_35 m_manys m_reals m_factsOf m_possible q_undos q_models m_tape q_taped q_fault q_wrong q_wrongAt q_spot q_place q_token q_value m_ends m_letters m_actOf m_whom m_actMany m_tokens m_afters m_afterOf q_counted m_pile m_caseMany m_happen m_hasIf m_becomes m_goneOf m_heard m_pairs m_heaps q_rounds q_heapMany m_led m_newAt m_knowing m_firsts q_people m_secrets m_tried m_lanes m_lengths m_cells f_hasIfz_115 f_actMany f_actOf f_whom hb_actMany hsv (by omega) (by omega) (by omega)) mi_X12_giveIf wl_X12_250 rfl 0 12 rfl rfl rfl rfl rfl dX12_word_74) (roK hro) [5, 8, 0, 1, 2] [3, 4, 6, 7, 9, 10, 11] rfl rfl (plk (by decide +kernel)) rfl (fun uz hw => ?_)
            refine ex4 hw ?_
            clear hw
            intro f_hasIfz_130 f_actManyz_131 f_actOfz_132 f_whomz_133 hw
            refine an6 hw ?_
            clear hw
            intro he_140 h_134 h_135 h_136 h_137 h_138 hw
            have h_139 := hw
            clear hw
            subst he_140
            refine ww_eq (ws' := [(m_tokens, .inl (E.2.1 1, 9, .inl f_tokens)), (m_afters, .inl (E.2.1 1, 9, .inl f_afters)), (m_caseMany, .inl (E.2.1 1, 4, .inl f_caseManyz_113)), (m_happen, .inl (E.2.1 1, 4, .inl f_happenz_114)), (m_becomes, .inl (E.2.1 1, 16, .inl f_becomesz_116)), (m_goneOf, .inl (E.2.1 1, 16, .inl f_goneOfz_117)), (m_heard, .inl (E.2.1 1, 64, .inl f_heardz_118)), (hm, .inr (12, [.ref m_manys, .ref m_reals, .ref m_factsOf, .ref m_possible, .int (nI q_undos), .int (nI q_models), .ref m_tape, .int (nI q_taped), .int q_fault, .int q_wrong, .int q_wrongAt, .int q_spot, .int q_place, .int q_token, .int q_value, .ref m_ends, .ref m_letters, .ref m_actOf, .ref m_whom, .ref m_actMany, .ref m_tokens, .ref m_afters, .ref m_afterOf, .int q_counted, .ref m_pile, .ref m_caseMany, .ref m_happen, .ref m_hasIf, .ref m_becomes, .ref m_goneOf, .ref m_heard, .ref m_pairs, .ref m_heaps, .int q_rounds, .int q_heapMany, .ref m_led, .ref m_newAt, .ref m_knowing, .ref m_firsts, .int (nI q_people), .ref m_secrets, .ref m_tried, .ref m_lanes, .ref m_lengths, .ref m_cells])), (m_hasIf, .inl (E.2.1 3, 16, .inl f_hasIfz_130)), (m_actMany, .inl (E.2.1 1, 25, .inl f_actManyz_131)), (m_actOf, .inl (E.2.1 1, 800, .inl f_actOfz_132)), (m_whom, .inl (E.2.1 1, 800, .inl f_whomz_133))]) ?_ rfl rfl rfl
            refine ww_iconst (v := 0) C dX12_word_77 rfl ?_
            refine ww_istore (lv' := [(5, .int 0), (0, .ref hm), (1, .int (nI j_34)), (2, .int 2), (3, .int (nI j_35)), (4, .int v3)]) C dX12_word_78 rfl rfl ?_
            have loop_80 : ∀ (fu : Nat) (i1 : Nat) (g1 : Nat → Int32), (i1 ≤ 4) → (WX j_34 2 v3 i1 f_heard g1) → 4 - i1 < fu → WW X 7 E 80 [(5, .int (nI i1)), (0, .ref hm), (1, .int (nI j_34)), (2, .int 2), (3, .int (nI j_35)), (4, .int v3)] [] [(m_tokens, .inl (E.2.1 1, 9, .inl f_tokens)), (m_afters, .inl (E.2.1 1, 9, .inl f_afters)), (m_caseMany, .inl (E.2.1 1, 4, .inl f_caseManyz_113)), (m_happen, .inl (E.2.1 1, 4, .inl f_happenz_114)), (m_becomes, .inl (E.2.1 1, 16, .inl f_becomesz_116)), (m_goneOf, .inl (E.2.1 1, 16, .inl f_goneOfz_117)), (m_heard, .inl (E.2.1 1, 64, .inl g1)), (hm, .inr (12, [.ref m_manys, .ref m_reals, .ref m_factsOf, .ref m_possible, .int (nI q_undos), .int (nI q_models), .ref m_tape, .int (nI q_taped), .int q_fault, .int q_wrong, .int q_wrongAt, .int q_spot, .int q_place, .int q_token, .int q_value, .ref m_ends, .ref m_letters, .ref m_actOf, .ref m_whom, .ref m_actMany, .ref m_tokens, .ref m_afters, .ref m_afterOf, .int q_counted, .ref m_pile, .ref m_caseMany, .ref m_happen, .ref m_hasIf, .ref m_becomes, .ref m_goneOf, .ref m_heard, .ref m_pairs, .ref m_heaps, .int q_rounds, .int q_heapMany, .ref m_led, .ref m_newAt, .ref m_knowing, .ref m_firsts, .int (nI q_people), .ref m_secrets, .ref m_tried, .ref m_lanes, .ref m_lengths, .ref m_cells])), (m_hasIf, .inl (E.2.1 3, 16, .inl f_hasIfz_130)), (m_actMany, .inl (E.2.1 1, 25, .inl f_actManyz_131)), (m_actOf, .inl (E.2.1 1, 800, .inl f_actOfz_132)), (m_whom, .inl (E.2.1 1, 800, .inl f_whomz_133))] 0 0 := by
              intro fu
              induction fu with
              | zero => intro i1 g1 hi1 hwx hmeas; exact absurd hmeas (Nat.not_lt_zero _)
              | succ fu ih_80 =>
                intro i1 g1 hi1 hwx hmeas
                refine ww_iload C dX12_word_80 0 rfl ?_
                refine ww_iconst (v := 4) C dX12_word_82 rfl ?_
                refine ww_icmp_ge (tgt := 163) C dX12_word_83 (by decide) (fun c_141 => ?_) (fun c_141 => ?_)
                · have zc_141 : ((i1 : Nat) : Int) ≥ 4 := i_le rfl (nI_toInt (n := i1) (by omega)) c_141
                  refine ww_aload_n C dX12_word_163 1 rfl rfl ?_
                  refine ww_get C fg_X12_52 7 rfl rfl dX12_word_164 ?_
                  refine ww_iload_n C dX12_word_167 2 rfl rfl ?_
                  have hbx_142 := (h_119 j_34 (by omega)).2
                  refine ww_iald (v := (nI (cN f_caseManyz_113 j_34))) C 2 rfl (vp_in_nI (by omega) (by omega)) (ldn (by omega) (h_119 j_34 (by omega)).1) dX12_word_168 ?_
                  exact ww_iret (u := [(hm, .inr (12, [.ref m_manys, .ref m_reals, .ref m_factsOf, .ref m_possible, .int (nI q_undos), .int (nI q_models), .ref m_tape, .int (nI q_taped), .int q_fault, .int q_wrong, .int q_wrongAt, .int q_spot, .int q_place, .int q_token, .int q_value, .ref m_ends, .ref m_letters, .ref m_actOf, .ref m_whom, .ref m_actMany, .ref m_tokens, .ref m_afters, .ref m_afterOf, .int q_counted, .ref m_pile, .ref m_caseMany, .ref m_happen, .ref m_hasIf, .ref m_becomes, .ref m_goneOf, .ref m_heard, .ref m_pairs, .ref m_heaps, .int q_rounds, .int q_heapMany, .ref m_led, .ref m_newAt, .ref m_knowing, .ref m_firsts, .int (nI q_people), .ref m_secrets, .ref m_tried, .ref m_lanes, .ref m_lengths, .ref m_cells])), (m_caseMany, .inl (E.2.1 1, 4, .inl f_caseManyz_113)), (m_happen, .inl (E.2.1 1, 4, .inl f_happenz_114)), (m_hasIf, .inl (E.2.1 3, 16, .inl f_hasIfz_130)), (m_becomes, .inl (E.2.1 1, 16, .inl f_becomesz_116)), (m_goneOf, .inl (E.2.1 1, 16, .inl f_goneOfz_117)), (m_heard, .inl (E.2.1 1, 64, .inl g1)), (m_actMany, .inl (E.2.1 1, 25, .inl f_actManyz_131)), (m_actOf, .inl (E.2.1 1, 800, .inl f_actOfz_132)), (m_whom, .inl (E.2.1 1, 800, .inl f_whomz_133)), (m_tokens, .inl (E.2.1 1, 9, .inl f_tokens)), (m_afters, .inl (E.2.1 1, 9, .inl f_afters))]) C hT [7, 2, 3, 8, 4, 5, 6, 9, 10, 11, 0, 1] (gqk (by eq_refl)) (ndk (by decide +kernel)) rfl rfl dX12_word_169 (Or.inr ⟨j_34, 2, f_caseManyz_113, f_happenz_114, f_hasIfz_130, f_becomesz_116, f_goneOfz_117, g1, f_actManyz_131, f_actOfz_132, f_whomz_133, rfl, h_119, h_120, h_121, h_134, h_135, h_20, rfl, rfl, (by omega), (by omega), (by omega), h_122, h_123, (by rw [show (4 : Nat) = i1 by omega]; exact hwx), (by rw [cN_s (by decide) h_122]; rfl), ⟨j_35, _, rfl, by omega, h_125, h_136, h_137, h_138, h_139⟩, h_126, h_127⟩)
                · have zc_141 : ((i1 : Nat) : Int) < 4 := i_nle rfl (nI_toInt (n := i1) (by omega)) c_141
                  refine ww_iload C dX12_word_86 5 rfl ?_
                  refine ww_iload C dX12_word_88 0 rfl ?_
                  obtain ⟨x_143, ex_143⟩ : ∃ z : Int32, v3 >>> ((nI i1) &&& 31) = z := ⟨_, rfl⟩
                  refine ww_ishr (v := x_143) C dX12_word_90 ex_143 ?_
                  refine ww_iconst (v := 1) C dX12_word_91 rfl ?_
                  obtain ⟨j_144, hj_144, ej_144⟩ := pk_andE x_143 (m := 1) 1 rfl
                  refine ww_iand (v := (nI j_144)) C dX12_word_92 ej_144 ?_
                  refine ww_iconst (v := 1) C dX12_word_93 rfl ?_
                  refine ww_icmp_ne (tgt := 101) C dX12_word_94 (by decide) (fun c_145 => ?_) (fun c_145 => ?_)
                  · have zc_145 : ((j_144 : Nat) : Int) ≠ 1 := i_ne (nI_toInt (n := j_144) (by omega)) rfl c_145
                    refine ww_iconst (v := 0) C dX12_word_101 rfl ?_
                    refine ww_istore (lv' := [(6, .int 0), (5, .int (nI i1)), (0, .ref hm), (1, .int (nI j_34)), (2, .int 2), (3, .int (nI j_35)), (4, .int v3)]) C dX12_word_102 rfl rfl ?_
                    refine ww_aload_n C dX12_word_104 2 rfl rfl ?_
                    refine ww_get C fg_X12_68 7 rfl rfl dX12_word_105 ?_
                    refine ww_bipush (v := 16) C dX12_word_108 rfl ?_
                    refine ww_iload_n C dX12_word_110 3 rfl rfl ?_
                    refine ww_imul (v := (nI (16 * j_34))) C dX12_word_111 (pk_mul 16 j_34) ?_
                    refine ww_iconst (v := 4) C dX12_word_112 rfl ?_
                    refine ww_iload C dX12_word_113 1 rfl ?_
                    refine ww_imul (v := (nI (4 * i1))) C dX12_word_115 (pk_mul 4 i1) ?_
                    refine ww_iadd (v := (nI ((16 * j_34) + (4 * i1)))) C dX12_word_116 (nI_add (16 * j_34) (4 * i1)) ?_
                    refine ww_iload_n C dX12_word_117 4 rfl rfl ?_
                    refine ww_if_eq_f (tgt := 126) C dX12_word_118 (by decide) (by decide) ?_
                    refine ww_iload C dX12_word_121 0 rfl ?_
                    refine ww_if_eq_t (tgt := 130) C dX12_word_123 (by decide) (rfl) ?_
                    refine ww_iconst (v := 2) C dX12_word_130 rfl ?_
                    obtain ⟨f_146, ef_146⟩ : ∃ z : Nat → Int32, upd g1 ((16 * j_34) + (4 * i1)) 2 = z := ⟨_, rfl⟩
                    refine ww_iast (ws' := [(m_tokens, .inl (E.2.1 1, 9, .inl f_tokens)), (m_afters, .inl (E.2.1 1, 9, .inl f_afters)), (m_caseMany, .inl (E.2.1 1, 4, .inl f_caseManyz_113)), (m_happen, .inl (E.2.1 1, 4, .inl f_happenz_114)), (m_becomes, .inl (E.2.1 1, 16, .inl f_becomesz_116)), (m_goneOf, .inl (E.2.1 1, 16, .inl f_goneOfz_117)), (m_heard, .inl (E.2.1 1, 64, .inl f_146)), (hm, .inr (12, [.ref m_manys, .ref m_reals, .ref m_factsOf, .ref m_possible, .int (nI q_undos), .int (nI q_models), .ref m_tape, .int (nI q_taped), .int q_fault, .int q_wrong, .int q_wrongAt, .int q_spot, .int q_place, .int q_token, .int q_value, .ref m_ends, .ref m_letters, .ref m_actOf, .ref m_whom, .ref m_actMany, .ref m_tokens, .ref m_afters, .ref m_afterOf, .int q_counted, .ref m_pile, .ref m_caseMany, .ref m_happen, .ref m_hasIf, .ref m_becomes, .ref m_goneOf, .ref m_heard, .ref m_pairs, .ref m_heaps, .int q_rounds, .int q_heapMany, .ref m_led, .ref m_newAt, .ref m_knowing, .ref m_firsts, .int (nI q_people), .ref m_secrets, .ref m_tried, .ref m_lanes, .ref m_lengths, .ref m_cells])), (m_hasIf, .inl (E.2.1 3, 16, .inl f_hasIfz_130)), (m_actMany, .inl (E.2.1 1, 25, .inl f_actManyz_131)), (m_actOf, .inl (E.2.1 1, 800, .inl f_actOfz_132)), (m_whom, .inl (E.2.1 1, 800, .inl f_whomz_133))]) C 6 rfl (vp_in_nI (by omega) (by omega)) (ldn2 (by omega) ef_146) rfl dX12_word_131 ?_
                    refine ww_aload_n C dX12_word_132 2 rfl rfl ?_
                    refine ww_get C fg_X12_68 7 rfl rfl dX12_word_133 ?_
                    refine ww_bipush (v := 16) C dX12_word_136 rfl ?_
                    refine ww_iload_n C dX12_word_138 3 rfl rfl ?_
                    refine ww_imul (v := (nI (16 * j_34))) C dX12_word_139 (pk_mul 16 j_34) ?_
                    refine ww_iconst (v := 4) C dX12_word_140 rfl ?_
                    refine ww_iload C dX12_word_141 1 rfl ?_
                    refine ww_imul (v := (nI (4 * i1))) C dX12_word_143 (pk_mul 4 i1) ?_
                    refine ww_iadd (v := (nI ((16 * j_34) + (4 * i1)))) C dX12_word_144 (nI_add (16 * j_34) (4 * i1)) ?_
                    refine ww_iconst (v := 1) C dX12_word_145 rfl ?_
                    refine ww_iadd (v := (nI (((16 * j_34) + (4 * i1)) + 1))) C dX12_word_146 (nI_add ((16 * j_34) + (4 * i1)) 1) ?_
                    refine ww_iload_n C dX12_word_147 4 rfl rfl ?_
                    refine ww_if_ne_t (tgt := 155) C dX12_word_148 (by decide) (by decide) ?_
                    refine ww_iconst (v := 2) C dX12_word_155 rfl ?_
                    obtain ⟨f_147, ef_147⟩ : ∃ z : Nat → Int32, upd f_146 (((16 * j_34) + (4 * i1)) + 1) 2 = z := ⟨_, rfl⟩
                    refine ww_iast (ws' := [(m_tokens, .inl (E.2.1 1, 9, .inl f_tokens)), (m_afters, .inl (E.2.1 1, 9, .inl f_afters)), (m_caseMany, .inl (E.2.1 1, 4, .inl f_caseManyz_113)), (m_happen, .inl (E.2.1 1, 4, .inl f_happenz_114)), (m_becomes, .inl (E.2.1 1, 16, .inl f_becomesz_116)), (m_goneOf, .inl (E.2.1 1, 16, .inl f_goneOfz_117)), (m_heard, .inl (E.2.1 1, 64, .inl f_147)), (hm, .inr (12, [.ref m_manys, .ref m_reals, .ref m_factsOf, .ref m_possible, .int (nI q_undos), .int (nI q_models), .ref m_tape, .int (nI q_taped), .int q_fault, .int q_wrong, .int q_wrongAt, .int q_spot, .int q_place, .int q_token, .int q_value, .ref m_ends, .ref m_letters, .ref m_actOf, .ref m_whom, .ref m_actMany, .ref m_tokens, .ref m_afters, .ref m_afterOf, .int q_counted, .ref m_pile, .ref m_caseMany, .ref m_happen, .ref m_hasIf, .ref m_becomes, .ref m_goneOf, .ref m_heard, .ref m_pairs, .ref m_heaps, .int q_rounds, .int q_heapMany, .ref m_led, .ref m_newAt, .ref m_knowing, .ref m_firsts, .int (nI q_people), .ref m_secrets, .ref m_tried, .ref m_lanes, .ref m_lengths, .ref m_cells])), (m_hasIf, .inl (E.2.1 3, 16, .inl f_hasIfz_130)), (m_actMany, .inl (E.2.1 1, 25, .inl f_actManyz_131)), (m_actOf, .inl (E.2.1 1, 800, .inl f_actOfz_132)), (m_whom, .inl (E.2.1 1, 800, .inl f_whomz_133))]) C 6 rfl (vp_in_nI (by omega) (by omega)) (ldn2 (by omega) ef_147) rfl dX12_word_156 ?_
                    refine ww_iinc (j := 1) (v := (nI (i1 + 1))) (lv' := [(5, .int (nI (i1 + 1))), (6, .int 0), (0, .ref hm), (1, .int (nI j_34)), (2, .int 2), (3, .int (nI j_35)), (4, .int v3)]) C dX12_word_157 rfl (nI_add i1 1) rfl rfl ?_
                    refine ww_goto (tgt := 80) C dX12_word_160 (by decide) ?_
                    exact ww_lv [0, 2, 3, 4, 5, 6] rfl (ww_sub [0, 1, 2, 3, 4, 5, 6, 7, 8, 9, 10, 11] (ndk (by decide +kernel)) (gqk (by eq_refl)) (ih_80 (i1 + 1) f_147 (by omega) (WX.ext hwx (by omega) (by rw [if_neg (by first | (right; exact hasb_1 (by omega) (by assumption) (by assumption) (by omega)) | (rintro (h9 | h9); exact absurd h9 (by decide); rw [hasb_0 (by omega) (by assumption) (by assumption) (by omega)] at h9; cases h9))]) rfl ef_146 ef_147) (by omega)))
                  · have zc_145 : ((j_144 : Nat) : Int) = 1 := i_eq (nI_toInt (n := j_144) (by omega)) rfl c_145
                    refine ww_iconst (v := 1) C dX12_word_97 rfl ?_
                    refine ww_goto (tgt := 102) C dX12_word_98 (by decide) ?_
                    refine ww_istore (lv' := [(6, .int 1), (5, .int (nI i1)), (0, .ref hm), (1, .int (nI j_34)), (2, .int 2), (3, .int (nI j_35)), (4, .int v3)]) C dX12_word_102 rfl rfl ?_
                    refine ww_aload_n C dX12_word_104 2 rfl rfl ?_
                    refine ww_get C fg_X12_68 7 rfl rfl dX12_word_105 ?_
                    refine ww_bipush (v := 16) C dX12_word_108 rfl ?_
                    refine ww_iload_n C dX12_word_110 3 rfl rfl ?_
                    refine ww_imul (v := (nI (16 * j_34))) C dX12_word_111 (pk_mul 16 j_34) ?_
                    refine ww_iconst (v := 4) C dX12_word_112 rfl ?_
                    refine ww_iload C dX12_word_113 1 rfl ?_
                    refine ww_imul (v := (nI (4 * i1))) C dX12_word_115 (pk_mul 4 i1) ?_
                    refine ww_iadd (v := (nI ((16 * j_34) + (4 * i1)))) C dX12_word_116 (nI_add (16 * j_34) (4 * i1)) ?_
                    refine ww_iload_n C dX12_word_117 4 rfl rfl ?_
                    refine ww_if_eq_f (tgt := 126) C dX12_word_118 (by decide) (by decide) ?_
                    refine ww_iload C dX12_word_121 0 rfl ?_
                    refine ww_if_eq_f (tgt := 130) C dX12_word_123 (by decide) (by decide) ?_
                    refine ww_iconst (v := 1) C dX12_word_126 rfl ?_
                    refine ww_goto (tgt := 131) C dX12_word_127 (by decide) ?_
                    obtain ⟨f_148, ef_148⟩ : ∃ z : Nat → Int32, upd g1 ((16 * j_34) + (4 * i1)) 1 = z := ⟨_, rfl⟩
                    refine ww_iast (ws' := [(m_tokens, .inl (E.2.1 1, 9, .inl f_tokens)), (m_afters, .inl (E.2.1 1, 9, .inl f_afters)), (m_caseMany, .inl (E.2.1 1, 4, .inl f_caseManyz_113)), (m_happen, .inl (E.2.1 1, 4, .inl f_happenz_114)), (m_becomes, .inl (E.2.1 1, 16, .inl f_becomesz_116)), (m_goneOf, .inl (E.2.1 1, 16, .inl f_goneOfz_117)), (m_heard, .inl (E.2.1 1, 64, .inl f_148)), (hm, .inr (12, [.ref m_manys, .ref m_reals, .ref m_factsOf, .ref m_possible, .int (nI q_undos), .int (nI q_models), .ref m_tape, .int (nI q_taped), .int q_fault, .int q_wrong, .int q_wrongAt, .int q_spot, .int q_place, .int q_token, .int q_value, .ref m_ends, .ref m_letters, .ref m_actOf, .ref m_whom, .ref m_actMany, .ref m_tokens, .ref m_afters, .ref m_afterOf, .int q_counted, .ref m_pile, .ref m_caseMany, .ref m_happen, .ref m_hasIf, .ref m_becomes, .ref m_goneOf, .ref m_heard, .ref m_pairs, .ref m_heaps, .int q_rounds, .int q_heapMany, .ref m_led, .ref m_newAt, .ref m_knowing, .ref m_firsts, .int (nI q_people), .ref m_secrets, .ref m_tried, .ref m_lanes, .ref m_lengths, .ref m_cells])), (m_hasIf, .inl (E.2.1 3, 16, .inl f_hasIfz_130)), (m_actMany, .inl (E.2.1 1, 25, .inl f_actManyz_131)), (m_actOf, .inl (E.2.1 1, 800, .inl f_actOfz_132)), (m_whom, .inl (E.2.1 1, 800, .inl f_whomz_133))]) C 6 rfl (vp_in_nI (by omega) (by omega)) (ldn2 (by omega) ef_148) rfl dX12_word_131 ?_
                    refine ww_aload_n C dX12_word_132 2 rfl rfl ?_
                    refine ww_get C fg_X12_68 7 rfl rfl dX12_word_133 ?_
                    refine ww_bipush (v := 16) C dX12_word_136 rfl ?_
                    refine ww_iload_n C dX12_word_138 3 rfl rfl ?_
                    refine ww_imul (v := (nI (16 * j_34))) C dX12_word_139 (pk_mul 16 j_34) ?_
                    refine ww_iconst (v := 4) C dX12_word_140 rfl ?_
                    refine ww_iload C dX12_word_141 1 rfl ?_
                    refine ww_imul (v := (nI (4 * i1))) C dX12_word_143 (pk_mul 4 i1) ?_
                    refine ww_iadd (v := (nI ((16 * j_34) + (4 * i1)))) C dX12_word_144 (nI_add (16 * j_34) (4 * i1)) ?_
                    refine ww_iconst (v := 1) C dX12_word_145 rfl ?_
                    refine ww_iadd (v := (nI (((16 * j_34) + (4 * i1)) + 1))) C dX12_word_146 (nI_add ((16 * j_34) + (4 * i1)) 1) ?_
                    refine ww_iload_n C dX12_word_147 4 rfl rfl ?_
                    refine ww_if_ne_t (tgt := 155) C dX12_word_148 (by decide) (by decide) ?_
                    refine ww_iconst (v := 2) C dX12_word_155 rfl ?_
                    obtain ⟨f_149, ef_149⟩ : ∃ z : Nat → Int32, upd f_148 (((16 * j_34) + (4 * i1)) + 1) 2 = z := ⟨_, rfl⟩
                    refine ww_iast (ws' := [(m_tokens, .inl (E.2.1 1, 9, .inl f_tokens)), (m_afters, .inl (E.2.1 1, 9, .inl f_afters)), (m_caseMany, .inl (E.2.1 1, 4, .inl f_caseManyz_113)), (m_happen, .inl (E.2.1 1, 4, .inl f_happenz_114)), (m_becomes, .inl (E.2.1 1, 16, .inl f_becomesz_116)), (m_goneOf, .inl (E.2.1 1, 16, .inl f_goneOfz_117)), (m_heard, .inl (E.2.1 1, 64, .inl f_149)), (hm, .inr (12, [.ref m_manys, .ref m_reals, .ref m_factsOf, .ref m_possible, .int (nI q_undos), .int (nI q_models), .ref m_tape, .int (nI q_taped), .int q_fault, .int q_wrong, .int q_wrongAt, .int q_spot, .int q_place, .int q_token, .int q_value, .ref m_ends, .ref m_letters, .ref m_actOf, .ref m_whom, .ref m_actMany, .ref m_tokens, .ref m_afters, .ref m_afterOf, .int q_counted, .ref m_pile, .ref m_caseMany, .ref m_happen, .ref m_hasIf, .ref m_becomes, .ref m_goneOf, .ref m_heard, .ref m_pairs, .ref m_heaps, .int q_rounds, .int q_heapMany, .ref m_led, .ref m_newAt, .ref m_knowing, .ref m_firsts, .int (nI q_people), .ref m_secrets, .ref m_tried, .ref m_lanes, .ref m_lengths, .ref m_cells])), (m_hasIf, .inl (E.2.1 3, 16, .inl f_hasIfz_130)), (m_actMany, .inl (E.2.1 1, 25, .inl f_actManyz_131)), (m_actOf, .inl (E.2.1 1, 800, .inl f_actOfz_132)), (m_whom, .inl (E.2.1 1, 800, .inl f_whomz_133))]) C 6 rfl (vp_in_nI (by omega) (by omega)) (ldn2 (by omega) ef_149) rfl dX12_word_156 ?_
                    refine ww_iinc (j := 1) (v := (nI (i1 + 1))) (lv' := [(5, .int (nI (i1 + 1))), (6, .int 1), (0, .ref hm), (1, .int (nI j_34)), (2, .int 2), (3, .int (nI j_35)), (4, .int v3)]) C dX12_word_157 rfl (nI_add i1 1) rfl rfl ?_
                    refine ww_goto (tgt := 80) C dX12_word_160 (by decide) ?_
                    exact ww_lv [0, 2, 3, 4, 5, 6] rfl (ww_sub [0, 1, 2, 3, 4, 5, 6, 7, 8, 9, 10, 11] (ndk (by decide +kernel)) (gqk (by eq_refl)) (ih_80 (i1 + 1) f_149 (by omega) (WX.ext hwx (by omega) (by rw [if_pos (by first | (right; exact hasb_1 (by omega) (by assumption) (by assumption) (by omega)) | (rintro (h9 | h9); exact absurd h9 (by decide); rw [hasb_0 (by omega) (by assumption) (by assumption) (by omega)] at h9; cases h9))]) rfl ef_148 ef_149) (by omega)))
            exact ww_lv [0, 1, 2, 3, 4, 5] rfl (ww_sub [0, 1, 2, 3, 4, 5, 6, 7, 8, 9, 10, 11] (ndk (by decide +kernel)) (gqk (by eq_refl)) (loop_80 _ 0 f_heardz_118 (by omega) (WX.nil h_124) (Nat.lt_succ_self _)))
        · refine an2 hw ?_
          clear hw
          intro he_32 he_33 hw
          have h_31 := hw
          clear hw
          have he_32 := he_32.symm
          subst he_32
          subst he_33
          refine ww_eq (ws' := [(m_caseMany, .inl (E.2.1 1, 4, .inl f_caseMany)), (m_happen, .inl (E.2.1 1, 4, .inl f_happen)), (m_hasIf, .inl (E.2.1 3, 16, .inl f_hasIf)), (m_becomes, .inl (E.2.1 1, 16, .inl f_becomes)), (m_goneOf, .inl (E.2.1 1, 16, .inl f_goneOf)), (m_heard, .inl (E.2.1 1, 64, .inl f_heard)), (m_actMany, .inl (E.2.1 1, 25, .inl f_actMany)), (m_actOf, .inl (E.2.1 1, 800, .inl f_actOf)), (m_whom, .inl (E.2.1 1, 800, .inl f_whom)), (hm, .inr (12, [.ref m_manys, .ref m_reals, .ref m_factsOf, .ref m_possible, .int (nI q_undos), .int (nI q_models), .ref m_tape, .int (nI q_taped), .int q_fault, .int q_wrong, .int q_wrongAt, .int q_spot, .int q_place, .int q_token, .int q_value, .ref m_ends, .ref m_letters, .ref m_actOf, .ref m_whom, .ref m_actMany, .ref m_tokens, .ref m_afters, .ref m_afterOf, .int q_counted, .ref m_pile, .ref m_caseMany, .ref m_happen, .ref m_hasIf, .ref m_becomes, .ref m_goneOf, .ref m_heard, .ref m_pairs, .ref m_heaps, .int q_rounds, .int q_heapMany, .ref m_led, .ref m_newAt, .ref m_knowing, .ref m_firsts, .int (nI q_people), .ref m_secrets, .ref m_tried, .ref m_lanes, .ref m_lengths, .ref m_cells])), (m_tokens, .inl (E.2.1 1, 9, .inl f_tokens)), (m_afters, .inl (E.2.1 1, 9, .inl f_afters))]) ?_ rfl rfl rfl
          refine ww_if_ne_f (tgt := 47) C dX12_word_42 (by decide) (rfl) ?_
          refine ww_iconst (v := (-1)) C dX12_word_45 rfl ?_
          exact ww_iret (u := [(hm, .inr (12, [.ref m_manys, .ref m_reals, .ref m_factsOf, .ref m_possible, .int (nI q_undos), .int (nI q_models), .ref m_tape, .int (nI q_taped), .int q_fault, .int q_wrong, .int q_wrongAt, .int q_spot, .int q_place, .int q_token, .int q_value, .ref m_ends, .ref m_letters, .ref m_actOf, .ref m_whom, .ref m_actMany, .ref m_tokens, .ref m_afters, .ref m_afterOf, .int q_counted, .ref m_pile, .ref m_caseMany, .ref m_happen, .ref m_hasIf, .ref m_becomes, .ref m_goneOf, .ref m_heard, .ref m_pairs, .ref m_heaps, .int q_rounds, .int q_heapMany, .ref m_led, .ref m_newAt, .ref m_knowing, .ref m_firsts, .int (nI q_people), .ref m_secrets, .ref m_tried, .ref m_lanes, .ref m_lengths, .ref m_cells])), (m_caseMany, .inl (E.2.1 1, 4, .inl f_caseMany)), (m_happen, .inl (E.2.1 1, 4, .inl f_happen)), (m_hasIf, .inl (E.2.1 3, 16, .inl f_hasIf)), (m_becomes, .inl (E.2.1 1, 16, .inl f_becomes)), (m_goneOf, .inl (E.2.1 1, 16, .inl f_goneOf)), (m_heard, .inl (E.2.1 1, 64, .inl f_heard)), (m_actMany, .inl (E.2.1 1, 25, .inl f_actMany)), (m_actOf, .inl (E.2.1 1, 800, .inl f_actOf)), (m_whom, .inl (E.2.1 1, 800, .inl f_whom)), (m_tokens, .inl (E.2.1 1, 9, .inl f_tokens)), (m_afters, .inl (E.2.1 1, 9, .inl f_afters))]) C hT [9, 0, 1, 2, 3, 4, 5, 6, 7, 8, 10, 11] (gqk (by eq_refl)) (ndk (by decide +kernel)) rfl rfl dX12_word_46 (Or.inl ⟨rfl, rfl, (Or.inr (Or.inr (Or.inr (Or.inr (Or.inr (by omega))))))⟩)
      · refine an2 hw ?_
        clear hw
        intro he_24 he_25 hw
        have h_23 := hw
        clear hw
        have he_24 := he_24.symm
        subst he_24
        subst he_25
        refine ww_eq (ws' := [(m_caseMany, .inl (E.2.1 1, 4, .inl f_caseMany)), (m_happen, .inl (E.2.1 1, 4, .inl f_happen)), (m_hasIf, .inl (E.2.1 3, 16, .inl f_hasIf)), (m_becomes, .inl (E.2.1 1, 16, .inl f_becomes)), (m_goneOf, .inl (E.2.1 1, 16, .inl f_goneOf)), (m_heard, .inl (E.2.1 1, 64, .inl f_heard)), (m_actMany, .inl (E.2.1 1, 25, .inl f_actMany)), (m_actOf, .inl (E.2.1 1, 800, .inl f_actOf)), (m_whom, .inl (E.2.1 1, 800, .inl f_whom)), (hm, .inr (12, [.ref m_manys, .ref m_reals, .ref m_factsOf, .ref m_possible, .int (nI q_undos), .int (nI q_models), .ref m_tape, .int (nI q_taped), .int q_fault, .int q_wrong, .int q_wrongAt, .int q_spot, .int q_place, .int q_token, .int q_value, .ref m_ends, .ref m_letters, .ref m_actOf, .ref m_whom, .ref m_actMany, .ref m_tokens, .ref m_afters, .ref m_afterOf, .int q_counted, .ref m_pile, .ref m_caseMany, .ref m_happen, .ref m_hasIf, .ref m_becomes, .ref m_goneOf, .ref m_heard, .ref m_pairs, .ref m_heaps, .int q_rounds, .int q_heapMany, .ref m_led, .ref m_newAt, .ref m_knowing, .ref m_firsts, .int (nI q_people), .ref m_secrets, .ref m_tried, .ref m_lanes, .ref m_lengths, .ref m_cells])), (m_tokens, .inl (E.2.1 1, 9, .inl f_tokens)), (m_afters, .inl (E.2.1 1, 9, .inl f_afters))]) ?_ rfl rfl rfl
        refine ww_if_eq_t (tgt := 45) C dX12_word_29 (by decide) (rfl) ?_
        refine ww_iconst (v := (-1)) C dX12_word_45 rfl ?_
        exact ww_iret (u := [(hm, .inr (12, [.ref m_manys, .ref m_reals, .ref m_factsOf, .ref m_possible, .int (nI q_undos), .int (nI q_models), .ref m_tape, .int (nI q_taped), .int q_fault, .int q_wrong, .int q_wrongAt, .int q_spot, .int q_place, .int q_token, .int q_value, .ref m_ends, .ref m_letters, .ref m_actOf, .ref m_whom, .ref m_actMany, .ref m_tokens, .ref m_afters, .ref m_afterOf, .int q_counted, .ref m_pile, .ref m_caseMany, .ref m_happen, .ref m_hasIf, .ref m_becomes, .ref m_goneOf, .ref m_heard, .ref m_pairs, .ref m_heaps, .int q_rounds, .int q_heapMany, .ref m_led, .ref m_newAt, .ref m_knowing, .ref m_firsts, .int (nI q_people), .ref m_secrets, .ref m_tried, .ref m_lanes, .ref m_lengths, .ref m_cells])), (m_caseMany, .inl (E.2.1 1, 4, .inl f_caseMany)), (m_happen, .inl (E.2.1 1, 4, .inl f_happen)), (m_hasIf, .inl (E.2.1 3, 16, .inl f_hasIf)), (m_becomes, .inl (E.2.1 1, 16, .inl f_becomes)), (m_goneOf, .inl (E.2.1 1, 16, .inl f_goneOf)), (m_heard, .inl (E.2.1 1, 64, .inl f_heard)), (m_actMany, .inl (E.2.1 1, 25, .inl f_actMany)), (m_actOf, .inl (E.2.1 1, 800, .inl f_actOf)), (m_whom, .inl (E.2.1 1, 800, .inl f_whom)), (m_tokens, .inl (E.2.1 1, 9, .inl f_tokens)), (m_afters, .inl (E.2.1 1, 9, .inl f_afters))]) C hT [9, 0, 1, 2, 3, 4, 5, 6, 7, 8, 10, 11] (gqk (by eq_refl)) (ndk (by decide +kernel)) rfl rfl dX12_word_46 (Or.inl ⟨rfl, rfl, (Or.inr (Or.inr (Or.inr (Or.inr (Or.inl h_23)))))⟩)
    · refine an2 hw ?_
      clear hw
      intro he_15 he_16 hw
      have h_14 := hw
      clear hw
      have he_15 := he_15.symm
      subst he_15
      subst he_16
      refine ww_eq (ws' := [(hm, .inr (12, [.ref m_manys, .ref m_reals, .ref m_factsOf, .ref m_possible, .int (nI q_undos), .int (nI q_models), .ref m_tape, .int (nI q_taped), .int q_fault, .int q_wrong, .int q_wrongAt, .int q_spot, .int q_place, .int q_token, .int q_value, .ref m_ends, .ref m_letters, .ref m_actOf, .ref m_whom, .ref m_actMany, .ref m_tokens, .ref m_afters, .ref m_afterOf, .int q_counted, .ref m_pile, .ref m_caseMany, .ref m_happen, .ref m_hasIf, .ref m_becomes, .ref m_goneOf, .ref m_heard, .ref m_pairs, .ref m_heaps, .int q_rounds, .int q_heapMany, .ref m_led, .ref m_newAt, .ref m_knowing, .ref m_firsts, .int (nI q_people), .ref m_secrets, .ref m_tried, .ref m_lanes, .ref m_lengths, .ref m_cells])), (m_caseMany, .inl (E.2.1 1, 4, .inl f_caseMany)), (m_happen, .inl (E.2.1 1, 4, .inl f_happen)), (m_hasIf, .inl (E.2.1 3, 16, .inl f_hasIf)), (m_becomes, .inl (E.2.1 1, 16, .inl f_becomes)), (m_goneOf, .inl (E.2.1 1, 16, .inl f_goneOf)), (m_heard, .inl (E.2.1 1, 64, .inl f_heard)), (m_actMany, .inl (E.2.1 1, 25, .inl f_actMany)), (m_actOf, .inl (E.2.1 1, 800, .inl f_actOf)), (m_whom, .inl (E.2.1 1, 800, .inl f_whom)), (m_tokens, .inl (E.2.1 1, 9, .inl f_tokens)), (m_afters, .inl (E.2.1 1, 9, .inl f_afters))]) ?_ rfl rfl rfl
      refine ww_if_eq_t (tgt := 45) C dX12_word_21 (by decide) (rfl) ?_
      refine ww_iconst (v := (-1)) C dX12_word_45 rfl ?_
      exact ww_iret (u := [(hm, .inr (12, [.ref m_manys, .ref m_reals, .ref m_factsOf, .ref m_possible, .int (nI q_undos), .int (nI q_models), .ref m_tape, .int (nI q_taped), .int q_fault, .int q_wrong, .int q_wrongAt, .int q_spot, .int q_place, .int q_token, .int q_value, .ref m_ends, .ref m_letters, .ref m_actOf, .ref m_whom, .ref m_actMany, .ref m_tokens, .ref m_afters, .ref m_afterOf, .int q_counted, .ref m_pile, .ref m_caseMany, .ref m_happen, .ref m_hasIf, .ref m_becomes, .ref m_goneOf, .ref m_heard, .ref m_pairs, .ref m_heaps, .int q_rounds, .int q_heapMany, .ref m_led, .ref m_newAt, .ref m_knowing, .ref m_firsts, .int (nI q_people), .ref m_secrets, .ref m_tried, .ref m_lanes, .ref m_lengths, .ref m_cells])), (m_caseMany, .inl (E.2.1 1, 4, .inl f_caseMany)), (m_happen, .inl (E.2.1 1, 4, .inl f_happen)), (m_hasIf, .inl (E.2.1 3, 16, .inl f_hasIf)), (m_becomes, .inl (E.2.1 1, 16, .inl f_becomes)), (m_goneOf, .inl (E.2.1 1, 16, .inl f_goneOf)), (m_heard, .inl (E.2.1 1, 64, .inl f_heard)), (m_actMany, .inl (E.2.1 1, 25, .inl f_actMany)), (m_actOf, .inl (E.2.1 1, 800, .inl f_actOf)), (m_whom, .inl (E.2.1 1, 800, .inl f_whom)), (m_tokens, .inl (E.2.1 1, 9, .inl f_tokens)), (m_afters, .inl (E.2.1 1, 9, .inl f_afters))]) C hT [0, 1, 2, 3, 4, 5, 6, 7, 8, 9, 10, 11] (gqk (by eq_refl)) (ndk (by decide +kernel)) rfl rfl dX12_word_46 (Or.inl ⟨rfl, rfl, (by rcases (show v0.toInt < 0 ∨ 3 < v0.toInt ∨ v1.toInt < 0 ∨ 2 < v1.toInt by omega) with h9 | h9 | h9 | h9; exact Or.inl h9; exact Or.inr (Or.inl h9); exact Or.inr (Or.inr (Or.inl h9)); exact Or.inr (Or.inr (Or.inr (Or.inl h9))))⟩)
  · refine an2 hw ?_
    clear hw
    intro he_7 he_8 hw
    have h_6 := hw
    clear hw
    have he_7 := he_7.symm
    subst he_7
    subst he_8
    refine ww_eq (ws' := [(hm, .inr (12, [.ref m_manys, .ref m_reals, .ref m_factsOf, .ref m_possible, .int (nI q_undos), .int (nI q_models), .ref m_tape, .int (nI q_taped), .int q_fault, .int q_wrong, .int q_wrongAt, .int q_spot, .int q_place, .int q_token, .int q_value, .ref m_ends, .ref m_letters, .ref m_actOf, .ref m_whom, .ref m_actMany, .ref m_tokens, .ref m_afters, .ref m_afterOf, .int q_counted, .ref m_pile, .ref m_caseMany, .ref m_happen, .ref m_hasIf, .ref m_becomes, .ref m_goneOf, .ref m_heard, .ref m_pairs, .ref m_heaps, .int q_rounds, .int q_heapMany, .ref m_led, .ref m_newAt, .ref m_knowing, .ref m_firsts, .int (nI q_people), .ref m_secrets, .ref m_tried, .ref m_lanes, .ref m_lengths, .ref m_cells])), (m_caseMany, .inl (E.2.1 1, 4, .inl f_caseMany)), (m_happen, .inl (E.2.1 1, 4, .inl f_happen)), (m_hasIf, .inl (E.2.1 3, 16, .inl f_hasIf)), (m_becomes, .inl (E.2.1 1, 16, .inl f_becomes)), (m_goneOf, .inl (E.2.1 1, 16, .inl f_goneOf)), (m_heard, .inl (E.2.1 1, 64, .inl f_heard)), (m_actMany, .inl (E.2.1 1, 25, .inl f_actMany)), (m_actOf, .inl (E.2.1 1, 800, .inl f_actOf)), (m_whom, .inl (E.2.1 1, 800, .inl f_whom)), (m_tokens, .inl (E.2.1 1, 9, .inl f_tokens)), (m_afters, .inl (E.2.1 1, 9, .inl f_afters))]) ?_ rfl rfl rfl
    refine ww_if_eq_t (tgt := 45) C dX12_word_9 (by decide) (rfl) ?_
    refine ww_iconst (v := (-1)) C dX12_word_45 rfl ?_
    exact ww_iret (u := [(hm, .inr (12, [.ref m_manys, .ref m_reals, .ref m_factsOf, .ref m_possible, .int (nI q_undos), .int (nI q_models), .ref m_tape, .int (nI q_taped), .int q_fault, .int q_wrong, .int q_wrongAt, .int q_spot, .int q_place, .int q_token, .int q_value, .ref m_ends, .ref m_letters, .ref m_actOf, .ref m_whom, .ref m_actMany, .ref m_tokens, .ref m_afters, .ref m_afterOf, .int q_counted, .ref m_pile, .ref m_caseMany, .ref m_happen, .ref m_hasIf, .ref m_becomes, .ref m_goneOf, .ref m_heard, .ref m_pairs, .ref m_heaps, .int q_rounds, .int q_heapMany, .ref m_led, .ref m_newAt, .ref m_knowing, .ref m_firsts, .int (nI q_people), .ref m_secrets, .ref m_tried, .ref m_lanes, .ref m_lengths, .ref m_cells])), (m_caseMany, .inl (E.2.1 1, 4, .inl f_caseMany)), (m_happen, .inl (E.2.1 1, 4, .inl f_happen)), (m_hasIf, .inl (E.2.1 3, 16, .inl f_hasIf)), (m_becomes, .inl (E.2.1 1, 16, .inl f_becomes)), (m_goneOf, .inl (E.2.1 1, 16, .inl f_goneOf)), (m_heard, .inl (E.2.1 1, 64, .inl f_heard)), (m_actMany, .inl (E.2.1 1, 25, .inl f_actMany)), (m_actOf, .inl (E.2.1 1, 800, .inl f_actOf)), (m_whom, .inl (E.2.1 1, 800, .inl f_whom)), (m_tokens, .inl (E.2.1 1, 9, .inl f_tokens)), (m_afters, .inl (E.2.1 1, 9, .inl f_afters))]) C hT [0, 1, 2, 3, 4, 5, 6, 7, 8, 9, 10, 11] (gqk (by eq_refl)) (ndk (by decide +kernel)) rfl rfl dX12_word_46 (Or.inl ⟨rfl, rfl, (by rcases (show v0.toInt < 0 ∨ 3 < v0.toInt ∨ v1.toInt < 0 ∨ 2 < v1.toInt by omega) with h9 | h9 | h9 | h9; exact Or.inl h9; exact Or.inr (Or.inl h9); exact Or.inr (Or.inr (Or.inl h9)); exact Or.inr (Or.inr (Or.inr (Or.inl h9))))⟩)
