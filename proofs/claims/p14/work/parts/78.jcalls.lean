section
theorem dX12_people_0 : decode cX12_people 0 = .ok (.iload_n 1, 1) := dl_27 (by decide +kernel)
theorem dX12_people_1 : decode cX12_people 1 = .ok (.i2l, 1) := dl_133 (by decide +kernel)
theorem dX12_people_2 : decode cX12_people 2 = .ok (.ldc2_w 254, 3) := dl_20 (by decide +kernel)
theorem dX12_people_5 : decode cX12_people 5 = .ok (.ldc2_w 149, 3) := dl_20 (by decide +kernel)
theorem dX12_people_8 : decode cX12_people 8 = .ok (.invokestatic 115, 3) := dl_184 (by decide +kernel)
theorem dX12_people_11 : decode cX12_people 11 = .ok (.ifCond .ne 5, 3) := dl_154 (by decide +kernel)
theorem dX12_people_16 : decode cX12_people 16 = .ok (.aload_n 0, 1) := dl_42 (by decide +kernel)
theorem dX12_people_17 : decode cX12_people 17 = .ok (.iload_n 1, 1) := dl_27 (by decide +kernel)
theorem dX12_people_18 : decode cX12_people 18 = .ok (.putfield 332, 3) := dl_181 (by decide +kernel)
theorem wf_X12_332 : Cond.fieldLink RX12 332 RX12 "people" "I" ∈ TB := tbm (tq5 (List.mem_of_getElem? (i := 117) (by decide +kernel))) (by decide +kernel)
theorem fp_X12_332 : FP RX12 332 12 39 .int false := ⟨RX12, TX12, 45, tyX12, uw_X12, wf_X12_332, rfl, by decide, rfl, tyX12_ok, nmX12, rfl, by decide +kernel⟩
theorem dX12_people_21 : decode cX12_people 21 = .ok (.iconst 0, 1) := dl_3 (by decide +kernel)
theorem dX12_people_22 : decode cX12_people 22 = .ok (.istore_n 2, 1) := dl_61 (by decide +kernel)
theorem dX12_people_23 : decode cX12_people 23 = .ok (.iload_n 2, 1) := dl_28 (by decide +kernel)
theorem dX12_people_24 : decode cX12_people 24 = .ok (.iload_n 1, 1) := dl_27 (by decide +kernel)
theorem dX12_people_25 : decode cX12_people 25 = .ok (.if_icmp .ge 18, 3) := dl_162 (by decide +kernel)
theorem dX12_people_28 : decode cX12_people 28 = .ok (.aload_n 0, 1) := dl_42 (by decide +kernel)
theorem dX12_people_29 : decode cX12_people 29 = .ok (.getfield 90, 3) := dl_180 (by decide +kernel)
theorem wf_X12_90 : Cond.fieldLink RX12 90 RX12 "secrets" "[I" ∈ TB := tbm (tq5 (List.mem_of_getElem? (i := 118) (by decide +kernel))) (by decide +kernel)
theorem fg_X12_90 : FG RX12 90 12 40 := ⟨RX12, TX12, 45, uw_X12, wf_X12_90, rfl, by decide, rfl⟩
theorem dX12_people_32 : decode cX12_people 32 = .ok (.iload_n 2, 1) := dl_28 (by decide +kernel)
theorem dX12_people_33 : decode cX12_people 33 = .ok (.iconst 1, 1) := dl_4 (by decide +kernel)
theorem dX12_people_34 : decode cX12_people 34 = .ok (.iload_n 2, 1) := dl_28 (by decide +kernel)
theorem dX12_people_35 : decode cX12_people 35 = .ok (.ishl, 1) := dl_120 (by decide +kernel)
theorem dX12_people_36 : decode cX12_people 36 = .ok (.iastore, 1) := dl_79 (by decide +kernel)
theorem dX12_people_37 : decode cX12_people 37 = .ok (.iinc 2 1, 3) := dl_132 (by decide +kernel)
theorem dX12_people_40 : decode cX12_people 40 = .ok (.goto (-17), 3) := dl_167 (by decide +kernel)
theorem dX12_people_43 : decode cX12_people 43 = .ok (.iload_n 1, 1) := dl_27 (by decide +kernel)
theorem dX12_people_44 : decode cX12_people 44 = .ok (.ireturn, 1) := dl_172 (by decide +kernel)
theorem dX12_people_14 : decode cX12_people 14 = .ok (.iconst (-1), 1) := dl_2 (by decide +kernel)
theorem dX12_people_15 : decode cX12_people 15 = .ok (.ireturn, 1) := dl_172 (by decide +kernel)
set_option maxRecDepth 100000 in
set_option maxHeartbeats 4000000 in
theorem y_people (l : Launch) (E : EV) (ro : va_W) (hm : Nat) (v0 : Int32) (m_manys : Nat) (m_reals : Nat) (m_factsOf : Nat) (m_possible : Nat) (q_undos : Nat) (q_models : Nat) (m_tape : Nat) (q_taped : Nat) (q_fault : Int32) (q_wrong : Int32) (q_wrongAt : Int32) (q_spot : Int32) (q_place : Int32) (q_token : Int32) (q_value : Int32) (m_ends : Nat) (m_letters : Nat) (m_actOf : Nat) (m_whom : Nat) (m_actMany : Nat) (m_tokens : Nat) (m_afters : Nat) (m_afterOf : Nat) (q_counted : Int32) (m_pile : Nat) (m_caseMany : Nat) (m_happen : Nat) (m_hasIf : Nat) (m_becomes : Nat) (m_goneOf : Nat) (m_heard : Nat) (m_pairs : Nat) (m_heaps : Nat) (q_rounds : Int32) (q_heapMany : Int32) (m_led : Nat) (m_newAt : Nat) (m_knowing : Nat) (m_firsts : Nat) (q_people : Nat) (m_secrets : Nat) (m_tried : Nat) (m_lanes : Nat) (m_lengths : Nat) (m_cells : Nat) (f_secrets : Nat → Int32) (hq_people : q_people ≤ 4) : CT l yX12_people (Cond.code yX12_people cX12_people 3 (some .int) :: TB) ({ frames := 1, cells := 0, slots := 0, locals := 25 }) E ro [.ref hm, .int v0] [(hm, .inr (12, [.ref m_manys, .ref m_reals, .ref m_factsOf, .ref m_possible, .int (nI q_undos), .int (nI q_models), .ref m_tape, .int (nI q_taped), .int q_fault, .int q_wrong, .int q_wrongAt, .int q_spot, .int q_place, .int q_token, .int q_value, .ref m_ends, .ref m_letters, .ref m_actOf, .ref m_whom, .ref m_actMany, .ref m_tokens, .ref m_afters, .ref m_afterOf, .int q_counted, .ref m_pile, .ref m_caseMany, .ref m_happen, .ref m_hasIf, .ref m_becomes, .ref m_goneOf, .ref m_heard, .ref m_pairs, .ref m_heaps, .int q_rounds, .int q_heapMany, .ref m_led, .ref m_newAt, .ref m_knowing, .ref m_firsts, .int (nI q_people), .ref m_secrets, .ref m_tried, .ref m_lanes, .ref m_lengths, .ref m_cells])), (m_secrets, .inl (E.2.1 1, 4, .inl f_secrets))] (Qi E (fun (rz : Int32) uz => (rz = (-1) ∧ uz = [(hm, .inr (12, [.ref m_manys, .ref m_reals, .ref m_factsOf, .ref m_possible, .int (nI q_undos), .int (nI q_models), .ref m_tape, .int (nI q_taped), .int q_fault, .int q_wrong, .int q_wrongAt, .int q_spot, .int q_place, .int q_token, .int q_value, .ref m_ends, .ref m_letters, .ref m_actOf, .ref m_whom, .ref m_actMany, .ref m_tokens, .ref m_afters, .ref m_afterOf, .int q_counted, .ref m_pile, .ref m_caseMany, .ref m_happen, .ref m_hasIf, .ref m_becomes, .ref m_goneOf, .ref m_heard, .ref m_pairs, .ref m_heaps, .int q_rounds, .int q_heapMany, .ref m_led, .ref m_newAt, .ref m_knowing, .ref m_firsts, .int (nI q_people), .ref m_secrets, .ref m_tried, .ref m_lanes, .ref m_lengths, .ref m_cells])), (m_secrets, .inl (E.2.1 1, 4, .inl f_secrets))] ∧ (v0.toInt < 2 ∨ 4 < v0.toInt)) ∨ (∃ (f_secretsz : Nat → Int32), rz = 2 ∧ uz = [(hm, .inr (12, [.ref m_manys, .ref m_reals, .ref m_factsOf, .ref m_possible, .int (nI q_undos), .int (nI q_models), .ref m_tape, .int (nI q_taped), .int q_fault, .int q_wrong, .int q_wrongAt, .int q_spot, .int q_place, .int q_token, .int q_value, .ref m_ends, .ref m_letters, .ref m_actOf, .ref m_whom, .ref m_actMany, .ref m_tokens, .ref m_afters, .ref m_afterOf, .int q_counted, .ref m_pile, .ref m_caseMany, .ref m_happen, .ref m_hasIf, .ref m_becomes, .ref m_goneOf, .ref m_heard, .ref m_pairs, .ref m_heaps, .int q_rounds, .int q_heapMany, .ref m_led, .ref m_newAt, .ref m_knowing, .ref m_firsts, .int 2, .ref m_secrets, .ref m_tried, .ref m_lanes, .ref m_lengths, .ref m_cells])), (m_secrets, .inl (E.2.1 1, 4, .inl f_secretsz))] ∧ (v0.toInt = 2) ∧ (f_secretsz 0 = 1) ∧ (f_secretsz 1 = 2)) ∨ (∃ (f_secretsz : Nat → Int32), rz = 3 ∧ uz = [(hm, .inr (12, [.ref m_manys, .ref m_reals, .ref m_factsOf, .ref m_possible, .int (nI q_undos), .int (nI q_models), .ref m_tape, .int (nI q_taped), .int q_fault, .int q_wrong, .int q_wrongAt, .int q_spot, .int q_place, .int q_token, .int q_value, .ref m_ends, .ref m_letters, .ref m_actOf, .ref m_whom, .ref m_actMany, .ref m_tokens, .ref m_afters, .ref m_afterOf, .int q_counted, .ref m_pile, .ref m_caseMany, .ref m_happen, .ref m_hasIf, .ref m_becomes, .ref m_goneOf, .ref m_heard, .ref m_pairs, .ref m_heaps, .int q_rounds, .int q_heapMany, .ref m_led, .ref m_newAt, .ref m_knowing, .ref m_firsts, .int 3, .ref m_secrets, .ref m_tried, .ref m_lanes, .ref m_lengths, .ref m_cells])), (m_secrets, .inl (E.2.1 1, 4, .inl f_secretsz))] ∧ (v0.toInt = 3) ∧ (f_secretsz 0 = 1) ∧ (f_secretsz 1 = 2) ∧ (f_secretsz 2 = 4)) ∨ (∃ (f_secretsz : Nat → Int32), rz = 4 ∧ uz = [(hm, .inr (12, [.ref m_manys, .ref m_reals, .ref m_factsOf, .ref m_possible, .int (nI q_undos), .int (nI q_models), .ref m_tape, .int (nI q_taped), .int q_fault, .int q_wrong, .int q_wrongAt, .int q_spot, .int q_place, .int q_token, .int q_value, .ref m_ends, .ref m_letters, .ref m_actOf, .ref m_whom, .ref m_actMany, .ref m_tokens, .ref m_afters, .ref m_afterOf, .int q_counted, .ref m_pile, .ref m_caseMany, .ref m_happen, .ref m_hasIf, .ref m_becomes, .ref m_goneOf, .ref m_heard, .ref m_pairs, .ref m_heaps, .int q_rounds, .int q_heapMany, .ref m_led, .ref m_newAt, .ref m_knowing, .ref m_firsts, .int 4, .ref m_secrets, .ref m_tried, .ref m_lanes, .ref m_lengths, .ref m_cells])), (m_secrets, .inl (E.2.1 1, 4, .inl f_secretsz))] ∧ (v0.toInt = 4) ∧ (f_secretsz 0 = 1) ∧ (f_secretsz 1 = 2) ∧ (f_secretsz 2 = 4) ∧ (f_secretsz 3 = 8)))) 0 0 := by
  refine ct_of rfl rfl ?_
  intro X C hT hin hro
  show WW X 3 E 0 [(0, .ref hm), (1, .int v0)] [] [(hm, .inr (12, [.ref m_manys, .ref m_reals, .ref m_factsOf, .ref m_possible, .int (nI q_undos), .int (nI q_models), .ref m_tape, .int (nI q_taped), .int q_fault, .int q_wrong, .int q_wrongAt, .int q_spot, .int q_place, .int q_token, .int q_value, .ref m_ends, .ref m_letters, .ref m_actOf, .ref m_whom, .ref m_actMany, .ref m_tokens, .ref m_afters, .ref m_afterOf, .int q_counted, .ref m_pile, .ref m_caseMany, .ref m_happen, .ref m_hasIf, .ref m_becomes, .ref m_goneOf, .ref m_heard, .ref m_pairs, .ref m_heaps, .int q_rounds, .int q_heapMany, .ref m_led, .ref m_newAt, .ref m_knowing, .ref m_firsts, .int (nI q_people), .ref m_secrets, .ref m_tried, .ref m_lanes, .ref m_lengths, .ref m_cells])), (m_secrets, .inl (E.2.1 1, 4, .inl f_secrets))] 0 0
  refine ww_iload_n C dX12_people_0 1 rfl rfl ?_
  refine ww_i2l (v := v0.toInt64) C dX12_people_1 rfl ?_
  refine ww_ldc2 C wv_X12_254 dX12_people_2 ?_
  refine ww_ldc2 C wv_X12_149 dX12_people_5 ?_
  refine ww_ci (wr := [(hm, .inr (12, [.ref m_manys, .ref m_reals, .ref m_factsOf, .ref m_possible, .int (nI q_undos), .int (nI q_models), .ref m_tape, .int (nI q_taped), .int q_fault, .int q_wrong, .int q_wrongAt, .int q_spot, .int q_place, .int q_token, .int q_value, .ref m_ends, .ref m_letters, .ref m_actOf, .ref m_whom, .ref m_actMany, .ref m_tokens, .ref m_afters, .ref m_afterOf, .int q_counted, .ref m_pile, .ref m_caseMany, .ref m_happen, .ref m_hasIf, .ref m_becomes, .ref m_goneOf, .ref m_heard, .ref m_pairs, .ref m_heaps, .int q_rounds, .int q_heapMany, .ref m_led, .ref m_newAt, .ref m_knowing, .ref m_firsts, .int (nI q_people), .ref m_secrets, .ref m_tried, .ref m_lanes, .ref m_lengths, .ref m_cells])), (m_secrets, .inl (E.2.1 1, 4, .inl f_secrets))]) (k' := 0) (n' := 0) C (run_S (As := [.long v0.toInt64, .long 2, .long 4]) (rest := []) C (r_in X.2.1 E ro v0.toInt64 2 4 v0.toInt 2 4 (Int32.toInt_toInt64 _) rfl rfl) ms_X12_in wl_X12_115 rfl rfl rfl rfl dX12_people_8) (roK hro) [] [0, 1] rfl rfl rfl rfl (fun r_1 uz hw => ?_)
  rcases hw with hw | hw
  · refine an3 hw ?_
    clear hw
    intro he_4 he_5 h_2 hw
    have h_3 := hw
    clear hw
    have he_4 := he_4.symm
    subst he_4
    subst he_5
    refine ww_eq (ws' := [(hm, .inr (12, [.ref m_manys, .ref m_reals, .ref m_factsOf, .ref m_possible, .int (nI q_undos), .int (nI q_models), .ref m_tape, .int (nI q_taped), .int q_fault, .int q_wrong, .int q_wrongAt, .int q_spot, .int q_place, .int q_token, .int q_value, .ref m_ends, .ref m_letters, .ref m_actOf, .ref m_whom, .ref m_actMany, .ref m_tokens, .ref m_afters, .ref m_afterOf, .int q_counted, .ref m_pile, .ref m_caseMany, .ref m_happen, .ref m_hasIf, .ref m_becomes, .ref m_goneOf, .ref m_heard, .ref m_pairs, .ref m_heaps, .int q_rounds, .int q_heapMany, .ref m_led, .ref m_newAt, .ref m_knowing, .ref m_firsts, .int (nI q_people), .ref m_secrets, .ref m_tried, .ref m_lanes, .ref m_lengths, .ref m_cells])), (m_secrets, .inl (E.2.1 1, 4, .inl f_secrets))]) ?_ rfl rfl rfl
    refine ww_if_ne_t (tgt := 16) C dX12_people_11 (by decide) (by decide) ?_
    rcases sp_2_4 (x := v0) (by omega) (by omega) with rfl | rfl | rfl
    · refine ww_aload_n C dX12_people_16 0 rfl rfl ?_
      refine ww_iload_n C dX12_people_17 1 rfl rfl ?_
      refine ww_put (ws' := [(hm, .inr (12, [.ref m_manys, .ref m_reals, .ref m_factsOf, .ref m_possible, .int (nI q_undos), .int (nI q_models), .ref m_tape, .int (nI q_taped), .int q_fault, .int q_wrong, .int q_wrongAt, .int q_spot, .int q_place, .int q_token, .int q_value, .ref m_ends, .ref m_letters, .ref m_actOf, .ref m_whom, .ref m_actMany, .ref m_tokens, .ref m_afters, .ref m_afterOf, .int q_counted, .ref m_pile, .ref m_caseMany, .ref m_happen, .ref m_hasIf, .ref m_becomes, .ref m_goneOf, .ref m_heard, .ref m_pairs, .ref m_heaps, .int q_rounds, .int q_heapMany, .ref m_led, .ref m_newAt, .ref m_knowing, .ref m_firsts, .int 2, .ref m_secrets, .ref m_tried, .ref m_lanes, .ref m_lengths, .ref m_cells])), (m_secrets, .inl (E.2.1 1, 4, .inl f_secrets))]) C fp_X12_332 0 rfl rfl rfl rfl rfl dX12_people_18 ?_
      refine ww_iconst (v := 0) C dX12_people_21 rfl ?_
      refine ww_istore_n (lv' := [(2, .int 0), (0, .ref hm), (1, .int 2)]) C dX12_people_22 rfl rfl rfl ?_
      refine ww_iload_n C dX12_people_23 0 rfl rfl ?_
      refine ww_iload_n C dX12_people_24 2 rfl rfl ?_
      refine ww_icmp_ge_f (tgt := 43) C dX12_people_25 (by decide) (by decide) ?_
      refine ww_aload_n C dX12_people_28 1 rfl rfl ?_
      refine ww_get C fg_X12_90 0 rfl rfl dX12_people_29 ?_
      refine ww_iload_n C dX12_people_32 0 rfl rfl ?_
      refine ww_iconst (v := 1) C dX12_people_33 rfl ?_
      refine ww_iload_n C dX12_people_34 0 rfl rfl ?_
      refine ww_ishl (v := 1) C dX12_people_35 (by decide) ?_
      obtain ⟨f_9, ef_9⟩ : ∃ z : Nat → Int32, upd f_secrets 0 1 = z := ⟨_, rfl⟩
      refine ww_iast (ws' := [(hm, .inr (12, [.ref m_manys, .ref m_reals, .ref m_factsOf, .ref m_possible, .int (nI q_undos), .int (nI q_models), .ref m_tape, .int (nI q_taped), .int q_fault, .int q_wrong, .int q_wrongAt, .int q_spot, .int q_place, .int q_token, .int q_value, .ref m_ends, .ref m_letters, .ref m_actOf, .ref m_whom, .ref m_actMany, .ref m_tokens, .ref m_afters, .ref m_afterOf, .int q_counted, .ref m_pile, .ref m_caseMany, .ref m_happen, .ref m_hasIf, .ref m_becomes, .ref m_goneOf, .ref m_heard, .ref m_pairs, .ref m_heaps, .int q_rounds, .int q_heapMany, .ref m_led, .ref m_newAt, .ref m_knowing, .ref m_firsts, .int 2, .ref m_secrets, .ref m_tried, .ref m_lanes, .ref m_lengths, .ref m_cells])), (m_secrets, .inl (E.2.1 1, 4, .inl f_9))]) C 1 rfl (vin rfl) ef_9 rfl dX12_people_36 ?_
      refine ww_iinc (j := 0) (v := 1) (lv' := [(2, .int 1), (0, .ref hm), (1, .int 2)]) C dX12_people_37 rfl rfl rfl rfl ?_
      refine ww_goto (tgt := 23) C dX12_people_40 (by decide) ?_
      refine ww_iload_n C dX12_people_23 0 rfl rfl ?_
      refine ww_iload_n C dX12_people_24 2 rfl rfl ?_
      refine ww_icmp_ge_f (tgt := 43) C dX12_people_25 (by decide) (by decide) ?_
      refine ww_aload_n C dX12_people_28 1 rfl rfl ?_
      refine ww_get C fg_X12_90 0 rfl rfl dX12_people_29 ?_
      refine ww_iload_n C dX12_people_32 0 rfl rfl ?_
      refine ww_iconst (v := 1) C dX12_people_33 rfl ?_
      refine ww_iload_n C dX12_people_34 0 rfl rfl ?_
      refine ww_ishl (v := 2) C dX12_people_35 (by decide) ?_
      obtain ⟨f_10, ef_10⟩ : ∃ z : Nat → Int32, upd f_9 1 2 = z := ⟨_, rfl⟩
      refine ww_iast (ws' := [(hm, .inr (12, [.ref m_manys, .ref m_reals, .ref m_factsOf, .ref m_possible, .int (nI q_undos), .int (nI q_models), .ref m_tape, .int (nI q_taped), .int q_fault, .int q_wrong, .int q_wrongAt, .int q_spot, .int q_place, .int q_token, .int q_value, .ref m_ends, .ref m_letters, .ref m_actOf, .ref m_whom, .ref m_actMany, .ref m_tokens, .ref m_afters, .ref m_afterOf, .int q_counted, .ref m_pile, .ref m_caseMany, .ref m_happen, .ref m_hasIf, .ref m_becomes, .ref m_goneOf, .ref m_heard, .ref m_pairs, .ref m_heaps, .int q_rounds, .int q_heapMany, .ref m_led, .ref m_newAt, .ref m_knowing, .ref m_firsts, .int 2, .ref m_secrets, .ref m_tried, .ref m_lanes, .ref m_lengths, .ref m_cells])), (m_secrets, .inl (E.2.1 1, 4, .inl f_10))]) C 1 rfl (vin rfl) ef_10 rfl dX12_people_36 ?_
      refine ww_iinc (j := 0) (v := 2) (lv' := [(2, .int 2), (0, .ref hm), (1, .int 2)]) C dX12_people_37 rfl rfl rfl rfl ?_
      refine ww_goto (tgt := 23) C dX12_people_40 (by decide) ?_
      refine ww_iload_n C dX12_people_23 0 rfl rfl ?_
      refine ww_iload_n C dX12_people_24 2 rfl rfl ?_
      refine ww_icmp_ge_t (tgt := 43) C dX12_people_25 (by decide) (by decide) ?_
      refine ww_iload_n C dX12_people_43 2 rfl rfl ?_
      exact ww_iret (u := [(hm, .inr (12, [.ref m_manys, .ref m_reals, .ref m_factsOf, .ref m_possible, .int (nI q_undos), .int (nI q_models), .ref m_tape, .int (nI q_taped), .int q_fault, .int q_wrong, .int q_wrongAt, .int q_spot, .int q_place, .int q_token, .int q_value, .ref m_ends, .ref m_letters, .ref m_actOf, .ref m_whom, .ref m_actMany, .ref m_tokens, .ref m_afters, .ref m_afterOf, .int q_counted, .ref m_pile, .ref m_caseMany, .ref m_happen, .ref m_hasIf, .ref m_becomes, .ref m_goneOf, .ref m_heard, .ref m_pairs, .ref m_heaps, .int q_rounds, .int q_heapMany, .ref m_led, .ref m_newAt, .ref m_knowing, .ref m_firsts, .int 2, .ref m_secrets, .ref m_tried, .ref m_lanes, .ref m_lengths, .ref m_cells])), (m_secrets, .inl (E.2.1 1, 4, .inl f_10))]) C hT [0, 1] rfl rfl rfl rfl dX12_people_44 (Or.inr (Or.inl ⟨f_10, rfl, rfl, (by first | assumption | omega | decide), ((congrFun ef_10 0).symm.trans ((pk_un (by decide)).trans ((congrFun ef_9 0).symm.trans pk_us))), ((congrFun ef_10 1).symm.trans pk_us)⟩))
    · refine ww_aload_n C dX12_people_16 0 rfl rfl ?_
      refine ww_iload_n C dX12_people_17 1 rfl rfl ?_
      refine ww_put (ws' := [(hm, .inr (12, [.ref m_manys, .ref m_reals, .ref m_factsOf, .ref m_possible, .int (nI q_undos), .int (nI q_models), .ref m_tape, .int (nI q_taped), .int q_fault, .int q_wrong, .int q_wrongAt, .int q_spot, .int q_place, .int q_token, .int q_value, .ref m_ends, .ref m_letters, .ref m_actOf, .ref m_whom, .ref m_actMany, .ref m_tokens, .ref m_afters, .ref m_afterOf, .int q_counted, .ref m_pile, .ref m_caseMany, .ref m_happen, .ref m_hasIf, .ref m_becomes, .ref m_goneOf, .ref m_heard, .ref m_pairs, .ref m_heaps, .int q_rounds, .int q_heapMany, .ref m_led, .ref m_newAt, .ref m_knowing, .ref m_firsts, .int 3, .ref m_secrets, .ref m_tried, .ref m_lanes, .ref m_lengths, .ref m_cells])), (m_secrets, .inl (E.2.1 1, 4, .inl f_secrets))]) C fp_X12_332 0 rfl rfl rfl rfl rfl dX12_people_18 ?_
      refine ww_iconst (v := 0) C dX12_people_21 rfl ?_
      refine ww_istore_n (lv' := [(2, .int 0), (0, .ref hm), (1, .int 3)]) C dX12_people_22 rfl rfl rfl ?_
      refine ww_iload_n C dX12_people_23 0 rfl rfl ?_
      refine ww_iload_n C dX12_people_24 2 rfl rfl ?_
      refine ww_icmp_ge_f (tgt := 43) C dX12_people_25 (by decide) (by decide) ?_
      refine ww_aload_n C dX12_people_28 1 rfl rfl ?_
      refine ww_get C fg_X12_90 0 rfl rfl dX12_people_29 ?_
      refine ww_iload_n C dX12_people_32 0 rfl rfl ?_
      refine ww_iconst (v := 1) C dX12_people_33 rfl ?_
      refine ww_iload_n C dX12_people_34 0 rfl rfl ?_
      refine ww_ishl (v := 1) C dX12_people_35 (by decide) ?_
      obtain ⟨f_11, ef_11⟩ : ∃ z : Nat → Int32, upd f_secrets 0 1 = z := ⟨_, rfl⟩
      refine ww_iast (ws' := [(hm, .inr (12, [.ref m_manys, .ref m_reals, .ref m_factsOf, .ref m_possible, .int (nI q_undos), .int (nI q_models), .ref m_tape, .int (nI q_taped), .int q_fault, .int q_wrong, .int q_wrongAt, .int q_spot, .int q_place, .int q_token, .int q_value, .ref m_ends, .ref m_letters, .ref m_actOf, .ref m_whom, .ref m_actMany, .ref m_tokens, .ref m_afters, .ref m_afterOf, .int q_counted, .ref m_pile, .ref m_caseMany, .ref m_happen, .ref m_hasIf, .ref m_becomes, .ref m_goneOf, .ref m_heard, .ref m_pairs, .ref m_heaps, .int q_rounds, .int q_heapMany, .ref m_led, .ref m_newAt, .ref m_knowing, .ref m_firsts, .int 3, .ref m_secrets, .ref m_tried, .ref m_lanes, .ref m_lengths, .ref m_cells])), (m_secrets, .inl (E.2.1 1, 4, .inl f_11))]) C 1 rfl (vin rfl) ef_11 rfl dX12_people_36 ?_
      refine ww_iinc (j := 0) (v := 1) (lv' := [(2, .int 1), (0, .ref hm), (1, .int 3)]) C dX12_people_37 rfl rfl rfl rfl ?_
      refine ww_goto (tgt := 23) C dX12_people_40 (by decide) ?_
      refine ww_iload_n C dX12_people_23 0 rfl rfl ?_
      refine ww_iload_n C dX12_people_24 2 rfl rfl ?_
      refine ww_icmp_ge_f (tgt := 43) C dX12_people_25 (by decide) (by decide) ?_
      refine ww_aload_n C dX12_people_28 1 rfl rfl ?_
      refine ww_get C fg_X12_90 0 rfl rfl dX12_people_29 ?_
      refine ww_iload_n C dX12_people_32 0 rfl rfl ?_
      refine ww_iconst (v := 1) C dX12_people_33 rfl ?_
      refine ww_iload_n C dX12_people_34 0 rfl rfl ?_
      refine ww_ishl (v := 2) C dX12_people_35 (by decide) ?_
      obtain ⟨f_12, ef_12⟩ : ∃ z : Nat → Int32, upd f_11 1 2 = z := ⟨_, rfl⟩
      refine ww_iast (ws' := [(hm, .inr (12, [.ref m_manys, .ref m_reals, .ref m_factsOf, .ref m_possible, .int (nI q_undos), .int (nI q_models), .ref m_tape, .int (nI q_taped), .int q_fault, .int q_wrong, .int q_wrongAt, .int q_spot, .int q_place, .int q_token, .int q_value, .ref m_ends, .ref m_letters, .ref m_actOf, .ref m_whom, .ref m_actMany, .ref m_tokens, .ref m_afters, .ref m_afterOf, .int q_counted, .ref m_pile, .ref m_caseMany, .ref m_happen, .ref m_hasIf, .ref m_becomes, .ref m_goneOf, .ref m_heard, .ref m_pairs, .ref m_heaps, .int q_rounds, .int q_heapMany, .ref m_led, .ref m_newAt, .ref m_knowing, .ref m_firsts, .int 3, .ref m_secrets, .ref m_tried, .ref m_lanes, .ref m_lengths, .ref m_cells])), (m_secrets, .inl (E.2.1 1, 4, .inl f_12))]) C 1 rfl (vin rfl) ef_12 rfl dX12_people_36 ?_
      refine ww_iinc (j := 0) (v := 2) (lv' := [(2, .int 2), (0, .ref hm), (1, .int 3)]) C dX12_people_37 rfl rfl rfl rfl ?_
      refine ww_goto (tgt := 23) C dX12_people_40 (by decide) ?_
      refine ww_iload_n C dX12_people_23 0 rfl rfl ?_
      refine ww_iload_n C dX12_people_24 2 rfl rfl ?_
      refine ww_icmp_ge_f (tgt := 43) C dX12_people_25 (by decide) (by decide) ?_
      refine ww_aload_n C dX12_people_28 1 rfl rfl ?_
      refine ww_get C fg_X12_90 0 rfl rfl dX12_people_29 ?_
      refine ww_iload_n C dX12_people_32 0 rfl rfl ?_
      refine ww_iconst (v := 1) C dX12_people_33 rfl ?_
      refine ww_iload_n C dX12_people_34 0 rfl rfl ?_
      refine ww_ishl (v := 4) C dX12_people_35 (by decide) ?_
      obtain ⟨f_13, ef_13⟩ : ∃ z : Nat → Int32, upd f_12 2 4 = z := ⟨_, rfl⟩
      refine ww_iast (ws' := [(hm, .inr (12, [.ref m_manys, .ref m_reals, .ref m_factsOf, .ref m_possible, .int (nI q_undos), .int (nI q_models), .ref m_tape, .int (nI q_taped), .int q_fault, .int q_wrong, .int q_wrongAt, .int q_spot, .int q_place, .int q_token, .int q_value, .ref m_ends, .ref m_letters, .ref m_actOf, .ref m_whom, .ref m_actMany, .ref m_tokens, .ref m_afters, .ref m_afterOf, .int q_counted, .ref m_pile, .ref m_caseMany, .ref m_happen, .ref m_hasIf, .ref m_becomes, .ref m_goneOf, .ref m_heard, .ref m_pairs, .ref m_heaps, .int q_rounds, .int q_heapMany, .ref m_led, .ref m_newAt, .ref m_knowing, .ref m_firsts, .int 3, .ref m_secrets, .ref m_tried, .ref m_lanes, .ref m_lengths, .ref m_cells])), (m_secrets, .inl (E.2.1 1, 4, .inl f_13))]) C 1 rfl (vin rfl) ef_13 rfl dX12_people_36 ?_
      refine ww_iinc (j := 0) (v := 3) (lv' := [(2, .int 3), (0, .ref hm), (1, .int 3)]) C dX12_people_37 rfl rfl rfl rfl ?_
      refine ww_goto (tgt := 23) C dX12_people_40 (by decide) ?_
      refine ww_iload_n C dX12_people_23 0 rfl rfl ?_
      refine ww_iload_n C dX12_people_24 2 rfl rfl ?_
      refine ww_icmp_ge_t (tgt := 43) C dX12_people_25 (by decide) (by decide) ?_
      refine ww_iload_n C dX12_people_43 2 rfl rfl ?_
      exact ww_iret (u := [(hm, .inr (12, [.ref m_manys, .ref m_reals, .ref m_factsOf, .ref m_possible, .int (nI q_undos), .int (nI q_models), .ref m_tape, .int (nI q_taped), .int q_fault, .int q_wrong, .int q_wrongAt, .int q_spot, .int q_place, .int q_token, .int q_value, .ref m_ends, .ref m_letters, .ref m_actOf, .ref m_whom, .ref m_actMany, .ref m_tokens, .ref m_afters, .ref m_afterOf, .int q_counted, .ref m_pile, .ref m_caseMany, .ref m_happen, .ref m_hasIf, .ref m_becomes, .ref m_goneOf, .ref m_heard, .ref m_pairs, .ref m_heaps, .int q_rounds, .int q_heapMany, .ref m_led, .ref m_newAt, .ref m_knowing, .ref m_firsts, .int 3, .ref m_secrets, .ref m_tried, .ref m_lanes, .ref m_lengths, .ref m_cells])), (m_secrets, .inl (E.2.1 1, 4, .inl f_13))]) C hT [0, 1] rfl rfl rfl rfl dX12_people_44 (Or.inr (Or.inr (Or.inl ⟨f_13, rfl, rfl, (by first | assumption | omega | decide), ((congrFun ef_13 0).symm.trans ((pk_un (by decide)).trans ((congrFun ef_12 0).symm.trans ((pk_un (by decide)).trans ((congrFun ef_11 0).symm.trans pk_us))))), ((congrFun ef_13 1).symm.trans ((pk_un (by decide)).trans ((congrFun ef_12 1).symm.trans pk_us))), ((congrFun ef_13 2).symm.trans pk_us)⟩)))
    · refine ww_aload_n C dX12_people_16 0 rfl rfl ?_
      refine ww_iload_n C dX12_people_17 1 rfl rfl ?_
      refine ww_put (ws' := [(hm, .inr (12, [.ref m_manys, .ref m_reals, .ref m_factsOf, .ref m_possible, .int (nI q_undos), .int (nI q_models), .ref m_tape, .int (nI q_taped), .int q_fault, .int q_wrong, .int q_wrongAt, .int q_spot, .int q_place, .int q_token, .int q_value, .ref m_ends, .ref m_letters, .ref m_actOf, .ref m_whom, .ref m_actMany, .ref m_tokens, .ref m_afters, .ref m_afterOf, .int q_counted, .ref m_pile, .ref m_caseMany, .ref m_happen, .ref m_hasIf, .ref m_becomes, .ref m_goneOf, .ref m_heard, .ref m_pairs, .ref m_heaps, .int q_rounds, .int q_heapMany, .ref m_led, .ref m_newAt, .ref m_knowing, .ref m_firsts, .int 4, .ref m_secrets, .ref m_tried, .ref m_lanes, .ref m_lengths, .ref m_cells])), (m_secrets, .inl (E.2.1 1, 4, .inl f_secrets))]) C fp_X12_332 0 rfl rfl rfl rfl rfl dX12_people_18 ?_
      refine ww_iconst (v := 0) C dX12_people_21 rfl ?_
      refine ww_istore_n (lv' := [(2, .int 0), (0, .ref hm), (1, .int 4)]) C dX12_people_22 rfl rfl rfl ?_
      refine ww_iload_n C dX12_people_23 0 rfl rfl ?_
      refine ww_iload_n C dX12_people_24 2 rfl rfl ?_
      refine ww_icmp_ge_f (tgt := 43) C dX12_people_25 (by decide) (by decide) ?_
      refine ww_aload_n C dX12_people_28 1 rfl rfl ?_
      refine ww_get C fg_X12_90 0 rfl rfl dX12_people_29 ?_
      refine ww_iload_n C dX12_people_32 0 rfl rfl ?_
      refine ww_iconst (v := 1) C dX12_people_33 rfl ?_
      refine ww_iload_n C dX12_people_34 0 rfl rfl ?_
      refine ww_ishl (v := 1) C dX12_people_35 (by decide) ?_
      obtain ⟨f_14, ef_14⟩ : ∃ z : Nat → Int32, upd f_secrets 0 1 = z := ⟨_, rfl⟩
      refine ww_iast (ws' := [(hm, .inr (12, [.ref m_manys, .ref m_reals, .ref m_factsOf, .ref m_possible, .int (nI q_undos), .int (nI q_models), .ref m_tape, .int (nI q_taped), .int q_fault, .int q_wrong, .int q_wrongAt, .int q_spot, .int q_place, .int q_token, .int q_value, .ref m_ends, .ref m_letters, .ref m_actOf, .ref m_whom, .ref m_actMany, .ref m_tokens, .ref m_afters, .ref m_afterOf, .int q_counted, .ref m_pile, .ref m_caseMany, .ref m_happen, .ref m_hasIf, .ref m_becomes, .ref m_goneOf, .ref m_heard, .ref m_pairs, .ref m_heaps, .int q_rounds, .int q_heapMany, .ref m_led, .ref m_newAt, .ref m_knowing, .ref m_firsts, .int 4, .ref m_secrets, .ref m_tried, .ref m_lanes, .ref m_lengths, .ref m_cells])), (m_secrets, .inl (E.2.1 1, 4, .inl f_14))]) C 1 rfl (vin rfl) ef_14 rfl dX12_people_36 ?_
      refine ww_iinc (j := 0) (v := 1) (lv' := [(2, .int 1), (0, .ref hm), (1, .int 4)]) C dX12_people_37 rfl rfl rfl rfl ?_
      refine ww_goto (tgt := 23) C dX12_people_40 (by decide) ?_
      refine ww_iload_n C dX12_people_23 0 rfl rfl ?_
      refine ww_iload_n C dX12_people_24 2 rfl rfl ?_
      refine ww_icmp_ge_f (tgt := 43) C dX12_people_25 (by decide) (by decide) ?_
      refine ww_aload_n C dX12_people_28 1 rfl rfl ?_
      refine ww_get C fg_X12_90 0 rfl rfl dX12_people_29 ?_
      refine ww_iload_n C dX12_people_32 0 rfl rfl ?_
      refine ww_iconst (v := 1) C dX12_people_33 rfl ?_
      refine ww_iload_n C dX12_people_34 0 rfl rfl ?_
      refine ww_ishl (v := 2) C dX12_people_35 (by decide) ?_
      obtain ⟨f_15, ef_15⟩ : ∃ z : Nat → Int32, upd f_14 1 2 = z := ⟨_, rfl⟩
      refine ww_iast (ws' := [(hm, .inr (12, [.ref m_manys, .ref m_reals, .ref m_factsOf, .ref m_possible, .int (nI q_undos), .int (nI q_models), .ref m_tape, .int (nI q_taped), .int q_fault, .int q_wrong, .int q_wrongAt, .int q_spot, .int q_place, .int q_token, .int q_value, .ref m_ends, .ref m_letters, .ref m_actOf, .ref m_whom, .ref m_actMany, .ref m_tokens, .ref m_afters, .ref m_afterOf, .int q_counted, .ref m_pile, .ref m_caseMany, .ref m_happen, .ref m_hasIf, .ref m_becomes, .ref m_goneOf, .ref m_heard, .ref m_pairs, .ref m_heaps, .int q_rounds, .int q_heapMany, .ref m_led, .ref m_newAt, .ref m_knowing, .ref m_firsts, .int 4, .ref m_secrets, .ref m_tried, .ref m_lanes, .ref m_lengths, .ref m_cells])), (m_secrets, .inl (E.2.1 1, 4, .inl f_15))]) C 1 rfl (vin rfl) ef_15 rfl dX12_people_36 ?_
      refine ww_iinc (j := 0) (v := 2) (lv' := [(2, .int 2), (0, .ref hm), (1, .int 4)]) C dX12_people_37 rfl rfl rfl rfl ?_
      refine ww_goto (tgt := 23) C dX12_people_40 (by decide) ?_
      refine ww_iload_n C dX12_people_23 0 rfl rfl ?_
      refine ww_iload_n C dX12_people_24 2 rfl rfl ?_
      refine ww_icmp_ge_f (tgt := 43) C dX12_people_25 (by decide) (by decide) ?_
      refine ww_aload_n C dX12_people_28 1 rfl rfl ?_
      refine ww_get C fg_X12_90 0 rfl rfl dX12_people_29 ?_
      refine ww_iload_n C dX12_people_32 0 rfl rfl ?_
      refine ww_iconst (v := 1) C dX12_people_33 rfl ?_
      refine ww_iload_n C dX12_people_34 0 rfl rfl ?_
      refine ww_ishl (v := 4) C dX12_people_35 (by decide) ?_
      obtain ⟨f_16, ef_16⟩ : ∃ z : Nat → Int32, upd f_15 2 4 = z := ⟨_, rfl⟩
      refine ww_iast (ws' := [(hm, .inr (12, [.ref m_manys, .ref m_reals, .ref m_factsOf, .ref m_possible, .int (nI q_undos), .int (nI q_models), .ref m_tape, .int (nI q_taped), .int q_fault, .int q_wrong, .int q_wrongAt, .int q_spot, .int q_place, .int q_token, .int q_value, .ref m_ends, .ref m_letters, .ref m_actOf, .ref m_whom, .ref m_actMany, .ref m_tokens, .ref m_afters, .ref m_afterOf, .int q_counted, .ref m_pile, .ref m_caseMany, .ref m_happen, .ref m_hasIf, .ref m_becomes, .ref m_goneOf, .ref m_heard, .ref m_pairs, .ref m_heaps, .int q_rounds, .int q_heapMany, .ref m_led, .ref m_newAt, .ref m_knowing, .ref m_firsts, .int 4, .ref m_secrets, .ref m_tried, .ref m_lanes, .ref m_lengths, .ref m_cells])), (m_secrets, .inl (E.2.1 1, 4, .inl f_16))]) C 1 rfl (vin rfl) ef_16 rfl dX12_people_36 ?_
      refine ww_iinc (j := 0) (v := 3) (lv' := [(2, .int 3), (0, .ref hm), (1, .int 4)]) C dX12_people_37 rfl rfl rfl rfl ?_
      refine ww_goto (tgt := 23) C dX12_people_40 (by decide) ?_
      refine ww_iload_n C dX12_people_23 0 rfl rfl ?_
      refine ww_iload_n C dX12_people_24 2 rfl rfl ?_
      refine ww_icmp_ge_f (tgt := 43) C dX12_people_25 (by decide) (by decide) ?_
      refine ww_aload_n C dX12_people_28 1 rfl rfl ?_
      refine ww_get C fg_X12_90 0 rfl rfl dX12_people_29 ?_
      refine ww_iload_n C dX12_people_32 0 rfl rfl ?_
      refine ww_iconst (v := 1) C dX12_people_33 rfl ?_
      refine ww_iload_n C dX12_people_34 0 rfl rfl ?_
      refine ww_ishl (v := 8) C dX12_people_35 (by decide) ?_
      obtain ⟨f_17, ef_17⟩ : ∃ z : Nat → Int32, upd f_16 3 8 = z := ⟨_, rfl⟩
      refine ww_iast (ws' := [(hm, .inr (12, [.ref m_manys, .ref m_reals, .ref m_factsOf, .ref m_possible, .int (nI q_undos), .int (nI q_models), .ref m_tape, .int (nI q_taped), .int q_fault, .int q_wrong, .int q_wrongAt, .int q_spot, .int q_place, .int q_token, .int q_value, .ref m_ends, .ref m_letters, .ref m_actOf, .ref m_whom, .ref m_actMany, .ref m_tokens, .ref m_afters, .ref m_afterOf, .int q_counted, .ref m_pile, .ref m_caseMany, .ref m_happen, .ref m_hasIf, .ref m_becomes, .ref m_goneOf, .ref m_heard, .ref m_pairs, .ref m_heaps, .int q_rounds, .int q_heapMany, .ref m_led, .ref m_newAt, .ref m_knowing, .ref m_firsts, .int 4, .ref m_secrets, .ref m_tried, .ref m_lanes, .ref m_lengths, .ref m_cells])), (m_secrets, .inl (E.2.1 1, 4, .inl f_17))]) C 1 rfl (vin rfl) ef_17 rfl dX12_people_36 ?_
      refine ww_iinc (j := 0) (v := 4) (lv' := [(2, .int 4), (0, .ref hm), (1, .int 4)]) C dX12_people_37 rfl rfl rfl rfl ?_
      refine ww_goto (tgt := 23) C dX12_people_40 (by decide) ?_
      refine ww_iload_n C dX12_people_23 0 rfl rfl ?_
      refine ww_iload_n C dX12_people_24 2 rfl rfl ?_
      refine ww_icmp_ge_t (tgt := 43) C dX12_people_25 (by decide) (by decide) ?_
      refine ww_iload_n C dX12_people_43 2 rfl rfl ?_
      exact ww_iret (u := [(hm, .inr (12, [.ref m_manys, .ref m_reals, .ref m_factsOf, .ref m_possible, .int (nI q_undos), .int (nI q_models), .ref m_tape, .int (nI q_taped), .int q_fault, .int q_wrong, .int q_wrongAt, .int q_spot, .int q_place, .int q_token, .int q_value, .ref m_ends, .ref m_letters, .ref m_actOf, .ref m_whom, .ref m_actMany, .ref m_tokens, .ref m_afters, .ref m_afterOf, .int q_counted, .ref m_pile, .ref m_caseMany, .ref m_happen, .ref m_hasIf, .ref m_becomes, .ref m_goneOf, .ref m_heard, .ref m_pairs, .ref m_heaps, .int q_rounds, .int q_heapMany, .ref m_led, .ref m_newAt, .ref m_knowing, .ref m_firsts, .int 4, .ref m_secrets, .ref m_tried, .ref m_lanes, .ref m_lengths, .ref m_cells])), (m_secrets, .inl (E.2.1 1, 4, .inl f_17))]) C hT [0, 1] rfl rfl rfl rfl dX12_people_44 (Or.inr (Or.inr (Or.inr ⟨f_17, rfl, rfl, (by first | assumption | omega | decide), ((congrFun ef_17 0).symm.trans ((pk_un (by decide)).trans ((congrFun ef_16 0).symm.trans ((pk_un (by decide)).trans ((congrFun ef_15 0).symm.trans ((pk_un (by decide)).trans ((congrFun ef_14 0).symm.trans pk_us))))))), ((congrFun ef_17 1).symm.trans ((pk_un (by decide)).trans ((congrFun ef_16 1).symm.trans ((pk_un (by decide)).trans ((congrFun ef_15 1).symm.trans pk_us))))), ((congrFun ef_17 2).symm.trans ((pk_un (by decide)).trans ((congrFun ef_16 2).symm.trans pk_us))), ((congrFun ef_17 3).symm.trans pk_us)⟩)))
  · refine an2 hw ?_
    clear hw
    intro he_7 he_8 hw
    have h_6 := hw
    clear hw
    have he_7 := he_7.symm
    subst he_7
    subst he_8
    refine ww_eq (ws' := [(hm, .inr (12, [.ref m_manys, .ref m_reals, .ref m_factsOf, .ref m_possible, .int (nI q_undos), .int (nI q_models), .ref m_tape, .int (nI q_taped), .int q_fault, .int q_wrong, .int q_wrongAt, .int q_spot, .int q_place, .int q_token, .int q_value, .ref m_ends, .ref m_letters, .ref m_actOf, .ref m_whom, .ref m_actMany, .ref m_tokens, .ref m_afters, .ref m_afterOf, .int q_counted, .ref m_pile, .ref m_caseMany, .ref m_happen, .ref m_hasIf, .ref m_becomes, .ref m_goneOf, .ref m_heard, .ref m_pairs, .ref m_heaps, .int q_rounds, .int q_heapMany, .ref m_led, .ref m_newAt, .ref m_knowing, .ref m_firsts, .int (nI q_people), .ref m_secrets, .ref m_tried, .ref m_lanes, .ref m_lengths, .ref m_cells])), (m_secrets, .inl (E.2.1 1, 4, .inl f_secrets))]) ?_ rfl rfl rfl
    refine ww_if_ne_f (tgt := 16) C dX12_people_11 (by decide) (rfl) ?_
    refine ww_iconst (v := (-1)) C dX12_people_14 rfl ?_
    exact ww_iret (u := [(hm, .inr (12, [.ref m_manys, .ref m_reals, .ref m_factsOf, .ref m_possible, .int (nI q_undos), .int (nI q_models), .ref m_tape, .int (nI q_taped), .int q_fault, .int q_wrong, .int q_wrongAt, .int q_spot, .int q_place, .int q_token, .int q_value, .ref m_ends, .ref m_letters, .ref m_actOf, .ref m_whom, .ref m_actMany, .ref m_tokens, .ref m_afters, .ref m_afterOf, .int q_counted, .ref m_pile, .ref m_caseMany, .ref m_happen, .ref m_hasIf, .ref m_becomes, .ref m_goneOf, .ref m_heard, .ref m_pairs, .ref m_heaps, .int q_rounds, .int q_heapMany, .ref m_led, .ref m_newAt, .ref m_knowing, .ref m_firsts, .int (nI q_people), .ref m_secrets, .ref m_tried, .ref m_lanes, .ref m_lengths, .ref m_cells])), (m_secrets, .inl (E.2.1 1, 4, .inl f_secrets))]) C hT [0, 1] rfl rfl rfl rfl dX12_people_15 (Or.inl ⟨rfl, rfl, (by first | assumption | omega | decide)⟩)
theorem dX12_isOne_0 : decode cX12_isOne 0 = .ok (.iload_n 1, 1) := dl_27 (by decide +kernel)
theorem dX12_isOne_1 : decode cX12_isOne 1 = .ok (.i2l, 1) := dl_133 (by decide +kernel)
theorem dX12_isOne_2 : decode cX12_isOne 2 = .ok (.lconst 0, 1) := dl_9 (by decide +kernel)
theorem dX12_isOne_3 : decode cX12_isOne 3 = .ok (.aload_n 0, 1) := dl_42 (by decide +kernel)
theorem dX12_isOne_4 : decode cX12_isOne 4 = .ok (.getfield 332, 3) := dl_180 (by decide +kernel)
theorem fg_X12_332 : FG RX12 332 12 39 := ⟨RX12, TX12, 45, uw_X12, wf_X12_332, rfl, by decide, rfl⟩
theorem dX12_isOne_7 : decode cX12_isOne 7 = .ok (.iconst 1, 1) := dl_4 (by decide +kernel)
theorem dX12_isOne_8 : decode cX12_isOne 8 = .ok (.isub, 1) := dl_100 (by decide +kernel)
theorem dX12_isOne_9 : decode cX12_isOne 9 = .ok (.i2l, 1) := dl_133 (by decide +kernel)
theorem dX12_isOne_10 : decode cX12_isOne 10 = .ok (.invokestatic 115, 3) := dl_184 (by decide +kernel)
theorem dX12_isOne_13 : decode cX12_isOne 13 = .ok (.ireturn, 1) := dl_172 (by decide +kernel)
set_option maxRecDepth 100000 in
set_option maxHeartbeats 4000000 in
theorem r_isOne (l : Launch) (E : EV) (ro : va_W) (hm : Nat) (k : Int32) (m_manys : Nat) (m_reals : Nat) (m_factsOf : Nat) (m_possible : Nat) (q_undos : Nat) (q_models : Nat) (m_tape : Nat) (q_taped : Nat) (q_fault : Int32) (q_wrong : Int32) (q_wrongAt : Int32) (q_spot : Int32) (q_place : Int32) (q_token : Int32) (q_value : Int32) (m_ends : Nat) (m_letters : Nat) (m_actOf : Nat) (m_whom : Nat) (m_actMany : Nat) (m_tokens : Nat) (m_afters : Nat) (m_afterOf : Nat) (q_counted : Int32) (m_pile : Nat) (m_caseMany : Nat) (m_happen : Nat) (m_hasIf : Nat) (m_becomes : Nat) (m_goneOf : Nat) (m_heard : Nat) (m_pairs : Nat) (m_heaps : Nat) (q_rounds : Int32) (q_heapMany : Int32) (m_led : Nat) (m_newAt : Nat) (m_knowing : Nat) (m_firsts : Nat) (q_people : Nat) (m_secrets : Nat) (m_tried : Nat) (m_lanes : Nat) (m_lengths : Nat) (m_cells : Nat) (hq_people : q_people ≤ 4) : CT l yX12_isOne (Cond.code yX12_isOne cX12_isOne 2 (some .boolean) :: TB) ({ frames := 1, cells := 0, slots := 0, locals := 25 }) E ro [.ref hm, .int k] [(hm, .inr (12, [.ref m_manys, .ref m_reals, .ref m_factsOf, .ref m_possible, .int (nI q_undos), .int (nI q_models), .ref m_tape, .int (nI q_taped), .int q_fault, .int q_wrong, .int q_wrongAt, .int q_spot, .int q_place, .int q_token, .int q_value, .ref m_ends, .ref m_letters, .ref m_actOf, .ref m_whom, .ref m_actMany, .ref m_tokens, .ref m_afters, .ref m_afterOf, .int q_counted, .ref m_pile, .ref m_caseMany, .ref m_happen, .ref m_hasIf, .ref m_becomes, .ref m_goneOf, .ref m_heard, .ref m_pairs, .ref m_heaps, .int q_rounds, .int q_heapMany, .ref m_led, .ref m_newAt, .ref m_knowing, .ref m_firsts, .int (nI q_people), .ref m_secrets, .ref m_tried, .ref m_lanes, .ref m_lengths, .ref m_cells]))] (Qi E (fun (rz : Int32) uz => (rz = 1 ∧ uz = [(hm, .inr (12, [.ref m_manys, .ref m_reals, .ref m_factsOf, .ref m_possible, .int (nI q_undos), .int (nI q_models), .ref m_tape, .int (nI q_taped), .int q_fault, .int q_wrong, .int q_wrongAt, .int q_spot, .int q_place, .int q_token, .int q_value, .ref m_ends, .ref m_letters, .ref m_actOf, .ref m_whom, .ref m_actMany, .ref m_tokens, .ref m_afters, .ref m_afterOf, .int q_counted, .ref m_pile, .ref m_caseMany, .ref m_happen, .ref m_hasIf, .ref m_becomes, .ref m_goneOf, .ref m_heard, .ref m_pairs, .ref m_heaps, .int q_rounds, .int q_heapMany, .ref m_led, .ref m_newAt, .ref m_knowing, .ref m_firsts, .int (nI q_people), .ref m_secrets, .ref m_tried, .ref m_lanes, .ref m_lengths, .ref m_cells]))] ∧ (0 ≤ k.toInt) ∧ (k.toInt < q_people)) ∨ (rz = 0 ∧ uz = [(hm, .inr (12, [.ref m_manys, .ref m_reals, .ref m_factsOf, .ref m_possible, .int (nI q_undos), .int (nI q_models), .ref m_tape, .int (nI q_taped), .int q_fault, .int q_wrong, .int q_wrongAt, .int q_spot, .int q_place, .int q_token, .int q_value, .ref m_ends, .ref m_letters, .ref m_actOf, .ref m_whom, .ref m_actMany, .ref m_tokens, .ref m_afters, .ref m_afterOf, .int q_counted, .ref m_pile, .ref m_caseMany, .ref m_happen, .ref m_hasIf, .ref m_becomes, .ref m_goneOf, .ref m_heard, .ref m_pairs, .ref m_heaps, .int q_rounds, .int q_heapMany, .ref m_led, .ref m_newAt, .ref m_knowing, .ref m_firsts, .int (nI q_people), .ref m_secrets, .ref m_tried, .ref m_lanes, .ref m_lengths, .ref m_cells]))] ∧ (k.toInt < 0 ∨ (q_people : Int) ≤ k.toInt)))) 0 0 := by
  refine ct_of rfl rfl ?_
  intro X C hT hin hro
  show WW X 2 E 0 [(0, .ref hm), (1, .int k)] [] [(hm, .inr (12, [.ref m_manys, .ref m_reals, .ref m_factsOf, .ref m_possible, .int (nI q_undos), .int (nI q_models), .ref m_tape, .int (nI q_taped), .int q_fault, .int q_wrong, .int q_wrongAt, .int q_spot, .int q_place, .int q_token, .int q_value, .ref m_ends, .ref m_letters, .ref m_actOf, .ref m_whom, .ref m_actMany, .ref m_tokens, .ref m_afters, .ref m_afterOf, .int q_counted, .ref m_pile, .ref m_caseMany, .ref m_happen, .ref m_hasIf, .ref m_becomes, .ref m_goneOf, .ref m_heard, .ref m_pairs, .ref m_heaps, .int q_rounds, .int q_heapMany, .ref m_led, .ref m_newAt, .ref m_knowing, .ref m_firsts, .int (nI q_people), .ref m_secrets, .ref m_tried, .ref m_lanes, .ref m_lengths, .ref m_cells]))] 0 0
  refine ww_iload_n C dX12_isOne_0 1 rfl rfl ?_
  refine ww_i2l (v := k.toInt64) C dX12_isOne_1 rfl ?_
  refine ww_lconst (v := 0) C dX12_isOne_2 rfl ?_
  refine ww_aload_n C dX12_isOne_3 0 rfl rfl ?_
  refine ww_get C fg_X12_332 0 rfl rfl dX12_isOne_4 ?_
  refine ww_iconst (v := 1) C dX12_isOne_7 rfl ?_
  obtain ⟨x_1, ex_1⟩ : ∃ z : Int32, (nI q_people) - (1 : Int32) = z := ⟨_, rfl⟩
  have zx_1 : x_1.toInt = ((q_people : Nat) : Int) - 1 := by rw [← ex_1]; exact i_sub (nI_toInt (n := q_people) (by omega)) rfl (by omega) (by omega)
  refine ww_isub (v := x_1) C dX12_isOne_8 ex_1 ?_
  refine ww_i2l (v := x_1.toInt64) C dX12_isOne_9 rfl ?_
  refine ww_ci (wr := [(hm, .inr (12, [.ref m_manys, .ref m_reals, .ref m_factsOf, .ref m_possible, .int (nI q_undos), .int (nI q_models), .ref m_tape, .int (nI q_taped), .int q_fault, .int q_wrong, .int q_wrongAt, .int q_spot, .int q_place, .int q_token, .int q_value, .ref m_ends, .ref m_letters, .ref m_actOf, .ref m_whom, .ref m_actMany, .ref m_tokens, .ref m_afters, .ref m_afterOf, .int q_counted, .ref m_pile, .ref m_caseMany, .ref m_happen, .ref m_hasIf, .ref m_becomes, .ref m_goneOf, .ref m_heard, .ref m_pairs, .ref m_heaps, .int q_rounds, .int q_heapMany, .ref m_led, .ref m_newAt, .ref m_knowing, .ref m_firsts, .int (nI q_people), .ref m_secrets, .ref m_tried, .ref m_lanes, .ref m_lengths, .ref m_cells]))]) (k' := 0) (n' := 0) C (run_S (As := [.long k.toInt64, .long 0, .long x_1.toInt64]) (rest := []) C (r_in X.2.1 E ro k.toInt64 0 x_1.toInt64 k.toInt 0 (((q_people : Nat) : Int) - 1) (Int32.toInt_toInt64 _) rfl ((Int32.toInt_toInt64 _).trans zx_1)) ms_X12_in wl_X12_115 rfl rfl rfl rfl dX12_isOne_10) (roK hro) [] [0] rfl rfl rfl rfl (fun r_2 uz hw => ?_)
  rcases hw with hw | hw
  · refine an3 hw ?_
    clear hw
    intro he_5 he_6 h_3 hw
    have h_4 := hw
    clear hw
    have he_5 := he_5.symm
    subst he_5
    subst he_6
    refine ww_eq (ws' := [(hm, .inr (12, [.ref m_manys, .ref m_reals, .ref m_factsOf, .ref m_possible, .int (nI q_undos), .int (nI q_models), .ref m_tape, .int (nI q_taped), .int q_fault, .int q_wrong, .int q_wrongAt, .int q_spot, .int q_place, .int q_token, .int q_value, .ref m_ends, .ref m_letters, .ref m_actOf, .ref m_whom, .ref m_actMany, .ref m_tokens, .ref m_afters, .ref m_afterOf, .int q_counted, .ref m_pile, .ref m_caseMany, .ref m_happen, .ref m_hasIf, .ref m_becomes, .ref m_goneOf, .ref m_heard, .ref m_pairs, .ref m_heaps, .int q_rounds, .int q_heapMany, .ref m_led, .ref m_newAt, .ref m_knowing, .ref m_firsts, .int (nI q_people), .ref m_secrets, .ref m_tried, .ref m_lanes, .ref m_lengths, .ref m_cells]))]) ?_ rfl rfl rfl
    exact ww_zret (u := [(hm, .inr (12, [.ref m_manys, .ref m_reals, .ref m_factsOf, .ref m_possible, .int (nI q_undos), .int (nI q_models), .ref m_tape, .int (nI q_taped), .int q_fault, .int q_wrong, .int q_wrongAt, .int q_spot, .int q_place, .int q_token, .int q_value, .ref m_ends, .ref m_letters, .ref m_actOf, .ref m_whom, .ref m_actMany, .ref m_tokens, .ref m_afters, .ref m_afterOf, .int q_counted, .ref m_pile, .ref m_caseMany, .ref m_happen, .ref m_hasIf, .ref m_becomes, .ref m_goneOf, .ref m_heard, .ref m_pairs, .ref m_heaps, .int q_rounds, .int q_heapMany, .ref m_led, .ref m_newAt, .ref m_knowing, .ref m_firsts, .int (nI q_people), .ref m_secrets, .ref m_tried, .ref m_lanes, .ref m_lengths, .ref m_cells]))]) C hT [0] rfl rfl rfl rfl rfl dX12_isOne_13 (Or.inl ⟨rfl, rfl, (by first | assumption | omega | decide), (by first | assumption | omega | decide)⟩)
  · refine an2 hw ?_
    clear hw
    intro he_8 he_9 hw
    have h_7 := hw
    clear hw
    have he_8 := he_8.symm
    subst he_8
    subst he_9
    refine ww_eq (ws' := [(hm, .inr (12, [.ref m_manys, .ref m_reals, .ref m_factsOf, .ref m_possible, .int (nI q_undos), .int (nI q_models), .ref m_tape, .int (nI q_taped), .int q_fault, .int q_wrong, .int q_wrongAt, .int q_spot, .int q_place, .int q_token, .int q_value, .ref m_ends, .ref m_letters, .ref m_actOf, .ref m_whom, .ref m_actMany, .ref m_tokens, .ref m_afters, .ref m_afterOf, .int q_counted, .ref m_pile, .ref m_caseMany, .ref m_happen, .ref m_hasIf, .ref m_becomes, .ref m_goneOf, .ref m_heard, .ref m_pairs, .ref m_heaps, .int q_rounds, .int q_heapMany, .ref m_led, .ref m_newAt, .ref m_knowing, .ref m_firsts, .int (nI q_people), .ref m_secrets, .ref m_tried, .ref m_lanes, .ref m_lengths, .ref m_cells]))]) ?_ rfl rfl rfl
    exact ww_zret (u := [(hm, .inr (12, [.ref m_manys, .ref m_reals, .ref m_factsOf, .ref m_possible, .int (nI q_undos), .int (nI q_models), .ref m_tape, .int (nI q_taped), .int q_fault, .int q_wrong, .int q_wrongAt, .int q_spot, .int q_place, .int q_token, .int q_value, .ref m_ends, .ref m_letters, .ref m_actOf, .ref m_whom, .ref m_actMany, .ref m_tokens, .ref m_afters, .ref m_afterOf, .int q_counted, .ref m_pile, .ref m_caseMany, .ref m_happen, .ref m_hasIf, .ref m_becomes, .ref m_goneOf, .ref m_heard, .ref m_pairs, .ref m_heaps, .int q_rounds, .int q_heapMany, .ref m_led, .ref m_newAt, .ref m_knowing, .ref m_firsts, .int (nI q_people), .ref m_secrets, .ref m_tried, .ref m_lanes, .ref m_lengths, .ref m_cells]))]) C hT [0] rfl rfl rfl rfl rfl dX12_isOne_13 (Or.inr ⟨rfl, rfl, (by first | assumption | omega | decide)⟩)
theorem call_s {f f1 f2 : Nat → Int32} {i j : Nat} {x y z x2 : Int32} (ex : f i = x) (ey : f j = y) (ez : x ||| y = z) (e1 : upd f i z = f1) (e2 : f1 i = x2) (e3 : upd f1 j x2 = f2) : upd (upd f i (f i ||| f j)) j (f i ||| f j) = f2 := by
  subst ex; subst ey; subst ez; subst e1
  rw [pk_us] at e2
  subst e2
  exact e3
theorem call_x {f f1 f2 : Nat → Int32} {i j : Nat} {x y z x2 x3 : Int32} (hij : i ≠ j) (ex : f i = x) (ey : f j = y) (ez : x ||| y = z) (e1 : upd f i z = f1) (e2 : f1 i = x2) (e3 : upd f1 j x2 = f2) (e4 : f2 i = x3) : f i ||| f j = x3 := by
  subst ex; subst ey; subst ez; subst e1
  rw [pk_us] at e2
  subst e2
  subst e3
  rw [pk_un hij, pk_us] at e4
  exact e4
theorem dX12_call_0 : decode cX12_call 0 = .ok (.aload_n 0, 1) := dl_42 (by decide +kernel)
theorem dX12_call_1 : decode cX12_call 1 = .ok (.iload_n 1, 1) := dl_27 (by decide +kernel)
theorem dX12_call_2 : decode cX12_call 2 = .ok (.invokevirtual 335, 3) := dl_182 (by decide +kernel)
theorem wl_X12_335 : Cond.methodLink RX12 335 yX12_isOne ∈ TB := tbm (tq7 (List.mem_of_getElem? (i := 60) (by decide +kernel))) (by decide +kernel)
theorem wc_X12_isOne : Cond.code yX12_isOne cX12_isOne 2 (some .boolean) ∈ TB := tbm (tq7 (List.mem_of_getElem? (i := 63) (rfl))) (by decide +kernel)
theorem wi_X12_isOne : Cond.instanceMethod yX12_isOne ∈ TB := tbm (tq7 (List.mem_of_getElem? (i := 62) (by decide +kernel))) (by decide +kernel)
theorem ws_X12_isOne : Cond.selects RX12 yX12_isOne yX12_isOne ∈ TB := tbm (tq0 (List.mem_of_getElem? (i := 79) (by decide +kernel))) (by decide +kernel)
theorem mi_X12_isOne : MI yX12_isOne cX12_isOne 2 (some .boolean) 1 := ⟨wc_X12_isOne, wn_X12, ⟨by decide +kernel, by decide +kernel, by decide +kernel⟩, wi_X12_isOne, ws_X12_isOne⟩
theorem dX12_call_5 : decode cX12_call 5 = .ok (.ifCond .eq 16, 3) := dl_153 (by decide +kernel)
theorem dX12_call_8 : decode cX12_call 8 = .ok (.aload_n 0, 1) := dl_42 (by decide +kernel)
theorem dX12_call_9 : decode cX12_call 9 = .ok (.iload_n 2, 1) := dl_28 (by decide +kernel)
theorem dX12_call_10 : decode cX12_call 10 = .ok (.invokevirtual 335, 3) := dl_182 (by decide +kernel)
theorem dX12_call_13 : decode cX12_call 13 = .ok (.ifCond .eq 8, 3) := dl_153 (by decide +kernel)
theorem dX12_call_16 : decode cX12_call 16 = .ok (.iload_n 1, 1) := dl_27 (by decide +kernel)
theorem dX12_call_17 : decode cX12_call 17 = .ok (.iload_n 2, 1) := dl_28 (by decide +kernel)
theorem dX12_call_18 : decode cX12_call 18 = .ok (.if_icmp .ne 5, 3) := dl_160 (by decide +kernel)
theorem dX12_call_23 : decode cX12_call 23 = .ok (.aload_n 0, 1) := dl_42 (by decide +kernel)
theorem dX12_call_24 : decode cX12_call 24 = .ok (.getfield 90, 3) := dl_180 (by decide +kernel)
theorem dX12_call_27 : decode cX12_call 27 = .ok (.iload_n 1, 1) := dl_27 (by decide +kernel)
theorem dX12_call_28 : decode cX12_call 28 = .ok (.dup2, 1) := dl_92 (by decide +kernel)
theorem dX12_call_29 : decode cX12_call 29 = .ok (.iaload, 1) := dl_46 (by decide +kernel)
theorem dX12_call_30 : decode cX12_call 30 = .ok (.aload_n 0, 1) := dl_42 (by decide +kernel)
theorem dX12_call_31 : decode cX12_call 31 = .ok (.getfield 90, 3) := dl_180 (by decide +kernel)
theorem dX12_call_34 : decode cX12_call 34 = .ok (.iload_n 2, 1) := dl_28 (by decide +kernel)
theorem dX12_call_35 : decode cX12_call 35 = .ok (.iaload, 1) := dl_46 (by decide +kernel)
theorem dX12_call_36 : decode cX12_call 36 = .ok (.ior, 1) := dl_128 (by decide +kernel)
theorem dX12_call_37 : decode cX12_call 37 = .ok (.iastore, 1) := dl_79 (by decide +kernel)
theorem dX12_call_38 : decode cX12_call 38 = .ok (.aload_n 0, 1) := dl_42 (by decide +kernel)
theorem dX12_call_39 : decode cX12_call 39 = .ok (.getfield 90, 3) := dl_180 (by decide +kernel)
theorem dX12_call_42 : decode cX12_call 42 = .ok (.iload_n 2, 1) := dl_28 (by decide +kernel)
theorem dX12_call_43 : decode cX12_call 43 = .ok (.aload_n 0, 1) := dl_42 (by decide +kernel)
theorem dX12_call_44 : decode cX12_call 44 = .ok (.getfield 90, 3) := dl_180 (by decide +kernel)
theorem dX12_call_47 : decode cX12_call 47 = .ok (.iload_n 1, 1) := dl_27 (by decide +kernel)
theorem dX12_call_48 : decode cX12_call 48 = .ok (.iaload, 1) := dl_46 (by decide +kernel)
theorem dX12_call_49 : decode cX12_call 49 = .ok (.iastore, 1) := dl_79 (by decide +kernel)
theorem dX12_call_50 : decode cX12_call 50 = .ok (.aload_n 0, 1) := dl_42 (by decide +kernel)
theorem dX12_call_51 : decode cX12_call 51 = .ok (.getfield 90, 3) := dl_180 (by decide +kernel)
theorem dX12_call_54 : decode cX12_call 54 = .ok (.iload_n 1, 1) := dl_27 (by decide +kernel)
theorem dX12_call_55 : decode cX12_call 55 = .ok (.iaload, 1) := dl_46 (by decide +kernel)
theorem dX12_call_56 : decode cX12_call 56 = .ok (.invokestatic 145, 3) := dl_184 (by decide +kernel)
theorem dX12_call_59 : decode cX12_call 59 = .ok (.ireturn, 1) := dl_172 (by decide +kernel)
theorem dX12_call_21 : decode cX12_call 21 = .ok (.iconst (-1), 1) := dl_2 (by decide +kernel)
theorem dX12_call_22 : decode cX12_call 22 = .ok (.ireturn, 1) := dl_172 (by decide +kernel)
set_option maxRecDepth 100000 in
set_option maxHeartbeats 4000000 in
theorem y_call (l : Launch) (E : EV) (ro : va_W) (hm : Nat) (v0 : Int32) (v1 : Int32) (m_manys : Nat) (m_reals : Nat) (m_factsOf : Nat) (m_possible : Nat) (q_undos : Nat) (q_models : Nat) (m_tape : Nat) (q_taped : Nat) (q_fault : Int32) (q_wrong : Int32) (q_wrongAt : Int32) (q_spot : Int32) (q_place : Int32) (q_token : Int32) (q_value : Int32) (m_ends : Nat) (m_letters : Nat) (m_actOf : Nat) (m_whom : Nat) (m_actMany : Nat) (m_tokens : Nat) (m_afters : Nat) (m_afterOf : Nat) (q_counted : Int32) (m_pile : Nat) (m_caseMany : Nat) (m_happen : Nat) (m_hasIf : Nat) (m_becomes : Nat) (m_goneOf : Nat) (m_heard : Nat) (m_pairs : Nat) (m_heaps : Nat) (q_rounds : Int32) (q_heapMany : Int32) (m_led : Nat) (m_newAt : Nat) (m_knowing : Nat) (m_firsts : Nat) (q_people : Nat) (m_secrets : Nat) (m_tried : Nat) (m_lanes : Nat) (m_lengths : Nat) (m_cells : Nat) (f_secrets : Nat → Int32) (hq_people : q_people ≤ 4) : CT l yX12_call (Cond.code yX12_call cX12_call 3 (some .int) :: TB) ({ frames := 2, cells := 0, slots := 0, locals := 46 }) E ro [.ref hm, .int v0, .int v1] [(hm, .inr (12, [.ref m_manys, .ref m_reals, .ref m_factsOf, .ref m_possible, .int (nI q_undos), .int (nI q_models), .ref m_tape, .int (nI q_taped), .int q_fault, .int q_wrong, .int q_wrongAt, .int q_spot, .int q_place, .int q_token, .int q_value, .ref m_ends, .ref m_letters, .ref m_actOf, .ref m_whom, .ref m_actMany, .ref m_tokens, .ref m_afters, .ref m_afterOf, .int q_counted, .ref m_pile, .ref m_caseMany, .ref m_happen, .ref m_hasIf, .ref m_becomes, .ref m_goneOf, .ref m_heard, .ref m_pairs, .ref m_heaps, .int q_rounds, .int q_heapMany, .ref m_led, .ref m_newAt, .ref m_knowing, .ref m_firsts, .int (nI q_people), .ref m_secrets, .ref m_tried, .ref m_lanes, .ref m_lengths, .ref m_cells])), (m_secrets, .inl (E.2.1 1, 4, .inl f_secrets))] (Qi E (fun (rz : Int32) uz => (rz = (-1) ∧ uz = [(hm, .inr (12, [.ref m_manys, .ref m_reals, .ref m_factsOf, .ref m_possible, .int (nI q_undos), .int (nI q_models), .ref m_tape, .int (nI q_taped), .int q_fault, .int q_wrong, .int q_wrongAt, .int q_spot, .int q_place, .int q_token, .int q_value, .ref m_ends, .ref m_letters, .ref m_actOf, .ref m_whom, .ref m_actMany, .ref m_tokens, .ref m_afters, .ref m_afterOf, .int q_counted, .ref m_pile, .ref m_caseMany, .ref m_happen, .ref m_hasIf, .ref m_becomes, .ref m_goneOf, .ref m_heard, .ref m_pairs, .ref m_heaps, .int q_rounds, .int q_heapMany, .ref m_led, .ref m_newAt, .ref m_knowing, .ref m_firsts, .int (nI q_people), .ref m_secrets, .ref m_tried, .ref m_lanes, .ref m_lengths, .ref m_cells])), (m_secrets, .inl (E.2.1 1, 4, .inl f_secrets))] ∧ (v0.toInt < 0 ∨ (q_people : Int) ≤ v0.toInt ∨ v1.toInt < 0 ∨ (q_people : Int) ≤ v1.toInt ∨ v0.toInt = v1.toInt)) ∨ (∃ (i_ : Nat) (j_ : Nat) (f_secretsz : Nat → Int32), rz = (nI (cb (bt (f_secrets i_ ||| f_secrets j_)) 24)) ∧ uz = [(hm, .inr (12, [.ref m_manys, .ref m_reals, .ref m_factsOf, .ref m_possible, .int (nI q_undos), .int (nI q_models), .ref m_tape, .int (nI q_taped), .int q_fault, .int q_wrong, .int q_wrongAt, .int q_spot, .int q_place, .int q_token, .int q_value, .ref m_ends, .ref m_letters, .ref m_actOf, .ref m_whom, .ref m_actMany, .ref m_tokens, .ref m_afters, .ref m_afterOf, .int q_counted, .ref m_pile, .ref m_caseMany, .ref m_happen, .ref m_hasIf, .ref m_becomes, .ref m_goneOf, .ref m_heard, .ref m_pairs, .ref m_heaps, .int q_rounds, .int q_heapMany, .ref m_led, .ref m_newAt, .ref m_knowing, .ref m_firsts, .int (nI q_people), .ref m_secrets, .ref m_tried, .ref m_lanes, .ref m_lengths, .ref m_cells])), (m_secrets, .inl (E.2.1 1, 4, .inl f_secretsz))] ∧ (v0 = nI i_) ∧ (v1 = nI j_) ∧ (i_ < q_people) ∧ (j_ < q_people) ∧ (i_ ≠ j_) ∧ (upd (upd f_secrets i_ (f_secrets i_ ||| f_secrets j_)) j_ (f_secrets i_ ||| f_secrets j_) = f_secretsz)))) 0 0 := by
  refine ct_of rfl rfl ?_
  intro X C hT hin hro
  show WW X 3 E 0 [(0, .ref hm), (1, .int v0), (2, .int v1)] [] [(hm, .inr (12, [.ref m_manys, .ref m_reals, .ref m_factsOf, .ref m_possible, .int (nI q_undos), .int (nI q_models), .ref m_tape, .int (nI q_taped), .int q_fault, .int q_wrong, .int q_wrongAt, .int q_spot, .int q_place, .int q_token, .int q_value, .ref m_ends, .ref m_letters, .ref m_actOf, .ref m_whom, .ref m_actMany, .ref m_tokens, .ref m_afters, .ref m_afterOf, .int q_counted, .ref m_pile, .ref m_caseMany, .ref m_happen, .ref m_hasIf, .ref m_becomes, .ref m_goneOf, .ref m_heard, .ref m_pairs, .ref m_heaps, .int q_rounds, .int q_heapMany, .ref m_led, .ref m_newAt, .ref m_knowing, .ref m_firsts, .int (nI q_people), .ref m_secrets, .ref m_tried, .ref m_lanes, .ref m_lengths, .ref m_cells])), (m_secrets, .inl (E.2.1 1, 4, .inl f_secrets))] 0 0
  refine ww_aload_n C dX12_call_0 0 rfl rfl ?_
  refine ww_iload_n C dX12_call_1 1 rfl rfl ?_
  refine ww_ci (wr := [(m_secrets, .inl (E.2.1 1, 4, .inl f_secrets))]) (k' := 0) (n' := 0) C (run_V (As := [.int v0]) (rest := []) C (r_isOne X.2.1 E ro hm v0 m_manys m_reals m_factsOf m_possible q_undos q_models m_tape q_taped q_fault q_wrong q_wrongAt q_spot q_place q_token q_value m_ends m_letters m_actOf m_whom m_actMany m_tokens m_afters m_afterOf q_counted m_pile m_caseMany m_happen m_hasIf m_becomes m_goneOf m_heard m_pairs m_heaps q_rounds q_heapMany m_led m_newAt m_knowing m_firsts q_people m_secrets m_tried m_lanes m_lengths m_cells (by omega)) mi_X12_isOne wl_X12_335 rfl 0 12 rfl rfl rfl rfl rfl dX12_call_2) (roK hro) [0] [1] rfl rfl rfl rfl (fun r_1 uz hw => ?_)
  rcases hw with hw | hw
  · refine an3 hw ?_
    clear hw
    intro he_4 he_5 h_2 hw
    have h_3 := hw
    clear hw
    have he_4 := he_4.symm
    subst he_4
    subst he_5
    refine ww_eq (ws' := [(m_secrets, .inl (E.2.1 1, 4, .inl f_secrets)), (hm, .inr (12, [.ref m_manys, .ref m_reals, .ref m_factsOf, .ref m_possible, .int (nI q_undos), .int (nI q_models), .ref m_tape, .int (nI q_taped), .int q_fault, .int q_wrong, .int q_wrongAt, .int q_spot, .int q_place, .int q_token, .int q_value, .ref m_ends, .ref m_letters, .ref m_actOf, .ref m_whom, .ref m_actMany, .ref m_tokens, .ref m_afters, .ref m_afterOf, .int q_counted, .ref m_pile, .ref m_caseMany, .ref m_happen, .ref m_hasIf, .ref m_becomes, .ref m_goneOf, .ref m_heard, .ref m_pairs, .ref m_heaps, .int q_rounds, .int q_heapMany, .ref m_led, .ref m_newAt, .ref m_knowing, .ref m_firsts, .int (nI q_people), .ref m_secrets, .ref m_tried, .ref m_lanes, .ref m_lengths, .ref m_cells]))]) ?_ rfl rfl rfl
    refine ww_if_eq_f (tgt := 21) C dX12_call_5 (by decide) (by decide) ?_
    refine ww_aload_n C dX12_call_8 0 rfl rfl ?_
    refine ww_iload_n C dX12_call_9 2 rfl rfl ?_
    refine ww_ci (wr := [(m_secrets, .inl (E.2.1 1, 4, .inl f_secrets))]) (k' := 0) (n' := 0) C (run_V (As := [.int v1]) (rest := []) C (r_isOne X.2.1 E ro hm v1 m_manys m_reals m_factsOf m_possible q_undos q_models m_tape q_taped q_fault q_wrong q_wrongAt q_spot q_place q_token q_value m_ends m_letters m_actOf m_whom m_actMany m_tokens m_afters m_afterOf q_counted m_pile m_caseMany m_happen m_hasIf m_becomes m_goneOf m_heard m_pairs m_heaps q_rounds q_heapMany m_led m_newAt m_knowing m_firsts q_people m_secrets m_tried m_lanes m_lengths m_cells (by omega)) mi_X12_isOne wl_X12_335 rfl 0 12 rfl rfl rfl rfl rfl dX12_call_10) (roK hro) [1] [0] rfl rfl rfl rfl (fun r_9 uz hw => ?_)
    rcases hw with hw | hw
    · refine an3 hw ?_
      clear hw
      intro he_12 he_13 h_10 hw
      have h_11 := hw
      clear hw
      have he_12 := he_12.symm
      subst he_12
      subst he_13
      refine ww_eq (ws' := [(m_secrets, .inl (E.2.1 1, 4, .inl f_secrets)), (hm, .inr (12, [.ref m_manys, .ref m_reals, .ref m_factsOf, .ref m_possible, .int (nI q_undos), .int (nI q_models), .ref m_tape, .int (nI q_taped), .int q_fault, .int q_wrong, .int q_wrongAt, .int q_spot, .int q_place, .int q_token, .int q_value, .ref m_ends, .ref m_letters, .ref m_actOf, .ref m_whom, .ref m_actMany, .ref m_tokens, .ref m_afters, .ref m_afterOf, .int q_counted, .ref m_pile, .ref m_caseMany, .ref m_happen, .ref m_hasIf, .ref m_becomes, .ref m_goneOf, .ref m_heard, .ref m_pairs, .ref m_heaps, .int q_rounds, .int q_heapMany, .ref m_led, .ref m_newAt, .ref m_knowing, .ref m_firsts, .int (nI q_people), .ref m_secrets, .ref m_tried, .ref m_lanes, .ref m_lengths, .ref m_cells]))]) ?_ rfl rfl rfl
      refine ww_if_eq_f (tgt := 21) C dX12_call_13 (by decide) (by decide) ?_
      refine ww_iload_n C dX12_call_16 1 rfl rfl ?_
      refine ww_iload_n C dX12_call_17 2 rfl rfl ?_
      refine ww_icmp_ne (tgt := 23) C dX12_call_18 (by decide) (fun c_17 => ?_) (fun c_17 => ?_)
      · have zc_17 : v0.toInt ≠ v1.toInt := i_ne rfl rfl c_17
        obtain ⟨j_18, hj_18, rfl⟩ := i_nat (x := v0) (N := 3) (by omega) (by omega)
        have hzj_18 := nI_toInt (n := j_18) (by omega)
        obtain ⟨j_19, hj_19, rfl⟩ := i_nat (x := v1) (N := 3) (by omega) (by omega)
        have hzj_19 := nI_toInt (n := j_19) (by omega)
        refine ww_aload_n C dX12_call_23 0 rfl rfl ?_
        refine ww_get C fg_X12_90 1 rfl rfl dX12_call_24 ?_
        refine ww_iload_n C dX12_call_27 1 rfl rfl ?_
        refine ww_dup2 C dX12_call_28 rfl rfl ?_
        obtain ⟨x_20, ex_20⟩ : ∃ z : Int32, f_secrets j_18 = z := ⟨_, rfl⟩
        refine ww_iald (v := x_20) C 0 rfl (vp_in_nI (by omega) (by omega)) (ldn (by omega) ex_20) dX12_call_29 ?_
        refine ww_aload_n C dX12_call_30 0 rfl rfl ?_
        refine ww_get C fg_X12_90 1 rfl rfl dX12_call_31 ?_
        refine ww_iload_n C dX12_call_34 2 rfl rfl ?_
        obtain ⟨x_21, ex_21⟩ : ∃ z : Int32, f_secrets j_19 = z := ⟨_, rfl⟩
        refine ww_iald (v := x_21) C 0 rfl (vp_in_nI (by omega) (by omega)) (ldn (by omega) ex_21) dX12_call_35 ?_
        obtain ⟨x_22, ex_22⟩ : ∃ z : Int32, x_20 ||| x_21 = z := ⟨_, rfl⟩
        refine ww_ior (v := x_22) C dX12_call_36 ex_22 ?_
        obtain ⟨f_23, ef_23⟩ : ∃ z : Nat → Int32, upd f_secrets j_18 x_22 = z := ⟨_, rfl⟩
        refine ww_iast (ws' := [(m_secrets, .inl (E.2.1 1, 4, .inl f_23)), (hm, .inr (12, [.ref m_manys, .ref m_reals, .ref m_factsOf, .ref m_possible, .int (nI q_undos), .int (nI q_models), .ref m_tape, .int (nI q_taped), .int q_fault, .int q_wrong, .int q_wrongAt, .int q_spot, .int q_place, .int q_token, .int q_value, .ref m_ends, .ref m_letters, .ref m_actOf, .ref m_whom, .ref m_actMany, .ref m_tokens, .ref m_afters, .ref m_afterOf, .int q_counted, .ref m_pile, .ref m_caseMany, .ref m_happen, .ref m_hasIf, .ref m_becomes, .ref m_goneOf, .ref m_heard, .ref m_pairs, .ref m_heaps, .int q_rounds, .int q_heapMany, .ref m_led, .ref m_newAt, .ref m_knowing, .ref m_firsts, .int (nI q_people), .ref m_secrets, .ref m_tried, .ref m_lanes, .ref m_lengths, .ref m_cells]))]) C 0 rfl (vp_in_nI (by omega) (by omega)) (ldn2 (by omega) ef_23) rfl dX12_call_37 ?_
        refine ww_aload_n C dX12_call_38 0 rfl rfl ?_
        refine ww_get C fg_X12_90 1 rfl rfl dX12_call_39 ?_
        refine ww_iload_n C dX12_call_42 2 rfl rfl ?_
        refine ww_aload_n C dX12_call_43 0 rfl rfl ?_
        refine ww_get C fg_X12_90 1 rfl rfl dX12_call_44 ?_
        refine ww_iload_n C dX12_call_47 1 rfl rfl ?_
        obtain ⟨x_24, ex_24⟩ : ∃ z : Int32, f_23 j_18 = z := ⟨_, rfl⟩
        refine ww_iald (v := x_24) C 0 rfl (vp_in_nI (by omega) (by omega)) (ldn (by omega) ex_24) dX12_call_48 ?_
        obtain ⟨f_25, ef_25⟩ : ∃ z : Nat → Int32, upd f_23 j_19 x_24 = z := ⟨_, rfl⟩
        refine ww_iast (ws' := [(m_secrets, .inl (E.2.1 1, 4, .inl f_25)), (hm, .inr (12, [.ref m_manys, .ref m_reals, .ref m_factsOf, .ref m_possible, .int (nI q_undos), .int (nI q_models), .ref m_tape, .int (nI q_taped), .int q_fault, .int q_wrong, .int q_wrongAt, .int q_spot, .int q_place, .int q_token, .int q_value, .ref m_ends, .ref m_letters, .ref m_actOf, .ref m_whom, .ref m_actMany, .ref m_tokens, .ref m_afters, .ref m_afterOf, .int q_counted, .ref m_pile, .ref m_caseMany, .ref m_happen, .ref m_hasIf, .ref m_becomes, .ref m_goneOf, .ref m_heard, .ref m_pairs, .ref m_heaps, .int q_rounds, .int q_heapMany, .ref m_led, .ref m_newAt, .ref m_knowing, .ref m_firsts, .int (nI q_people), .ref m_secrets, .ref m_tried, .ref m_lanes, .ref m_lengths, .ref m_cells]))]) C 0 rfl (vp_in_nI (by omega) (by omega)) (ldn2 (by omega) ef_25) rfl dX12_call_49 ?_
        refine ww_aload_n C dX12_call_50 0 rfl rfl ?_
        refine ww_get C fg_X12_90 1 rfl rfl dX12_call_51 ?_
        refine ww_iload_n C dX12_call_54 1 rfl rfl ?_
        obtain ⟨x_26, ex_26⟩ : ∃ z : Int32, f_25 j_18 = z := ⟨_, rfl⟩
        refine ww_iald (v := x_26) C 0 rfl (vp_in_nI (by omega) (by omega)) (ldn (by omega) ex_26) dX12_call_55 ?_
        refine ww_ci (wr := [(m_secrets, .inl (E.2.1 1, 4, .inl f_25)), (hm, .inr (12, [.ref m_manys, .ref m_reals, .ref m_factsOf, .ref m_possible, .int (nI q_undos), .int (nI q_models), .ref m_tape, .int (nI q_taped), .int q_fault, .int q_wrong, .int q_wrongAt, .int q_spot, .int q_place, .int q_token, .int q_value, .ref m_ends, .ref m_letters, .ref m_actOf, .ref m_whom, .ref m_actMany, .ref m_tokens, .ref m_afters, .ref m_afterOf, .int q_counted, .ref m_pile, .ref m_caseMany, .ref m_happen, .ref m_hasIf, .ref m_becomes, .ref m_goneOf, .ref m_heard, .ref m_pairs, .ref m_heaps, .int q_rounds, .int q_heapMany, .ref m_led, .ref m_newAt, .ref m_knowing, .ref m_firsts, .int (nI q_people), .ref m_secrets, .ref m_tried, .ref m_lanes, .ref m_lengths, .ref m_cells]))]) (k' := 0) (n' := 0) C (run_S (As := [.int x_26]) (rest := []) C (r_size X.2.1 E ro x_26) ms_X12_size wl_X12_145 rfl rfl rfl rfl dX12_call_56) (roK hro) [] [0, 1] rfl rfl rfl rfl (fun r_27 uz hw => ?_)
        refine an2 hw ?_
        clear hw
        intro he_29 he_30 hw
        have h_28 := hw
        clear hw
        have he_29 := he_29.symm
        subst he_29
        subst he_30
        refine ww_eq (ws' := [(m_secrets, .inl (E.2.1 1, 4, .inl f_25)), (hm, .inr (12, [.ref m_manys, .ref m_reals, .ref m_factsOf, .ref m_possible, .int (nI q_undos), .int (nI q_models), .ref m_tape, .int (nI q_taped), .int q_fault, .int q_wrong, .int q_wrongAt, .int q_spot, .int q_place, .int q_token, .int q_value, .ref m_ends, .ref m_letters, .ref m_actOf, .ref m_whom, .ref m_actMany, .ref m_tokens, .ref m_afters, .ref m_afterOf, .int q_counted, .ref m_pile, .ref m_caseMany, .ref m_happen, .ref m_hasIf, .ref m_becomes, .ref m_goneOf, .ref m_heard, .ref m_pairs, .ref m_heaps, .int q_rounds, .int q_heapMany, .ref m_led, .ref m_newAt, .ref m_knowing, .ref m_firsts, .int (nI q_people), .ref m_secrets, .ref m_tried, .ref m_lanes, .ref m_lengths, .ref m_cells]))]) ?_ rfl rfl rfl
        exact ww_iret (u := [(hm, .inr (12, [.ref m_manys, .ref m_reals, .ref m_factsOf, .ref m_possible, .int (nI q_undos), .int (nI q_models), .ref m_tape, .int (nI q_taped), .int q_fault, .int q_wrong, .int q_wrongAt, .int q_spot, .int q_place, .int q_token, .int q_value, .ref m_ends, .ref m_letters, .ref m_actOf, .ref m_whom, .ref m_actMany, .ref m_tokens, .ref m_afters, .ref m_afterOf, .int q_counted, .ref m_pile, .ref m_caseMany, .ref m_happen, .ref m_hasIf, .ref m_becomes, .ref m_goneOf, .ref m_heard, .ref m_pairs, .ref m_heaps, .int q_rounds, .int q_heapMany, .ref m_led, .ref m_newAt, .ref m_knowing, .ref m_firsts, .int (nI q_people), .ref m_secrets, .ref m_tried, .ref m_lanes, .ref m_lengths, .ref m_cells])), (m_secrets, .inl (E.2.1 1, 4, .inl f_25))]) C hT [1, 0] rfl rfl rfl rfl dX12_call_59 (Or.inr ⟨j_18, j_19, f_25, (by first | rfl | rw [call_x (by omega) (by assumption) (by assumption) (by assumption) (by assumption) (by assumption) (by assumption) (by assumption)]), rfl, rfl, rfl, (by omega), (by omega), (by omega), (call_s (by assumption) (by assumption) (by assumption) (by assumption) (by assumption) (by assumption))⟩)
      · have zc_17 : v0.toInt = v1.toInt := i_eq rfl rfl c_17
        refine ww_iconst (v := (-1)) C dX12_call_21 rfl ?_
        exact ww_iret (u := [(hm, .inr (12, [.ref m_manys, .ref m_reals, .ref m_factsOf, .ref m_possible, .int (nI q_undos), .int (nI q_models), .ref m_tape, .int (nI q_taped), .int q_fault, .int q_wrong, .int q_wrongAt, .int q_spot, .int q_place, .int q_token, .int q_value, .ref m_ends, .ref m_letters, .ref m_actOf, .ref m_whom, .ref m_actMany, .ref m_tokens, .ref m_afters, .ref m_afterOf, .int q_counted, .ref m_pile, .ref m_caseMany, .ref m_happen, .ref m_hasIf, .ref m_becomes, .ref m_goneOf, .ref m_heard, .ref m_pairs, .ref m_heaps, .int q_rounds, .int q_heapMany, .ref m_led, .ref m_newAt, .ref m_knowing, .ref m_firsts, .int (nI q_people), .ref m_secrets, .ref m_tried, .ref m_lanes, .ref m_lengths, .ref m_cells])), (m_secrets, .inl (E.2.1 1, 4, .inl f_secrets))]) C hT [1, 0] rfl rfl rfl rfl dX12_call_22 (Or.inl ⟨(by first | rfl | rw [call_x (by omega) (by assumption) (by assumption) (by assumption) (by assumption) (by assumption) (by assumption) (by assumption)]), rfl, (by first | assumption | omega | decide)⟩)
    · refine an2 hw ?_
      clear hw
      intro he_15 he_16 hw
      have h_14 := hw
      clear hw
      have he_15 := he_15.symm
      subst he_15
      subst he_16
      refine ww_eq (ws' := [(m_secrets, .inl (E.2.1 1, 4, .inl f_secrets)), (hm, .inr (12, [.ref m_manys, .ref m_reals, .ref m_factsOf, .ref m_possible, .int (nI q_undos), .int (nI q_models), .ref m_tape, .int (nI q_taped), .int q_fault, .int q_wrong, .int q_wrongAt, .int q_spot, .int q_place, .int q_token, .int q_value, .ref m_ends, .ref m_letters, .ref m_actOf, .ref m_whom, .ref m_actMany, .ref m_tokens, .ref m_afters, .ref m_afterOf, .int q_counted, .ref m_pile, .ref m_caseMany, .ref m_happen, .ref m_hasIf, .ref m_becomes, .ref m_goneOf, .ref m_heard, .ref m_pairs, .ref m_heaps, .int q_rounds, .int q_heapMany, .ref m_led, .ref m_newAt, .ref m_knowing, .ref m_firsts, .int (nI q_people), .ref m_secrets, .ref m_tried, .ref m_lanes, .ref m_lengths, .ref m_cells]))]) ?_ rfl rfl rfl
      refine ww_if_eq_t (tgt := 21) C dX12_call_13 (by decide) (rfl) ?_
      refine ww_iconst (v := (-1)) C dX12_call_21 rfl ?_
      exact ww_iret (u := [(hm, .inr (12, [.ref m_manys, .ref m_reals, .ref m_factsOf, .ref m_possible, .int (nI q_undos), .int (nI q_models), .ref m_tape, .int (nI q_taped), .int q_fault, .int q_wrong, .int q_wrongAt, .int q_spot, .int q_place, .int q_token, .int q_value, .ref m_ends, .ref m_letters, .ref m_actOf, .ref m_whom, .ref m_actMany, .ref m_tokens, .ref m_afters, .ref m_afterOf, .int q_counted, .ref m_pile, .ref m_caseMany, .ref m_happen, .ref m_hasIf, .ref m_becomes, .ref m_goneOf, .ref m_heard, .ref m_pairs, .ref m_heaps, .int q_rounds, .int q_heapMany, .ref m_led, .ref m_newAt, .ref m_knowing, .ref m_firsts, .int (nI q_people), .ref m_secrets, .ref m_tried, .ref m_lanes, .ref m_lengths, .ref m_cells])), (m_secrets, .inl (E.2.1 1, 4, .inl f_secrets))]) C hT [1, 0] rfl rfl rfl rfl dX12_call_22 (Or.inl ⟨(by first | rfl | rw [call_x (by omega) (by assumption) (by assumption) (by assumption) (by assumption) (by assumption) (by assumption) (by assumption)]), rfl, (by first | assumption | omega | decide)⟩)
  · refine an2 hw ?_
    clear hw
    intro he_7 he_8 hw
    have h_6 := hw
    clear hw
    have he_7 := he_7.symm
    subst he_7
    subst he_8
    refine ww_eq (ws' := [(m_secrets, .inl (E.2.1 1, 4, .inl f_secrets)), (hm, .inr (12, [.ref m_manys, .ref m_reals, .ref m_factsOf, .ref m_possible, .int (nI q_undos), .int (nI q_models), .ref m_tape, .int (nI q_taped), .int q_fault, .int q_wrong, .int q_wrongAt, .int q_spot, .int q_place, .int q_token, .int q_value, .ref m_ends, .ref m_letters, .ref m_actOf, .ref m_whom, .ref m_actMany, .ref m_tokens, .ref m_afters, .ref m_afterOf, .int q_counted, .ref m_pile, .ref m_caseMany, .ref m_happen, .ref m_hasIf, .ref m_becomes, .ref m_goneOf, .ref m_heard, .ref m_pairs, .ref m_heaps, .int q_rounds, .int q_heapMany, .ref m_led, .ref m_newAt, .ref m_knowing, .ref m_firsts, .int (nI q_people), .ref m_secrets, .ref m_tried, .ref m_lanes, .ref m_lengths, .ref m_cells]))]) ?_ rfl rfl rfl
    refine ww_if_eq_t (tgt := 21) C dX12_call_5 (by decide) (rfl) ?_
    refine ww_iconst (v := (-1)) C dX12_call_21 rfl ?_
    exact ww_iret (u := [(hm, .inr (12, [.ref m_manys, .ref m_reals, .ref m_factsOf, .ref m_possible, .int (nI q_undos), .int (nI q_models), .ref m_tape, .int (nI q_taped), .int q_fault, .int q_wrong, .int q_wrongAt, .int q_spot, .int q_place, .int q_token, .int q_value, .ref m_ends, .ref m_letters, .ref m_actOf, .ref m_whom, .ref m_actMany, .ref m_tokens, .ref m_afters, .ref m_afterOf, .int q_counted, .ref m_pile, .ref m_caseMany, .ref m_happen, .ref m_hasIf, .ref m_becomes, .ref m_goneOf, .ref m_heard, .ref m_pairs, .ref m_heaps, .int q_rounds, .int q_heapMany, .ref m_led, .ref m_newAt, .ref m_knowing, .ref m_firsts, .int (nI q_people), .ref m_secrets, .ref m_tried, .ref m_lanes, .ref m_lengths, .ref m_cells])), (m_secrets, .inl (E.2.1 1, 4, .inl f_secrets))]) C hT [1, 0] rfl rfl rfl rfl dX12_call_22 (Or.inl ⟨(by first | rfl | rw [call_x (by omega) (by assumption) (by assumption) (by assumption) (by assumption) (by assumption) (by assumption) (by assumption)]), rfl, (by first | assumption | omega | decide)⟩)
theorem dX12_secrets_0 : decode cX12_secrets 0 = .ok (.aload_n 0, 1) := dl_42 (by decide +kernel)
theorem dX12_secrets_1 : decode cX12_secrets 1 = .ok (.iload_n 1, 1) := dl_27 (by decide +kernel)
theorem dX12_secrets_2 : decode cX12_secrets 2 = .ok (.invokevirtual 335, 3) := dl_182 (by decide +kernel)
theorem dX12_secrets_5 : decode cX12_secrets 5 = .ok (.ifCond .eq 12, 3) := dl_153 (by decide +kernel)
theorem dX12_secrets_8 : decode cX12_secrets 8 = .ok (.aload_n 0, 1) := dl_42 (by decide +kernel)
theorem dX12_secrets_9 : decode cX12_secrets 9 = .ok (.getfield 90, 3) := dl_180 (by decide +kernel)
theorem dX12_secrets_12 : decode cX12_secrets 12 = .ok (.iload_n 1, 1) := dl_27 (by decide +kernel)
theorem dX12_secrets_13 : decode cX12_secrets 13 = .ok (.iaload, 1) := dl_46 (by decide +kernel)
theorem dX12_secrets_14 : decode cX12_secrets 14 = .ok (.goto 4, 3) := dl_167 (by decide +kernel)
theorem dX12_secrets_18 : decode cX12_secrets 18 = .ok (.ireturn, 1) := dl_172 (by decide +kernel)
theorem dX12_secrets_17 : decode cX12_secrets 17 = .ok (.iconst (-1), 1) := dl_2 (by decide +kernel)
set_option maxRecDepth 100000 in
set_option maxHeartbeats 4000000 in
theorem y_secrets (l : Launch) (E : EV) (ro : va_W) (hm : Nat) (v0 : Int32) (m_manys : Nat) (m_reals : Nat) (m_factsOf : Nat) (m_possible : Nat) (q_undos : Nat) (q_models : Nat) (m_tape : Nat) (q_taped : Nat) (q_fault : Int32) (q_wrong : Int32) (q_wrongAt : Int32) (q_spot : Int32) (q_place : Int32) (q_token : Int32) (q_value : Int32) (m_ends : Nat) (m_letters : Nat) (m_actOf : Nat) (m_whom : Nat) (m_actMany : Nat) (m_tokens : Nat) (m_afters : Nat) (m_afterOf : Nat) (q_counted : Int32) (m_pile : Nat) (m_caseMany : Nat) (m_happen : Nat) (m_hasIf : Nat) (m_becomes : Nat) (m_goneOf : Nat) (m_heard : Nat) (m_pairs : Nat) (m_heaps : Nat) (q_rounds : Int32) (q_heapMany : Int32) (m_led : Nat) (m_newAt : Nat) (m_knowing : Nat) (m_firsts : Nat) (q_people : Nat) (m_secrets : Nat) (m_tried : Nat) (m_lanes : Nat) (m_lengths : Nat) (m_cells : Nat) (f_secrets : Nat → Int32) (hq_people : q_people ≤ 4) : CT l yX12_secrets (Cond.code yX12_secrets cX12_secrets 2 (some .int) :: TB) ({ frames := 2, cells := 0, slots := 0, locals := 46 }) E ro [.ref hm, .int v0] [(hm, .inr (12, [.ref m_manys, .ref m_reals, .ref m_factsOf, .ref m_possible, .int (nI q_undos), .int (nI q_models), .ref m_tape, .int (nI q_taped), .int q_fault, .int q_wrong, .int q_wrongAt, .int q_spot, .int q_place, .int q_token, .int q_value, .ref m_ends, .ref m_letters, .ref m_actOf, .ref m_whom, .ref m_actMany, .ref m_tokens, .ref m_afters, .ref m_afterOf, .int q_counted, .ref m_pile, .ref m_caseMany, .ref m_happen, .ref m_hasIf, .ref m_becomes, .ref m_goneOf, .ref m_heard, .ref m_pairs, .ref m_heaps, .int q_rounds, .int q_heapMany, .ref m_led, .ref m_newAt, .ref m_knowing, .ref m_firsts, .int (nI q_people), .ref m_secrets, .ref m_tried, .ref m_lanes, .ref m_lengths, .ref m_cells])), (m_secrets, .inl (E.2.1 1, 4, .inl f_secrets))] (Qi E (fun (rz : Int32) uz => (rz = (-1) ∧ uz = [(hm, .inr (12, [.ref m_manys, .ref m_reals, .ref m_factsOf, .ref m_possible, .int (nI q_undos), .int (nI q_models), .ref m_tape, .int (nI q_taped), .int q_fault, .int q_wrong, .int q_wrongAt, .int q_spot, .int q_place, .int q_token, .int q_value, .ref m_ends, .ref m_letters, .ref m_actOf, .ref m_whom, .ref m_actMany, .ref m_tokens, .ref m_afters, .ref m_afterOf, .int q_counted, .ref m_pile, .ref m_caseMany, .ref m_happen, .ref m_hasIf, .ref m_becomes, .ref m_goneOf, .ref m_heard, .ref m_pairs, .ref m_heaps, .int q_rounds, .int q_heapMany, .ref m_led, .ref m_newAt, .ref m_knowing, .ref m_firsts, .int (nI q_people), .ref m_secrets, .ref m_tried, .ref m_lanes, .ref m_lengths, .ref m_cells])), (m_secrets, .inl (E.2.1 1, 4, .inl f_secrets))] ∧ (v0.toInt < 0 ∨ (q_people : Int) ≤ v0.toInt)) ∨ (∃ (i_ : Nat), rz = (f_secrets i_) ∧ uz = [(hm, .inr (12, [.ref m_manys, .ref m_reals, .ref m_factsOf, .ref m_possible, .int (nI q_undos), .int (nI q_models), .ref m_tape, .int (nI q_taped), .int q_fault, .int q_wrong, .int q_wrongAt, .int q_spot, .int q_place, .int q_token, .int q_value, .ref m_ends, .ref m_letters, .ref m_actOf, .ref m_whom, .ref m_actMany, .ref m_tokens, .ref m_afters, .ref m_afterOf, .int q_counted, .ref m_pile, .ref m_caseMany, .ref m_happen, .ref m_hasIf, .ref m_becomes, .ref m_goneOf, .ref m_heard, .ref m_pairs, .ref m_heaps, .int q_rounds, .int q_heapMany, .ref m_led, .ref m_newAt, .ref m_knowing, .ref m_firsts, .int (nI q_people), .ref m_secrets, .ref m_tried, .ref m_lanes, .ref m_lengths, .ref m_cells])), (m_secrets, .inl (E.2.1 1, 4, .inl f_secrets))] ∧ (v0 = nI i_) ∧ (i_ < q_people)))) 0 0 := by
  refine ct_of rfl rfl ?_
  intro X C hT hin hro
  show WW X 2 E 0 [(0, .ref hm), (1, .int v0)] [] [(hm, .inr (12, [.ref m_manys, .ref m_reals, .ref m_factsOf, .ref m_possible, .int (nI q_undos), .int (nI q_models), .ref m_tape, .int (nI q_taped), .int q_fault, .int q_wrong, .int q_wrongAt, .int q_spot, .int q_place, .int q_token, .int q_value, .ref m_ends, .ref m_letters, .ref m_actOf, .ref m_whom, .ref m_actMany, .ref m_tokens, .ref m_afters, .ref m_afterOf, .int q_counted, .ref m_pile, .ref m_caseMany, .ref m_happen, .ref m_hasIf, .ref m_becomes, .ref m_goneOf, .ref m_heard, .ref m_pairs, .ref m_heaps, .int q_rounds, .int q_heapMany, .ref m_led, .ref m_newAt, .ref m_knowing, .ref m_firsts, .int (nI q_people), .ref m_secrets, .ref m_tried, .ref m_lanes, .ref m_lengths, .ref m_cells])), (m_secrets, .inl (E.2.1 1, 4, .inl f_secrets))] 0 0
  refine ww_aload_n C dX12_secrets_0 0 rfl rfl ?_
  refine ww_iload_n C dX12_secrets_1 1 rfl rfl ?_
  refine ww_ci (wr := [(m_secrets, .inl (E.2.1 1, 4, .inl f_secrets))]) (k' := 0) (n' := 0) C (run_V (As := [.int v0]) (rest := []) C (r_isOne X.2.1 E ro hm v0 m_manys m_reals m_factsOf m_possible q_undos q_models m_tape q_taped q_fault q_wrong q_wrongAt q_spot q_place q_token q_value m_ends m_letters m_actOf m_whom m_actMany m_tokens m_afters m_afterOf q_counted m_pile m_caseMany m_happen m_hasIf m_becomes m_goneOf m_heard m_pairs m_heaps q_rounds q_heapMany m_led m_newAt m_knowing m_firsts q_people m_secrets m_tried m_lanes m_lengths m_cells (by omega)) mi_X12_isOne wl_X12_335 rfl 0 12 rfl rfl rfl rfl rfl dX12_secrets_2) (roK hro) [0] [1] rfl rfl rfl rfl (fun r_1 uz hw => ?_)
  rcases hw with hw | hw
  · refine an3 hw ?_
    clear hw
    intro he_4 he_5 h_2 hw
    have h_3 := hw
    clear hw
    have he_4 := he_4.symm
    subst he_4
    subst he_5
    refine ww_eq (ws' := [(m_secrets, .inl (E.2.1 1, 4, .inl f_secrets)), (hm, .inr (12, [.ref m_manys, .ref m_reals, .ref m_factsOf, .ref m_possible, .int (nI q_undos), .int (nI q_models), .ref m_tape, .int (nI q_taped), .int q_fault, .int q_wrong, .int q_wrongAt, .int q_spot, .int q_place, .int q_token, .int q_value, .ref m_ends, .ref m_letters, .ref m_actOf, .ref m_whom, .ref m_actMany, .ref m_tokens, .ref m_afters, .ref m_afterOf, .int q_counted, .ref m_pile, .ref m_caseMany, .ref m_happen, .ref m_hasIf, .ref m_becomes, .ref m_goneOf, .ref m_heard, .ref m_pairs, .ref m_heaps, .int q_rounds, .int q_heapMany, .ref m_led, .ref m_newAt, .ref m_knowing, .ref m_firsts, .int (nI q_people), .ref m_secrets, .ref m_tried, .ref m_lanes, .ref m_lengths, .ref m_cells]))]) ?_ rfl rfl rfl
    refine ww_if_eq_f (tgt := 17) C dX12_secrets_5 (by decide) (by decide) ?_
    obtain ⟨j_9, hj_9, rfl⟩ := i_nat (x := v0) (N := 3) (by omega) (by omega)
    have hzj_9 := nI_toInt (n := j_9) (by omega)
    refine ww_aload_n C dX12_secrets_8 0 rfl rfl ?_
    refine ww_get C fg_X12_90 1 rfl rfl dX12_secrets_9 ?_
    refine ww_iload_n C dX12_secrets_12 1 rfl rfl ?_
    obtain ⟨x_10, ex_10⟩ : ∃ z : Int32, f_secrets j_9 = z := ⟨_, rfl⟩
    refine ww_iald (v := x_10) C 0 rfl (vp_in_nI (by omega) (by omega)) (ldn (by omega) ex_10) dX12_secrets_13 ?_
    refine ww_goto (tgt := 18) C dX12_secrets_14 (by decide) ?_
    exact ww_iret (u := [(hm, .inr (12, [.ref m_manys, .ref m_reals, .ref m_factsOf, .ref m_possible, .int (nI q_undos), .int (nI q_models), .ref m_tape, .int (nI q_taped), .int q_fault, .int q_wrong, .int q_wrongAt, .int q_spot, .int q_place, .int q_token, .int q_value, .ref m_ends, .ref m_letters, .ref m_actOf, .ref m_whom, .ref m_actMany, .ref m_tokens, .ref m_afters, .ref m_afterOf, .int q_counted, .ref m_pile, .ref m_caseMany, .ref m_happen, .ref m_hasIf, .ref m_becomes, .ref m_goneOf, .ref m_heard, .ref m_pairs, .ref m_heaps, .int q_rounds, .int q_heapMany, .ref m_led, .ref m_newAt, .ref m_knowing, .ref m_firsts, .int (nI q_people), .ref m_secrets, .ref m_tried, .ref m_lanes, .ref m_lengths, .ref m_cells])), (m_secrets, .inl (E.2.1 1, 4, .inl f_secrets))]) C hT [1, 0] rfl rfl rfl rfl dX12_secrets_18 (Or.inr ⟨j_9, (by subst_vars; rfl), rfl, rfl, (by omega)⟩)
  · refine an2 hw ?_
    clear hw
    intro he_7 he_8 hw
    have h_6 := hw
    clear hw
    have he_7 := he_7.symm
    subst he_7
    subst he_8
    refine ww_eq (ws' := [(m_secrets, .inl (E.2.1 1, 4, .inl f_secrets)), (hm, .inr (12, [.ref m_manys, .ref m_reals, .ref m_factsOf, .ref m_possible, .int (nI q_undos), .int (nI q_models), .ref m_tape, .int (nI q_taped), .int q_fault, .int q_wrong, .int q_wrongAt, .int q_spot, .int q_place, .int q_token, .int q_value, .ref m_ends, .ref m_letters, .ref m_actOf, .ref m_whom, .ref m_actMany, .ref m_tokens, .ref m_afters, .ref m_afterOf, .int q_counted, .ref m_pile, .ref m_caseMany, .ref m_happen, .ref m_hasIf, .ref m_becomes, .ref m_goneOf, .ref m_heard, .ref m_pairs, .ref m_heaps, .int q_rounds, .int q_heapMany, .ref m_led, .ref m_newAt, .ref m_knowing, .ref m_firsts, .int (nI q_people), .ref m_secrets, .ref m_tried, .ref m_lanes, .ref m_lengths, .ref m_cells]))]) ?_ rfl rfl rfl
    refine ww_if_eq_t (tgt := 17) C dX12_secrets_5 (by decide) (rfl) ?_
    refine ww_iconst (v := (-1)) C dX12_secrets_17 rfl ?_
    exact ww_iret (u := [(hm, .inr (12, [.ref m_manys, .ref m_reals, .ref m_factsOf, .ref m_possible, .int (nI q_undos), .int (nI q_models), .ref m_tape, .int (nI q_taped), .int q_fault, .int q_wrong, .int q_wrongAt, .int q_spot, .int q_place, .int q_token, .int q_value, .ref m_ends, .ref m_letters, .ref m_actOf, .ref m_whom, .ref m_actMany, .ref m_tokens, .ref m_afters, .ref m_afterOf, .int q_counted, .ref m_pile, .ref m_caseMany, .ref m_happen, .ref m_hasIf, .ref m_becomes, .ref m_goneOf, .ref m_heard, .ref m_pairs, .ref m_heaps, .int q_rounds, .int q_heapMany, .ref m_led, .ref m_newAt, .ref m_knowing, .ref m_firsts, .int (nI q_people), .ref m_secrets, .ref m_tried, .ref m_lanes, .ref m_lengths, .ref m_cells])), (m_secrets, .inl (E.2.1 1, 4, .inl f_secrets))]) C hT [1, 0] rfl rfl rfl rfl dX12_secrets_18 (Or.inl ⟨(by subst_vars; rfl), rfl, (by first | assumption | omega | decide)⟩)
/-! calls by the number of their row -/
theorem cp_lt2 (p : Nat) : cpI p < cpJ p ∧ cpJ p < 4 := by
  unfold cpI cpJ
  by_cases h : p < 3
  · rw [if_pos h, if_pos h]; omega
  · by_cases h2 : p < 5
    · rw [if_neg h, if_neg h, if_pos h2, if_pos h2]; omega
    · rw [if_neg h, if_neg h, if_neg h2, if_neg h2]; omega
/-- the calls of the row tell all to all -/
def cpX (n : Nat) : Nat → Nat → (Nat → Int32) → Prop
  | 0, _, R => cpA n R
  | m + 1, row, R => cpJ (row / 6 ^ m) < n ∧ cpX n m (row % 6 ^ m) (cpC R (cpI (row / 6 ^ m)) (cpJ (row / 6 ^ m)))
theorem cpX_cg {n : Nat} : ∀ (c row : Nat) {R R' : Nat → Int32}, (∀ m, m < n → R m = R' m) → cpX n c row R → cpX n c row R'
  | 0, _, _, _, h, hA => cpA_cg h hA
  | c + 1, row, _, _, h, ⟨hj, hE⟩ => ⟨hj, cpX_cg c _ (cpC_cg h (by have := cp_lt2 (row / 6 ^ c); omega) hj) hE⟩
theorem cpX_E {n : Nat} : ∀ (c row : Nat) {R : Nat → Int32}, row < 6 ^ c → cpX n c row R → cpE n c R
  | 0, _, _, _, h => h
  | c + 1, row, _, hr, ⟨hj, hE⟩ => ⟨row / 6 ^ c, Nat.div_lt_of_lt_mul (by rw [Nat.pow_succ] at hr; exact hr), hj, cpX_E c _ (Nat.mod_lt _ (Nat.pow_pos (by decide))) hE⟩
theorem cpX_at {c q r : Nat} (hr : r < 6 ^ c) : (q * 6 ^ c + r) / 6 ^ c = q ∧ (q * 6 ^ c + r) % 6 ^ c = r := by
  have hp : 0 < 6 ^ c := Nat.pow_pos (by decide)
  constructor
  · rw [Nat.add_comm, Nat.add_mul_div_right _ _ hp, Nat.div_eq_of_lt hr, Nat.zero_add]
  · rw [Nat.add_comm, Nat.add_mul_mod_self_right, Nat.mod_eq_of_lt hr]
theorem cpX_mk {n c q r : Nat} {R : Nat → Int32} (hr : r < 6 ^ c) (hj : cpJ q < n) (h : cpX n c r (cpC R (cpI q) (cpJ q))) : cpX n (c + 1) (q * 6 ^ c + r) R := by
  show cpJ ((q * 6 ^ c + r) / 6 ^ c) < n ∧ cpX n c ((q * 6 ^ c + r) % 6 ^ c) (cpC R (cpI ((q * 6 ^ c + r) / 6 ^ c)) (cpJ ((q * 6 ^ c + r) / 6 ^ c)))
  rw [(cpX_at hr).1, (cpX_at hr).2]
  exact ⟨hj, h⟩
theorem cpE_X {n : Nat} : ∀ (c : Nat) {R : Nat → Int32}, cpE n c R → ∃ row, row < 6 ^ c ∧ cpX n c row R
  | 0, _, h => ⟨0, by decide, h⟩
  | c + 1, _, ⟨p, hp, hj, hE⟩ => by
    obtain ⟨r, hr, hX⟩ := cpE_X c hE
    refine ⟨p * 6 ^ c + r, ?_, cpX_mk hr hj hX⟩
    rw [Nat.pow_succ]
    have h1 : p * 6 ^ c ≤ 5 * 6 ^ c := Nat.mul_le_mul_right _ (by omega)
    omega
/-- the first row's first call is the first call -/
theorem cpX_F {n d r : Nat} {R : Nat → Int32} {rz : Int32} (hn : n ≤ 4) (hr : r < 6 ^ (d + 1)) (h : cpX n (d + 1) r R) (hf : ∀ s, s < r → ¬ cpX n (d + 1) s R) (ez : rz = nI (10 * cpI (r / 6 ^ d) + cpJ (r / 6 ^ d))) : FCx n (cpE n d) R rz := by
  have hp : r / 6 ^ d < 6 := Nat.div_lt_of_lt_mul (by rw [Nat.pow_succ] at hr; exact hr)
  refine Or.inl ⟨cpI (r / 6 ^ d), cpJ (r / 6 ^ d), (cp_lt2 _).1, h.1, cpX_E d _ (Nat.mod_lt _ (Nat.pow_pos (by decide))) h.2, ?_, ez⟩
  intro a b h1 h2 h3 hE
  obtain ⟨q, hq, rfl, rfl⟩ := cp_pair a (by omega) b (by omega) h1
  have hqp : q < r / 6 ^ d := by
    by_cases z : q < r / 6 ^ d
    · exact z
    · by_cases y : q = r / 6 ^ d
      · rw [y] at h3; omega
      · have := cp_lex q hq (r / 6 ^ d) hp (by omega); omega
  obtain ⟨s, hs, hX⟩ := cpE_X d hE
  refine hf (q * 6 ^ d + s) ?_ (cpX_mk hs h2 hX)
  have h4 : (q + 1) * 6 ^ d ≤ (r / 6 ^ d) * 6 ^ d := Nat.mul_le_mul_right _ (by omega)
  have h5 : (r / 6 ^ d) * 6 ^ d ≤ r := Nat.div_mul_le_self _ _
  rw [Nat.add_mul, Nat.one_mul] at h4
  omega
/-- the answer by rows -/
def FWQr (n : Nat) (R : Nat → Int32) (v rz : Int32) : Prop :=
  ((v.toInt < 0 ∨ 1 < v.toInt) ∧ rz = -1) ∨ (0 ≤ v.toInt ∧ v.toInt ≤ 1 ∧ n = 0 ∧ rz = -2) ∨ (0 ≤ v.toInt ∧ v.toInt ≤ 1 ∧ n ≠ 0 ∧ ((∀ c, c < 6 → ∀ r, r < 6 ^ c → ¬ cpX n c r R) ∨ ∃ c r : Nat, c < 6 ∧ r < 6 ^ c ∧ (∀ d, d < c → ∀ s, s < 6 ^ d → ¬ cpX n d s R) ∧ (∀ s, s < r → ¬ cpX n c s R) ∧ cpX n c r R ∧ ((v.toInt = 0 ∧ rz = nI c) ∨ (v.toInt = 1 ∧ c = 0 ∧ rz = -4) ∨ (v.toInt = 1 ∧ ∃ d, c = d + 1 ∧ rz = nI (10 * cpI (r / 6 ^ d) + cpJ (r / 6 ^ d))))))
theorem FWQr.x {n : Nat} {R : Nat → Int32} {v rz : Int32} (h : FWQr n R v rz) (hk : n = 0 ∨ (2 ≤ n ∧ n ≤ 4 ∧ cpK n R)) : FWx n (cpE n) R v rz := by
  rcases h with h | h | ⟨h1, h2, h3, h4⟩
  · exact Or.inl h
  · exact Or.inr (Or.inl h)
  · obtain ⟨k1, k2, k3⟩ : 2 ≤ n ∧ n ≤ 4 ∧ cpK n R := hk.resolve_left h3
    obtain ⟨s4, hs4, hX4⟩ := cpE_X 4 (cpE_4 k1 k2 k3)
    rcases h4 with h4 | ⟨c, r, hc, hr, hd, hf, hX, ha⟩
    · exact absurd hX4 (h4 4 (by omega) s4 hs4)
    · have hc4 : c ≤ 4 := by
        by_cases z : c ≤ 4
        · exact z
        · exact absurd hX4 (hd 4 (by omega) s4 hs4)
      refine Or.inr (Or.inr ⟨h1, h2, h3, c, hc4, fun d hdc hE => ?_, fun _ => cpX_E c r hr hX, ?_⟩)
      · obtain ⟨s, hs, hXs⟩ := cpE_X d hE
        exact hd d hdc s hs hXs
      · rcases ha with ha | ha | ⟨ha, d, rfl, ez⟩
        · exact Or.inl ha
        · exact Or.inr (Or.inl ha)
        · exact Or.inr (Or.inr ⟨ha, d, rfl, cpX_F k2 hr hX hf ez⟩)
theorem FWx.cg {n : Nat} {P Q : Nat → (Nat → Int32) → Prop} {R : Nat → Int32} {v rz : Int32} (h : FWx n P R v rz) (hq : n ≠ 0 → ∀ d S, P d S ↔ Q d S) : FWx n Q R v rz := by
  rcases h with h | h | ⟨h1, h2, h3, c, h4, h5, h6, h7⟩
  · exact Or.inl h
  · exact Or.inr (Or.inl h)
  · refine Or.inr (Or.inr ⟨h1, h2, h3, c, h4, fun d hd hQ => h5 d hd ((hq h3 d R).mpr hQ), fun hc => (hq h3 c R).mp (h6 hc), ?_⟩)
    rcases h7 with h7 | h7 | ⟨h7, d, h8, h9⟩
    · exact Or.inl h7
    · exact Or.inr (Or.inl h7)
    · exact Or.inr (Or.inr ⟨h7, d, h8, h9.cg (hq h3 d)⟩)
theorem FWx.uniq {n : Nat} {P : Nat → (Nat → Int32) → Prop} {R : Nat → Int32} {v x y : Int32} (h4 : n ≠ 0 → P 4 R) (h : FWx n P R v x) (h' : FWx n P R v y) : x = y := by
  have hlast : n ≠ 0 → ∀ c, c ≤ 4 → (c < 4 → P c R) → P c R := fun h0 c hc hp => by
    by_cases z : c < 4
    · exact hp z
    · rw [show c = 4 by omega]; exact h4 h0
  rcases h with ⟨h1, h2⟩ | ⟨h1, h2, h3, h5⟩ | ⟨h1, h2, h3, c, c1, c2, c3, c5⟩
  · rcases h' with ⟨k1, k2⟩ | ⟨k1, k2, k3, k5⟩ | ⟨k1, k2, k3, k5⟩
    · rw [h2, k2]
    · exact absurd k1 (by omega)
    · exact absurd k1 (by omega)
  · rcases h' with ⟨k1, k2⟩ | ⟨k1, k2, k3, k5⟩ | ⟨k1, k2, k3, k5⟩
    · exact absurd k1 (by omega)
    · rw [h5, k5]
    · exact absurd h3 k3
  · rcases h' with ⟨k1, k2⟩ | ⟨k1, k2, k3, k5⟩ | ⟨k1, k2, k3, b, b1, b2, b3, b5⟩
    · exact absurd k1 (by omega)
    · exact absurd k3 h3
    · have e : c = b := by
        rcases Nat.lt_trichotomy c b with z | z | z
        · exact absurd (hlast h3 c c1 c3) (b2 c z)
        · exact z
        · exact absurd (hlast h3 b b1 b3) (c2 b z)
      subst e
      rcases c5 with ⟨q1, q2⟩ | ⟨q1, q2, q3⟩ | ⟨q1, d, q2, q3⟩
      · rcases b5 with ⟨r1, r2⟩ | ⟨r1, r2, r3⟩ | ⟨r1, e, r2, r3⟩
        · rw [q2, r2]
        · exact absurd q1 (by omega)
        · exact absurd q1 (by omega)
      · rcases b5 with ⟨r1, r2⟩ | ⟨r1, r2, r3⟩ | ⟨r1, e, r2, r3⟩
        · exact absurd q1 (by omega)
        · rw [q3, r3]
        · exact absurd q2 (by omega)
      · rcases b5 with ⟨r1, r2⟩ | ⟨r1, r2, r3⟩ | ⟨r1, e, r2, r3⟩
        · exact absurd q1 (by omega)
        · exact absurd q2 (by omega)
        · have e2 : d = e := by omega
          rw [e2] at q3
          exact q3.uniq r3
theorem FCx.cgR {n d : Nat} {R R' : Nat → Int32} {r : Int32} (h : FCx n (cpE n d) R r) (e : ∀ m, m < n → R m = R' m) : FCx n (cpE n d) R' r := by
  have hb : ∀ i j, PBx n (cpE n d) R i j → PBx n (cpE n d) R' i j := fun i j hb a b h1 h2 h3 hz => hb a b h1 h2 h3 (cpE_cg d (cpC_cg (fun m hm => (e m hm).symm) (by omega) h2) hz)
  rcases h with ⟨i, j, h1, h2, h3, h4, h5⟩ | ⟨h1, h2⟩
  · exact Or.inl ⟨i, j, h1, h2, cpE_cg d (cpC_cg e (by omega) h2) h3, hb _ _ h4, h5⟩
  · exact Or.inr ⟨hb _ _ h1, h2⟩
theorem FWx.cgR {n : Nat} {R R' : Nat → Int32} {v rz : Int32} (h : FWx n (cpE n) R v rz) (e : ∀ m, m < n → R m = R' m) : FWx n (cpE n) R' v rz := by
  rcases h with h | h | ⟨h1, h2, h3, c, h4, h5, h6, h7⟩
  · exact Or.inl h
  · exact Or.inr (Or.inl h)
  · refine Or.inr (Or.inr ⟨h1, h2, h3, c, h4, fun d hd hQ => h5 d hd (cpE_cg d (fun m hm => (e m hm).symm) hQ), fun hc => cpE_cg c e (h6 hc), ?_⟩)
    rcases h7 with h7 | h7 | ⟨h7, d, h8, h9⟩
    · exact Or.inl h7
    · exact Or.inr (Or.inl h7)
    · exact Or.inr (Or.inr ⟨h7, d, h8, h9.cgR e⟩)
/-! the row's calls one by one -/
theorem cpIJ_1 {z : Nat} (h : z < 3) : cpI z = 0 ∧ cpJ z = z + 1 := by unfold cpI cpJ; rw [if_pos h, if_pos h]; exact ⟨rfl, rfl⟩
theorem cpIJ_2 {z : Nat} (h : 3 ≤ z ∧ z < 5) : cpI z = 1 ∧ cpJ z = z - 1 := by unfold cpI cpJ; rw [if_neg (by omega), if_pos h.2, if_neg (by omega), if_pos h.2]; exact ⟨rfl, rfl⟩
theorem cpIJ_3 {z : Nat} (h : 5 ≤ z) : cpI z = 2 ∧ cpJ z = 3 := by unfold cpI cpJ; rw [if_neg (by omega), if_neg (by omega), if_neg (by omega), if_neg (by omega)]; exact ⟨rfl, rfl⟩
theorem ak_cp {F g g2 : Nat → Int32} {i : Nat} {x : Int32} (h : ∀ m, m < i → g m = F m) (ex : F i = x) (ef : upd g i x = g2) : ∀ m, m < i + 1 → g2 m = F m := fun m hm => by
  rw [← ef]
  by_cases q : m = i
  · rw [q, pk_us, ex]
  · rw [pk_un (by omega)]; exact h m (by omega)
theorem cpX_u {q m r : Nat} {g : Nat → Int32} : cpX q (m + 1) r g = (cpJ (r / 6 ^ m) < q ∧ cpX q m (r % 6 ^ m) (cpC g (cpI (r / 6 ^ m)) (cpJ (r / 6 ^ m)))) := rfl
theorem ak_no {n k lf b z q : Nat} {P : Prop} {g : Nat → Int32} (h : cpX q (n - k) lf g ↔ P) (hk : k < n) (hb : b = 6 ^ (n - 1 - k)) (ez : lf / b = z) (hj : q ≤ cpJ z) : ¬ P := fun hp => by
  have h1 := h.mpr hp
  rw [show n - k = (n - 1 - k) + 1 by omega, cpX_u, ← hb, ez] at h1
  exact absurd h1.1 (by omega)
theorem ak_go {n k lf b z r q i j : Nat} {P : Prop} {g f1 f2 : Nat → Int32} {x y w : Int32} (h : cpX q (n - k) lf g ↔ P) (hk : k < n) (hb : b = 6 ^ (n - 1 - k)) (ez : lf / b = z) (er : lf % b = r) (hi : cpI z = i) (hj : cpJ z = j) (hq : j < q) (ex : g i = x) (ey : g j = y) (eo : x ||| y = w) (e1 : upd g i w = f1) (e2 : upd f1 j w = f2) : cpX q (n - (k + 1)) r f2 ↔ P := by
  have hf : cpC g i j = f2 := by
    rw [← e2, ← e1, ← eo, ← ex, ← ey]
    funext m
    show (if m = i ∨ m = j then g i ||| g j else g m) = _
    by_cases q2 : m = j
    · rw [if_pos (Or.inr q2), q2, pk_us]
    · rw [pk_un q2]
      by_cases q1 : m = i
      · rw [if_pos (Or.inl q1), q1, pk_us]
      · rw [pk_un q1, if_neg (fun z => z.elim q1 q2)]
  rw [show n - k = (n - 1 - k) + 1 by omega, cpX_u, ← hb, ez, er, hi, hj, hf] at h
  rw [show n - (k + 1) = n - 1 - k by omega]
  exact ⟨fun p => h.mp ⟨hq, p⟩, fun p => (h.mpr p).2⟩
theorem ak_all {q : Nat} {r : Int32} (hr : ∀ b, b < 32 → bt r b = decide (b < q)) (hq : q ≤ 4) : nI (2 ^ q - 1) = r := b_ext (fun b hb => by rw [cp_ones q hq b hb, hr b hb])
theorem ak_bad {n k lf q i : Nat} {P : Prop} {g : Nat → Int32} {x r : Int32} (h : cpX q (n - k) lf g ↔ P) (hk : n ≤ k) (hi : i < q) (ex : g i = x) (hr : ∀ b, b < 32 → bt r b = decide (b < q)) (hq : q ≤ 4) (hne : x.toInt ≠ r.toInt) : ¬ P := fun hp => by
  have h1 := h.mpr hp
  rw [show n - k = 0 by omega] at h1
  have h2 : g i = nI (2 ^ q - 1) := h1 i hi
  exact hne (by rw [← ex, h2, ak_all hr hq])
theorem ak_s2 {q i : Nat} {g : Nat → Int32} {x r : Int32} (h : ∀ m, m < i → g m = nI (2 ^ q - 1)) (ex : g i = x) (hr : ∀ b, b < 32 → bt r b = decide (b < q)) (hq : q ≤ 4) (he : x.toInt = r.toInt) : ∀ m, m < i + 1 → g m = nI (2 ^ q - 1) := fun m hm => by
  by_cases z : m = i
  · rw [z, ex, ak_all hr hq]; exact Int32.toInt_inj.mp he
  · exact h m (by omega)
theorem ak_fin {n k lf q : Nat} {P : Prop} {g : Nat → Int32} (h : cpX q (n - k) lf g ↔ P) (hk : n ≤ k) (hA : ∀ m, m < q → g m = nI (2 ^ q - 1)) : P := h.mp (by rw [show n - k = 0 by omega]; exact hA)
theorem cpN_s {n q r : Nat} {F : Nat → Int32} (h : ∀ c, c < n → ∀ r, r < 6 ^ c → ¬ cpX q c r F) (hs : ∀ s, s < r → ¬ cpX q n s F) (hr : 6 ^ n ≤ r) : ∀ c, c < n + 1 → ∀ r, r < 6 ^ c → ¬ cpX q c r F := fun c hc s hs2 => by
  by_cases z : c = n
  · subst z; exact hs s (by omega)
  · exact h c (by omega) s hs2
theorem fw_1 {r b m z : Nat} (hb : b = 6 ^ m) (ez : r / b = z) (h : z < 3) : nI (z + 1) = nI (10 * cpI (r / 6 ^ m) + cpJ (r / 6 ^ m)) := by
  rw [← hb, ez, (cpIJ_1 h).1, (cpIJ_1 h).2]; exact congrArg nI (by omega)
theorem fw_2 {r b m z : Nat} (hb : b = 6 ^ m) (ez : r / b = z) (h : 3 ≤ z ∧ z < 5) : nI (z + 9) = nI (10 * cpI (r / 6 ^ m) + cpJ (r / 6 ^ m)) := by
  rw [← hb, ez, (cpIJ_2 h).1, (cpIJ_2 h).2]; exact congrArg nI (by omega)
theorem fw_3 {r b m z : Nat} (hb : b = 6 ^ m) (ez : r / b = z) (h : 5 ≤ z) : (23 : Int32) = nI (10 * cpI (r / 6 ^ m) + cpJ (r / 6 ^ m)) := by
  rw [← hb, ez, (cpIJ_3 h).1, (cpIJ_3 h).2]; rfl
end
section
theorem dX12_allKnow_0 : decode cX12_allKnow 0 = .ok (.iconst 0, 1) := dl_3 (by decide +kernel)
theorem dX12_allKnow_1 : decode cX12_allKnow 1 = .ok (.istore_n 3, 1) := dl_62 (by decide +kernel)
theorem dX12_allKnow_2 : decode cX12_allKnow 2 = .ok (.iload_n 3, 1) := dl_29 (by decide +kernel)
theorem dX12_allKnow_3 : decode cX12_allKnow 3 = .ok (.aload_n 0, 1) := dl_42 (by decide +kernel)
theorem dX12_allKnow_4 : decode cX12_allKnow 4 = .ok (.getfield 332, 3) := dl_180 (by decide +kernel)
theorem dX12_allKnow_7 : decode cX12_allKnow 7 = .ok (.if_icmp .ge 21, 3) := dl_162 (by decide +kernel)
theorem dX12_allKnow_28 : decode cX12_allKnow 28 = .ok (.iconst 1, 1) := dl_4 (by decide +kernel)
theorem dX12_allKnow_29 : decode cX12_allKnow 29 = .ok (.istore_n 3, 1) := dl_62 (by decide +kernel)
theorem dX12_allKnow_30 : decode cX12_allKnow 30 = .ok (.iconst 1, 1) := dl_4 (by decide +kernel)
theorem dX12_allKnow_31 : decode cX12_allKnow 31 = .ok (.istore 4, 2) := dl_54 (by decide +kernel)
theorem dX12_allKnow_33 : decode cX12_allKnow 33 = .ok (.iload 4, 2) := dl_21 (by decide +kernel)
theorem dX12_allKnow_35 : decode cX12_allKnow 35 = .ok (.iload_n 2, 1) := dl_28 (by decide +kernel)
theorem dX12_allKnow_36 : decode cX12_allKnow 36 = .ok (.if_icmp .ge 14, 3) := dl_162 (by decide +kernel)
theorem dX12_allKnow_50 : decode cX12_allKnow 50 = .ok (.iload_n 1, 1) := dl_27 (by decide +kernel)
theorem dX12_allKnow_51 : decode cX12_allKnow 51 = .ok (.istore 4, 2) := dl_54 (by decide +kernel)
theorem dX12_allKnow_53 : decode cX12_allKnow 53 = .ok (.iconst 1, 1) := dl_4 (by decide +kernel)
theorem dX12_allKnow_54 : decode cX12_allKnow 54 = .ok (.istore 5, 2) := dl_54 (by decide +kernel)
theorem dX12_allKnow_56 : decode cX12_allKnow 56 = .ok (.iconst 0, 1) := dl_3 (by decide +kernel)
theorem dX12_allKnow_57 : decode cX12_allKnow 57 = .ok (.istore 6, 2) := dl_54 (by decide +kernel)
theorem dX12_allKnow_59 : decode cX12_allKnow 59 = .ok (.iload 6, 2) := dl_21 (by decide +kernel)
theorem dX12_allKnow_61 : decode cX12_allKnow 61 = .ok (.iload_n 2, 1) := dl_28 (by decide +kernel)
theorem dX12_allKnow_62 : decode cX12_allKnow 62 = .ok (.if_icmp .ge 135, 3) := dl_162 (by decide +kernel)
theorem dX12_allKnow_197 : decode cX12_allKnow 197 = .ok (.iconst 0, 1) := dl_3 (by decide +kernel)
theorem dX12_allKnow_198 : decode cX12_allKnow 198 = .ok (.istore 6, 2) := dl_54 (by decide +kernel)
theorem dX12_allKnow_200 : decode cX12_allKnow 200 = .ok (.iload 6, 2) := dl_21 (by decide +kernel)
theorem dX12_allKnow_202 : decode cX12_allKnow 202 = .ok (.aload_n 0, 1) := dl_42 (by decide +kernel)
theorem dX12_allKnow_203 : decode cX12_allKnow 203 = .ok (.getfield 332, 3) := dl_180 (by decide +kernel)
theorem dX12_allKnow_206 : decode cX12_allKnow 206 = .ok (.if_icmp .ge 38, 3) := dl_162 (by decide +kernel)
theorem dX12_allKnow_244 : decode cX12_allKnow 244 = .ok (.iload 5, 2) := dl_21 (by decide +kernel)
theorem dX12_allKnow_246 : decode cX12_allKnow 246 = .ok (.ireturn, 1) := dl_172 (by decide +kernel)
theorem dX12_allKnow_209 : decode cX12_allKnow 209 = .ok (.iload 5, 2) := dl_21 (by decide +kernel)
theorem dX12_allKnow_211 : decode cX12_allKnow 211 = .ok (.ifCond .eq 24, 3) := dl_153 (by decide +kernel)
theorem dX12_allKnow_235 : decode cX12_allKnow 235 = .ok (.iconst 0, 1) := dl_3 (by decide +kernel)
theorem dX12_allKnow_236 : decode cX12_allKnow 236 = .ok (.istore 5, 2) := dl_54 (by decide +kernel)
theorem dX12_allKnow_238 : decode cX12_allKnow 238 = .ok (.iinc 6 1, 3) := dl_132 (by decide +kernel)
theorem dX12_allKnow_241 : decode cX12_allKnow 241 = .ok (.goto (-41), 3) := dl_167 (by decide +kernel)
theorem dX12_allKnow_214 : decode cX12_allKnow 214 = .ok (.aload_n 0, 1) := dl_42 (by decide +kernel)
theorem dX12_allKnow_215 : decode cX12_allKnow 215 = .ok (.getfield 93, 3) := dl_180 (by decide +kernel)
theorem wf_X12_93 : Cond.fieldLink RX12 93 RX12 "tried" "[I" ∈ TB := tbm (tq5 (List.mem_of_getElem? (i := 119) (by decide +kernel))) (by decide +kernel)
theorem fg_X12_93 : FG RX12 93 12 41 := ⟨RX12, TX12, 45, uw_X12, wf_X12_93, rfl, by decide, rfl⟩
theorem dX12_allKnow_218 : decode cX12_allKnow 218 = .ok (.iload 6, 2) := dl_21 (by decide +kernel)
theorem dX12_allKnow_220 : decode cX12_allKnow 220 = .ok (.iaload, 1) := dl_46 (by decide +kernel)
theorem dX12_allKnow_221 : decode cX12_allKnow 221 = .ok (.aload_n 0, 1) := dl_42 (by decide +kernel)
theorem dX12_allKnow_222 : decode cX12_allKnow 222 = .ok (.getfield 332, 3) := dl_180 (by decide +kernel)
theorem dX12_allKnow_225 : decode cX12_allKnow 225 = .ok (.invokestatic 230, 3) := dl_184 (by decide +kernel)
theorem dX12_allKnow_228 : decode cX12_allKnow 228 = .ok (.if_icmp .ne 7, 3) := dl_160 (by decide +kernel)
theorem dX12_allKnow_231 : decode cX12_allKnow 231 = .ok (.iconst 1, 1) := dl_4 (by decide +kernel)
theorem dX12_allKnow_232 : decode cX12_allKnow 232 = .ok (.goto 4, 3) := dl_167 (by decide +kernel)
theorem dX12_allKnow_65 : decode cX12_allKnow 65 = .ok (.iload 5, 2) := dl_21 (by decide +kernel)
theorem dX12_allKnow_67 : decode cX12_allKnow 67 = .ok (.ifCond .eq 130, 3) := dl_153 (by decide +kernel)
theorem dX12_allKnow_70 : decode cX12_allKnow 70 = .ok (.iload 4, 2) := dl_21 (by decide +kernel)
theorem dX12_allKnow_72 : decode cX12_allKnow 72 = .ok (.iload_n 3, 1) := dl_29 (by decide +kernel)
theorem dX12_allKnow_73 : decode cX12_allKnow 73 = .ok (.idiv, 1) := dl_108 (by decide +kernel)
theorem dX12_allKnow_74 : decode cX12_allKnow 74 = .ok (.istore 7, 2) := dl_54 (by decide +kernel)
theorem dX12_allKnow_76 : decode cX12_allKnow 76 = .ok (.iload 4, 2) := dl_21 (by decide +kernel)
theorem dX12_allKnow_78 : decode cX12_allKnow 78 = .ok (.iload_n 3, 1) := dl_29 (by decide +kernel)
theorem dX12_allKnow_79 : decode cX12_allKnow 79 = .ok (.irem, 1) := dl_112 (by decide +kernel)
theorem dX12_allKnow_80 : decode cX12_allKnow 80 = .ok (.istore 4, 2) := dl_54 (by decide +kernel)
theorem dX12_allKnow_82 : decode cX12_allKnow 82 = .ok (.iload_n 3, 1) := dl_29 (by decide +kernel)
theorem dX12_allKnow_83 : decode cX12_allKnow 83 = .ok (.bipush 6, 2) := dl_16 (by decide +kernel)
theorem dX12_allKnow_85 : decode cX12_allKnow 85 = .ok (.idiv, 1) := dl_108 (by decide +kernel)
theorem dX12_allKnow_86 : decode cX12_allKnow 86 = .ok (.istore_n 3, 1) := dl_62 (by decide +kernel)
theorem dX12_allKnow_87 : decode cX12_allKnow 87 = .ok (.iload 7, 2) := dl_21 (by decide +kernel)
theorem dX12_allKnow_89 : decode cX12_allKnow 89 = .ok (.iconst 3, 1) := dl_6 (by decide +kernel)
theorem dX12_allKnow_90 : decode cX12_allKnow 90 = .ok (.if_icmp .ge 7, 3) := dl_162 (by decide +kernel)
theorem dX12_allKnow_97 : decode cX12_allKnow 97 = .ok (.iload 7, 2) := dl_21 (by decide +kernel)
theorem dX12_allKnow_99 : decode cX12_allKnow 99 = .ok (.iconst 5, 1) := dl_8 (by decide +kernel)
theorem dX12_allKnow_100 : decode cX12_allKnow 100 = .ok (.if_icmp .ge 7, 3) := dl_162 (by decide +kernel)
theorem dX12_allKnow_107 : decode cX12_allKnow 107 = .ok (.iconst 2, 1) := dl_5 (by decide +kernel)
theorem dX12_allKnow_108 : decode cX12_allKnow 108 = .ok (.istore 8, 2) := dl_54 (by decide +kernel)
theorem dX12_allKnow_110 : decode cX12_allKnow 110 = .ok (.iload 7, 2) := dl_21 (by decide +kernel)
theorem dX12_allKnow_112 : decode cX12_allKnow 112 = .ok (.iconst 3, 1) := dl_6 (by decide +kernel)
theorem dX12_allKnow_113 : decode cX12_allKnow 113 = .ok (.if_icmp .ge 10, 3) := dl_162 (by decide +kernel)
theorem dX12_allKnow_123 : decode cX12_allKnow 123 = .ok (.iload 7, 2) := dl_21 (by decide +kernel)
theorem dX12_allKnow_125 : decode cX12_allKnow 125 = .ok (.iconst 5, 1) := dl_8 (by decide +kernel)
theorem dX12_allKnow_126 : decode cX12_allKnow 126 = .ok (.if_icmp .ge 10, 3) := dl_162 (by decide +kernel)
theorem dX12_allKnow_136 : decode cX12_allKnow 136 = .ok (.iconst 3, 1) := dl_6 (by decide +kernel)
theorem dX12_allKnow_137 : decode cX12_allKnow 137 = .ok (.istore 9, 2) := dl_54 (by decide +kernel)
theorem dX12_allKnow_139 : decode cX12_allKnow 139 = .ok (.iload 9, 2) := dl_21 (by decide +kernel)
theorem dX12_allKnow_141 : decode cX12_allKnow 141 = .ok (.aload_n 0, 1) := dl_42 (by decide +kernel)
theorem dX12_allKnow_142 : decode cX12_allKnow 142 = .ok (.getfield 332, 3) := dl_180 (by decide +kernel)
theorem dX12_allKnow_145 : decode cX12_allKnow 145 = .ok (.if_icmp .ge 7, 3) := dl_162 (by decide +kernel)
theorem dX12_allKnow_152 : decode cX12_allKnow 152 = .ok (.iconst 0, 1) := dl_3 (by decide +kernel)
theorem dX12_allKnow_153 : decode cX12_allKnow 153 = .ok (.istore 5, 2) := dl_54 (by decide +kernel)
theorem dX12_allKnow_155 : decode cX12_allKnow 155 = .ok (.iload 5, 2) := dl_21 (by decide +kernel)
theorem dX12_allKnow_157 : decode cX12_allKnow 157 = .ok (.ifCond .eq 34, 3) := dl_153 (by decide +kernel)
theorem dX12_allKnow_191 : decode cX12_allKnow 191 = .ok (.iinc 6 1, 3) := dl_132 (by decide +kernel)
theorem dX12_allKnow_194 : decode cX12_allKnow 194 = .ok (.goto (-135), 3) := dl_167 (by decide +kernel)
theorem dX12_allKnow_148 : decode cX12_allKnow 148 = .ok (.iconst 1, 1) := dl_4 (by decide +kernel)
theorem dX12_allKnow_149 : decode cX12_allKnow 149 = .ok (.goto 4, 3) := dl_167 (by decide +kernel)
theorem dX12_allKnow_160 : decode cX12_allKnow 160 = .ok (.aload_n 0, 1) := dl_42 (by decide +kernel)
theorem dX12_allKnow_161 : decode cX12_allKnow 161 = .ok (.getfield 93, 3) := dl_180 (by decide +kernel)
theorem dX12_allKnow_164 : decode cX12_allKnow 164 = .ok (.iload 8, 2) := dl_21 (by decide +kernel)
theorem dX12_allKnow_166 : decode cX12_allKnow 166 = .ok (.dup2, 1) := dl_92 (by decide +kernel)
theorem dX12_allKnow_167 : decode cX12_allKnow 167 = .ok (.iaload, 1) := dl_46 (by decide +kernel)
theorem dX12_allKnow_168 : decode cX12_allKnow 168 = .ok (.aload_n 0, 1) := dl_42 (by decide +kernel)
theorem dX12_allKnow_169 : decode cX12_allKnow 169 = .ok (.getfield 93, 3) := dl_180 (by decide +kernel)
theorem dX12_allKnow_172 : decode cX12_allKnow 172 = .ok (.iload 9, 2) := dl_21 (by decide +kernel)
theorem dX12_allKnow_174 : decode cX12_allKnow 174 = .ok (.iaload, 1) := dl_46 (by decide +kernel)
theorem dX12_allKnow_175 : decode cX12_allKnow 175 = .ok (.ior, 1) := dl_128 (by decide +kernel)
theorem dX12_allKnow_176 : decode cX12_allKnow 176 = .ok (.iastore, 1) := dl_79 (by decide +kernel)
theorem dX12_allKnow_177 : decode cX12_allKnow 177 = .ok (.aload_n 0, 1) := dl_42 (by decide +kernel)
theorem dX12_allKnow_178 : decode cX12_allKnow 178 = .ok (.getfield 93, 3) := dl_180 (by decide +kernel)
theorem dX12_allKnow_181 : decode cX12_allKnow 181 = .ok (.iload 9, 2) := dl_21 (by decide +kernel)
theorem dX12_allKnow_183 : decode cX12_allKnow 183 = .ok (.aload_n 0, 1) := dl_42 (by decide +kernel)
theorem dX12_allKnow_184 : decode cX12_allKnow 184 = .ok (.getfield 93, 3) := dl_180 (by decide +kernel)
theorem dX12_allKnow_187 : decode cX12_allKnow 187 = .ok (.iload 8, 2) := dl_21 (by decide +kernel)
theorem dX12_allKnow_189 : decode cX12_allKnow 189 = .ok (.iaload, 1) := dl_46 (by decide +kernel)
theorem dX12_allKnow_190 : decode cX12_allKnow 190 = .ok (.iastore, 1) := dl_79 (by decide +kernel)
theorem dX12_allKnow_103 : decode cX12_allKnow 103 = .ok (.iconst 1, 1) := dl_4 (by decide +kernel)
theorem dX12_allKnow_104 : decode cX12_allKnow 104 = .ok (.goto 4, 3) := dl_167 (by decide +kernel)
theorem dX12_allKnow_129 : decode cX12_allKnow 129 = .ok (.iload 7, 2) := dl_21 (by decide +kernel)
theorem dX12_allKnow_131 : decode cX12_allKnow 131 = .ok (.iconst 1, 1) := dl_4 (by decide +kernel)
theorem dX12_allKnow_132 : decode cX12_allKnow 132 = .ok (.isub, 1) := dl_100 (by decide +kernel)
theorem dX12_allKnow_133 : decode cX12_allKnow 133 = .ok (.goto 4, 3) := dl_167 (by decide +kernel)
theorem dX12_allKnow_93 : decode cX12_allKnow 93 = .ok (.iconst 0, 1) := dl_3 (by decide +kernel)
theorem dX12_allKnow_94 : decode cX12_allKnow 94 = .ok (.goto 14, 3) := dl_167 (by decide +kernel)
theorem dX12_allKnow_116 : decode cX12_allKnow 116 = .ok (.iload 7, 2) := dl_21 (by decide +kernel)
theorem dX12_allKnow_118 : decode cX12_allKnow 118 = .ok (.iconst 1, 1) := dl_4 (by decide +kernel)
theorem dX12_allKnow_119 : decode cX12_allKnow 119 = .ok (.iadd, 1) := dl_96 (by decide +kernel)
theorem dX12_allKnow_120 : decode cX12_allKnow 120 = .ok (.goto 17, 3) := dl_167 (by decide +kernel)
theorem dX12_allKnow_39 : decode cX12_allKnow 39 = .ok (.iload_n 3, 1) := dl_29 (by decide +kernel)
theorem dX12_allKnow_40 : decode cX12_allKnow 40 = .ok (.bipush 6, 2) := dl_16 (by decide +kernel)
theorem dX12_allKnow_42 : decode cX12_allKnow 42 = .ok (.imul, 1) := dl_104 (by decide +kernel)
theorem dX12_allKnow_43 : decode cX12_allKnow 43 = .ok (.istore_n 3, 1) := dl_62 (by decide +kernel)
theorem dX12_allKnow_44 : decode cX12_allKnow 44 = .ok (.iinc 4 1, 3) := dl_132 (by decide +kernel)
theorem dX12_allKnow_47 : decode cX12_allKnow 47 = .ok (.goto (-14), 3) := dl_167 (by decide +kernel)
theorem dX12_allKnow_10 : decode cX12_allKnow 10 = .ok (.aload_n 0, 1) := dl_42 (by decide +kernel)
theorem dX12_allKnow_11 : decode cX12_allKnow 11 = .ok (.getfield 93, 3) := dl_180 (by decide +kernel)
theorem dX12_allKnow_14 : decode cX12_allKnow 14 = .ok (.iload_n 3, 1) := dl_29 (by decide +kernel)
theorem dX12_allKnow_15 : decode cX12_allKnow 15 = .ok (.aload_n 0, 1) := dl_42 (by decide +kernel)
theorem dX12_allKnow_16 : decode cX12_allKnow 16 = .ok (.getfield 90, 3) := dl_180 (by decide +kernel)
theorem dX12_allKnow_19 : decode cX12_allKnow 19 = .ok (.iload_n 3, 1) := dl_29 (by decide +kernel)
theorem dX12_allKnow_20 : decode cX12_allKnow 20 = .ok (.iaload, 1) := dl_46 (by decide +kernel)
theorem dX12_allKnow_21 : decode cX12_allKnow 21 = .ok (.iastore, 1) := dl_79 (by decide +kernel)
theorem dX12_allKnow_22 : decode cX12_allKnow 22 = .ok (.iinc 3 1, 3) := dl_132 (by decide +kernel)
theorem dX12_allKnow_25 : decode cX12_allKnow 25 = .ok (.goto (-23), 3) := dl_167 (by decide +kernel)
set_option maxRecDepth 100000 in
set_option maxHeartbeats 4000000 in
theorem r_allKnow (l : Launch) (E : EV) (ro : va_W) (hm : Nat) (row : Nat) (n : Nat) (m_manys : Nat) (m_reals : Nat) (m_factsOf : Nat) (m_possible : Nat) (q_undos : Nat) (q_models : Nat) (m_tape : Nat) (q_taped : Nat) (q_fault : Int32) (q_wrong : Int32) (q_wrongAt : Int32) (q_spot : Int32) (q_place : Int32) (q_token : Int32) (q_value : Int32) (m_ends : Nat) (m_letters : Nat) (m_actOf : Nat) (m_whom : Nat) (m_actMany : Nat) (m_tokens : Nat) (m_afters : Nat) (m_afterOf : Nat) (q_counted : Int32) (m_pile : Nat) (m_caseMany : Nat) (m_happen : Nat) (m_hasIf : Nat) (m_becomes : Nat) (m_goneOf : Nat) (m_heard : Nat) (m_pairs : Nat) (m_heaps : Nat) (q_rounds : Int32) (q_heapMany : Int32) (m_led : Nat) (m_newAt : Nat) (m_knowing : Nat) (m_firsts : Nat) (q_people : Nat) (m_secrets : Nat) (m_tried : Nat) (m_lanes : Nat) (m_lengths : Nat) (m_cells : Nat) (f_secrets : Nat → Int32) (f_tried : Nat → Int32) (hq_people : q_people ≤ 4) (hn : n ≤ 5) (hrow : row ≤ 7775) : CT l yX12_allKnow (Cond.code yX12_allKnow cX12_allKnow 10 (some .boolean) :: TB) ({ frames := 1, cells := 0, slots := 0, locals := 20 }) E ro [.ref hm, .int (nI row), .int (nI n)] [(hm, .inr (12, [.ref m_manys, .ref m_reals, .ref m_factsOf, .ref m_possible, .int (nI q_undos), .int (nI q_models), .ref m_tape, .int (nI q_taped), .int q_fault, .int q_wrong, .int q_wrongAt, .int q_spot, .int q_place, .int q_token, .int q_value, .ref m_ends, .ref m_letters, .ref m_actOf, .ref m_whom, .ref m_actMany, .ref m_tokens, .ref m_afters, .ref m_afterOf, .int q_counted, .ref m_pile, .ref m_caseMany, .ref m_happen, .ref m_hasIf, .ref m_becomes, .ref m_goneOf, .ref m_heard, .ref m_pairs, .ref m_heaps, .int q_rounds, .int q_heapMany, .ref m_led, .ref m_newAt, .ref m_knowing, .ref m_firsts, .int (nI q_people), .ref m_secrets, .ref m_tried, .ref m_lanes, .ref m_lengths, .ref m_cells])), (m_secrets, .inl (E.2.1 1, 4, .inl f_secrets)), (m_tried, .inl (E.2.1 1, 4, .inl f_tried))] (Qi E (fun (rz : Int32) uz => (∃ (f_triedz : Nat → Int32), rz = 1 ∧ uz = [(hm, .inr (12, [.ref m_manys, .ref m_reals, .ref m_factsOf, .ref m_possible, .int (nI q_undos), .int (nI q_models), .ref m_tape, .int (nI q_taped), .int q_fault, .int q_wrong, .int q_wrongAt, .int q_spot, .int q_place, .int q_token, .int q_value, .ref m_ends, .ref m_letters, .ref m_actOf, .ref m_whom, .ref m_actMany, .ref m_tokens, .ref m_afters, .ref m_afterOf, .int q_counted, .ref m_pile, .ref m_caseMany, .ref m_happen, .ref m_hasIf, .ref m_becomes, .ref m_goneOf, .ref m_heard, .ref m_pairs, .ref m_heaps, .int q_rounds, .int q_heapMany, .ref m_led, .ref m_newAt, .ref m_knowing, .ref m_firsts, .int (nI q_people), .ref m_secrets, .ref m_tried, .ref m_lanes, .ref m_lengths, .ref m_cells])), (m_secrets, .inl (E.2.1 1, 4, .inl f_secrets)), (m_tried, .inl (E.2.1 1, 4, .inl f_triedz))] ∧ (cpX q_people n row f_secrets)) ∨ (∃ (f_triedz : Nat → Int32), rz = 0 ∧ uz = [(hm, .inr (12, [.ref m_manys, .ref m_reals, .ref m_factsOf, .ref m_possible, .int (nI q_undos), .int (nI q_models), .ref m_tape, .int (nI q_taped), .int q_fault, .int q_wrong, .int q_wrongAt, .int q_spot, .int q_place, .int q_token, .int q_value, .ref m_ends, .ref m_letters, .ref m_actOf, .ref m_whom, .ref m_actMany, .ref m_tokens, .ref m_afters, .ref m_afterOf, .int q_counted, .ref m_pile, .ref m_caseMany, .ref m_happen, .ref m_hasIf, .ref m_becomes, .ref m_goneOf, .ref m_heard, .ref m_pairs, .ref m_heaps, .int q_rounds, .int q_heapMany, .ref m_led, .ref m_newAt, .ref m_knowing, .ref m_firsts, .int (nI q_people), .ref m_secrets, .ref m_tried, .ref m_lanes, .ref m_lengths, .ref m_cells])), (m_secrets, .inl (E.2.1 1, 4, .inl f_secrets)), (m_tried, .inl (E.2.1 1, 4, .inl f_triedz))] ∧ (¬ cpX q_people n row f_secrets)))) 0 0 := by
  refine ct_of rfl rfl ?_
  intro X C hT hin hro
  show WW X 10 E 0 [(0, .ref hm), (1, .int (nI row)), (2, .int (nI n))] [] [(hm, .inr (12, [.ref m_manys, .ref m_reals, .ref m_factsOf, .ref m_possible, .int (nI q_undos), .int (nI q_models), .ref m_tape, .int (nI q_taped), .int q_fault, .int q_wrong, .int q_wrongAt, .int q_spot, .int q_place, .int q_token, .int q_value, .ref m_ends, .ref m_letters, .ref m_actOf, .ref m_whom, .ref m_actMany, .ref m_tokens, .ref m_afters, .ref m_afterOf, .int q_counted, .ref m_pile, .ref m_caseMany, .ref m_happen, .ref m_hasIf, .ref m_becomes, .ref m_goneOf, .ref m_heard, .ref m_pairs, .ref m_heaps, .int q_rounds, .int q_heapMany, .ref m_led, .ref m_newAt, .ref m_knowing, .ref m_firsts, .int (nI q_people), .ref m_secrets, .ref m_tried, .ref m_lanes, .ref m_lengths, .ref m_cells])), (m_secrets, .inl (E.2.1 1, 4, .inl f_secrets)), (m_tried, .inl (E.2.1 1, 4, .inl f_tried))] 0 0
  refine ww_iconst (v := 0) C dX12_allKnow_0 rfl ?_
  refine ww_istore_n (lv' := [(3, .int 0), (0, .ref hm), (1, .int (nI row)), (2, .int (nI n))]) C dX12_allKnow_1 rfl rfl rfl ?_
  have loop_2 : ∀ (fu : Nat) (i1 : Nat) (g1 : Nat → Int32), (i1 ≤ q_people) → (∀ m, m < i1 → g1 m = f_secrets m) → q_people - i1 < fu → WW X 10 E 2 [(3, .int (nI i1)), (0, .ref hm), (1, .int (nI row)), (2, .int (nI n))] [] [(hm, .inr (12, [.ref m_manys, .ref m_reals, .ref m_factsOf, .ref m_possible, .int (nI q_undos), .int (nI q_models), .ref m_tape, .int (nI q_taped), .int q_fault, .int q_wrong, .int q_wrongAt, .int q_spot, .int q_place, .int q_token, .int q_value, .ref m_ends, .ref m_letters, .ref m_actOf, .ref m_whom, .ref m_actMany, .ref m_tokens, .ref m_afters, .ref m_afterOf, .int q_counted, .ref m_pile, .ref m_caseMany, .ref m_happen, .ref m_hasIf, .ref m_becomes, .ref m_goneOf, .ref m_heard, .ref m_pairs, .ref m_heaps, .int q_rounds, .int q_heapMany, .ref m_led, .ref m_newAt, .ref m_knowing, .ref m_firsts, .int (nI q_people), .ref m_secrets, .ref m_tried, .ref m_lanes, .ref m_lengths, .ref m_cells])), (m_secrets, .inl (E.2.1 1, 4, .inl f_secrets)), (m_tried, .inl (E.2.1 1, 4, .inl g1))] 0 0 := by
    intro fu
    induction fu with
    | zero => intro i1 g1 hi1 hak hmeas; exact absurd hmeas (Nat.not_lt_zero _)
    | succ fu ih_2 =>
      intro i1 g1 hi1 hak hmeas
      refine ww_iload_n C dX12_allKnow_2 0 rfl rfl ?_
      refine ww_aload_n C dX12_allKnow_3 1 rfl rfl ?_
      refine ww_get C fg_X12_332 0 rfl rfl dX12_allKnow_4 ?_
      refine ww_icmp_ge (tgt := 28) C dX12_allKnow_7 (by decide) (fun c_1 => ?_) (fun c_1 => ?_)
      · have zc_1 : ((i1 : Nat) : Int) ≥ ((q_people : Nat) : Int) := i_le (nI_toInt (n := q_people) (by omega)) (nI_toInt (n := i1) (by omega)) c_1
        refine ww_iconst (v := 1) C dX12_allKnow_28 rfl ?_
        refine ww_istore_n (lv' := [(3, .int 1), (0, .ref hm), (1, .int (nI row)), (2, .int (nI n))]) C dX12_allKnow_29 rfl rfl rfl ?_
        refine ww_iconst (v := 1) C dX12_allKnow_30 rfl ?_
        refine ww_istore (lv' := [(4, .int 1), (3, .int 1), (0, .ref hm), (1, .int (nI row)), (2, .int (nI n))]) C dX12_allKnow_31 rfl rfl ?_
        have loop_33 : ∀ (fu : Nat) (k1 : Nat) (by1 : Nat), (1 ≤ k1) → (k1 ≤ n ∨ k1 = 1) → (by1 = 6 ^ (k1 - 1)) → n - k1 < fu → WW X 10 E 33 [(4, .int (nI k1)), (3, .int (nI by1)), (0, .ref hm), (1, .int (nI row)), (2, .int (nI n))] [] [(hm, .inr (12, [.ref m_manys, .ref m_reals, .ref m_factsOf, .ref m_possible, .int (nI q_undos), .int (nI q_models), .ref m_tape, .int (nI q_taped), .int q_fault, .int q_wrong, .int q_wrongAt, .int q_spot, .int q_place, .int q_token, .int q_value, .ref m_ends, .ref m_letters, .ref m_actOf, .ref m_whom, .ref m_actMany, .ref m_tokens, .ref m_afters, .ref m_afterOf, .int q_counted, .ref m_pile, .ref m_caseMany, .ref m_happen, .ref m_hasIf, .ref m_becomes, .ref m_goneOf, .ref m_heard, .ref m_pairs, .ref m_heaps, .int q_rounds, .int q_heapMany, .ref m_led, .ref m_newAt, .ref m_knowing, .ref m_firsts, .int (nI q_people), .ref m_secrets, .ref m_tried, .ref m_lanes, .ref m_lengths, .ref m_cells])), (m_secrets, .inl (E.2.1 1, 4, .inl f_secrets)), (m_tried, .inl (E.2.1 1, 4, .inl g1))] 0 0 := by
          intro fu
          induction fu with
          | zero => intro k1 by1 hk1 hk1n hby1 hmeas; exact absurd hmeas (Nat.not_lt_zero _)
          | succ fu ih_33 =>
            intro k1 by1 hk1 hk1n hby1 hmeas
            refine ww_iload C dX12_allKnow_33 0 rfl ?_
            refine ww_iload_n C dX12_allKnow_35 4 rfl rfl ?_
            refine ww_icmp_ge (tgt := 50) C dX12_allKnow_36 (by decide) (fun c_2 => ?_) (fun c_2 => ?_)
            · have zc_2 : ((k1 : Nat) : Int) ≥ ((n : Nat) : Int) := i_le (nI_toInt (n := n) (by omega)) (nI_toInt (n := k1) (by omega)) c_2
              refine ww_iload_n C dX12_allKnow_50 3 rfl rfl ?_
              refine ww_istore (lv' := [(4, .int (nI row)), (3, .int (nI by1)), (0, .ref hm), (1, .int (nI row)), (2, .int (nI n))]) C dX12_allKnow_51 rfl rfl ?_
              refine ww_iconst (v := 1) C dX12_allKnow_53 rfl ?_
              refine ww_istore (lv' := [(5, .int 1), (4, .int (nI row)), (3, .int (nI by1)), (0, .ref hm), (1, .int (nI row)), (2, .int (nI n))]) C dX12_allKnow_54 rfl rfl ?_
              refine ww_iconst (v := 0) C dX12_allKnow_56 rfl ?_
              refine ww_istore (lv' := [(6, .int 0), (5, .int 1), (4, .int (nI row)), (3, .int (nI by1)), (0, .ref hm), (1, .int (nI row)), (2, .int (nI n))]) C dX12_allKnow_57 rfl rfl ?_
              have loop_59 : ∀ (fu : Nat) (k2 : Nat) (by2 : Nat) (lf : Nat) (ca : Nat) (g2 : Nat → Int32), (k2 ≤ n) → (lf ≤ 7775) → (ca ≤ 1) → (by2 ≤ 7776) → (k2 < n → by2 = 6 ^ (n - 1 - k2)) → (ca = 1 → (cpX q_people (n - k2) lf g2 ↔ cpX q_people n row f_secrets)) → (ca = 0 → ¬ cpX q_people n row f_secrets) → n - k2 < fu → WW X 10 E 59 [(6, .int (nI k2)), (5, .int (nI ca)), (4, .int (nI lf)), (3, .int (nI by2)), (0, .ref hm), (1, .int (nI row)), (2, .int (nI n))] [] [(hm, .inr (12, [.ref m_manys, .ref m_reals, .ref m_factsOf, .ref m_possible, .int (nI q_undos), .int (nI q_models), .ref m_tape, .int (nI q_taped), .int q_fault, .int q_wrong, .int q_wrongAt, .int q_spot, .int q_place, .int q_token, .int q_value, .ref m_ends, .ref m_letters, .ref m_actOf, .ref m_whom, .ref m_actMany, .ref m_tokens, .ref m_afters, .ref m_afterOf, .int q_counted, .ref m_pile, .ref m_caseMany, .ref m_happen, .ref m_hasIf, .ref m_becomes, .ref m_goneOf, .ref m_heard, .ref m_pairs, .ref m_heaps, .int q_rounds, .int q_heapMany, .ref m_led, .ref m_newAt, .ref m_knowing, .ref m_firsts, .int (nI q_people), .ref m_secrets, .ref m_tried, .ref m_lanes, .ref m_lengths, .ref m_cells])), (m_secrets, .inl (E.2.1 1, 4, .inl f_secrets)), (m_tried, .inl (E.2.1 1, 4, .inl g2))] 0 0 := by
                intro fu
                induction fu with
                | zero => intro k2 by2 lf ca g2 hk2 hlf hca hb9 hby hx1 hx0 hmeas; exact absurd hmeas (Nat.not_lt_zero _)
                | succ fu ih_59 =>
                  intro k2 by2 lf ca g2 hk2 hlf hca hb9 hby hx1 hx0 hmeas
                  refine ww_iload C dX12_allKnow_59 0 rfl ?_
                  refine ww_iload_n C dX12_allKnow_61 6 rfl rfl ?_
                  refine ww_icmp_ge (tgt := 197) C dX12_allKnow_62 (by decide) (fun c_3 => ?_) (fun c_3 => ?_)
                  · have zc_3 : ((k2 : Nat) : Int) ≥ ((n : Nat) : Int) := i_le (nI_toInt (n := n) (by omega)) (nI_toInt (n := k2) (by omega)) c_3
                    refine ww_iconst (v := 0) C dX12_allKnow_197 rfl ?_
                    refine ww_istore (lv' := [(6, .int 0), (5, .int (nI ca)), (4, .int (nI lf)), (3, .int (nI by2)), (0, .ref hm), (1, .int (nI row)), (2, .int (nI n))]) C dX12_allKnow_198 rfl rfl ?_
                    have loop_200 : ∀ (fu : Nat) (i5 : Nat) (c5 : Nat), (i5 ≤ q_people) → (c5 ≤ 1) → (c5 = 1 → ca = 1 ∧ ∀ m, m < i5 → g2 m = nI (2 ^ q_people - 1)) → (c5 = 0 → ¬ cpX q_people n row f_secrets) → q_people - i5 < fu → WW X 10 E 200 [(6, .int (nI i5)), (5, .int (nI c5)), (4, .int (nI lf)), (3, .int (nI by2)), (0, .ref hm), (1, .int (nI row)), (2, .int (nI n))] [] [(hm, .inr (12, [.ref m_manys, .ref m_reals, .ref m_factsOf, .ref m_possible, .int (nI q_undos), .int (nI q_models), .ref m_tape, .int (nI q_taped), .int q_fault, .int q_wrong, .int q_wrongAt, .int q_spot, .int q_place, .int q_token, .int q_value, .ref m_ends, .ref m_letters, .ref m_actOf, .ref m_whom, .ref m_actMany, .ref m_tokens, .ref m_afters, .ref m_afterOf, .int q_counted, .ref m_pile, .ref m_caseMany, .ref m_happen, .ref m_hasIf, .ref m_becomes, .ref m_goneOf, .ref m_heard, .ref m_pairs, .ref m_heaps, .int q_rounds, .int q_heapMany, .ref m_led, .ref m_newAt, .ref m_knowing, .ref m_firsts, .int (nI q_people), .ref m_secrets, .ref m_tried, .ref m_lanes, .ref m_lengths, .ref m_cells])), (m_secrets, .inl (E.2.1 1, 4, .inl f_secrets)), (m_tried, .inl (E.2.1 1, 4, .inl g2))] 0 0 := by
                      intro fu
                      induction fu with
                      | zero => intro i5 c5 hi5 hc5 hc1 hc0 hmeas; exact absurd hmeas (Nat.not_lt_zero _)
                      | succ fu ih_200 =>
                        intro i5 c5 hi5 hc5 hc1 hc0 hmeas
                        refine ww_iload C dX12_allKnow_200 0 rfl ?_
                        refine ww_aload_n C dX12_allKnow_202 4 rfl rfl ?_
                        refine ww_get C fg_X12_332 0 rfl rfl dX12_allKnow_203 ?_
                        refine ww_icmp_ge (tgt := 244) C dX12_allKnow_206 (by decide) (fun c_4 => ?_) (fun c_4 => ?_)
                        · have zc_4 : ((i5 : Nat) : Int) ≥ ((q_people : Nat) : Int) := i_le (nI_toInt (n := q_people) (by omega)) (nI_toInt (n := i5) (by omega)) c_4
                          rcases (show c5 = 0 ∨ c5 = 1 by omega) with rfl | rfl
                          · refine ww_iload C dX12_allKnow_244 1 rfl ?_
                            exact ww_zret (u := [(hm, .inr (12, [.ref m_manys, .ref m_reals, .ref m_factsOf, .ref m_possible, .int (nI q_undos), .int (nI q_models), .ref m_tape, .int (nI q_taped), .int q_fault, .int q_wrong, .int q_wrongAt, .int q_spot, .int q_place, .int q_token, .int q_value, .ref m_ends, .ref m_letters, .ref m_actOf, .ref m_whom, .ref m_actMany, .ref m_tokens, .ref m_afters, .ref m_afterOf, .int q_counted, .ref m_pile, .ref m_caseMany, .ref m_happen, .ref m_hasIf, .ref m_becomes, .ref m_goneOf, .ref m_heard, .ref m_pairs, .ref m_heaps, .int q_rounds, .int q_heapMany, .ref m_led, .ref m_newAt, .ref m_knowing, .ref m_firsts, .int (nI q_people), .ref m_secrets, .ref m_tried, .ref m_lanes, .ref m_lengths, .ref m_cells])), (m_secrets, .inl (E.2.1 1, 4, .inl f_secrets)), (m_tried, .inl (E.2.1 1, 4, .inl g2))]) C hT [0, 1, 2] rfl rfl rfl rfl rfl dX12_allKnow_246 (Or.inr ⟨g2, rfl, rfl, (hc0 rfl)⟩)
                          · refine ww_iload C dX12_allKnow_244 1 rfl ?_
                            exact ww_zret (u := [(hm, .inr (12, [.ref m_manys, .ref m_reals, .ref m_factsOf, .ref m_possible, .int (nI q_undos), .int (nI q_models), .ref m_tape, .int (nI q_taped), .int q_fault, .int q_wrong, .int q_wrongAt, .int q_spot, .int q_place, .int q_token, .int q_value, .ref m_ends, .ref m_letters, .ref m_actOf, .ref m_whom, .ref m_actMany, .ref m_tokens, .ref m_afters, .ref m_afterOf, .int q_counted, .ref m_pile, .ref m_caseMany, .ref m_happen, .ref m_hasIf, .ref m_becomes, .ref m_goneOf, .ref m_heard, .ref m_pairs, .ref m_heaps, .int q_rounds, .int q_heapMany, .ref m_led, .ref m_newAt, .ref m_knowing, .ref m_firsts, .int (nI q_people), .ref m_secrets, .ref m_tried, .ref m_lanes, .ref m_lengths, .ref m_cells])), (m_secrets, .inl (E.2.1 1, 4, .inl f_secrets)), (m_tried, .inl (E.2.1 1, 4, .inl g2))]) C hT [0, 1, 2] rfl rfl rfl rfl rfl dX12_allKnow_246 (Or.inl ⟨g2, rfl, rfl, (by first | exact absurd (hc1 rfl).1 (by omega) | exact ak_fin (hx1 (hc1 rfl).1) (by omega) (fun m hm => (hc1 rfl).2 m (by omega)))⟩)
                        · have zc_4 : ((i5 : Nat) : Int) < ((q_people : Nat) : Int) := i_nle (nI_toInt (n := q_people) (by omega)) (nI_toInt (n := i5) (by omega)) c_4
                          refine ww_iload C dX12_allKnow_209 1 rfl ?_
                          refine ww_if_eq (tgt := 235) C dX12_allKnow_211 (by decide) (fun c_5 => ?_) (fun c_5 => ?_)
                          · have zc_5 : ((c5 : Nat) : Int) = 0 := i_eq (nI_toInt (n := c5) (by omega)) rfl c_5
                            refine ww_iconst (v := 0) C dX12_allKnow_235 rfl ?_
                            refine ww_istore (lv' := [(5, .int 0), (6, .int (nI i5)), (4, .int (nI lf)), (3, .int (nI by2)), (0, .ref hm), (1, .int (nI row)), (2, .int (nI n))]) C dX12_allKnow_236 rfl rfl ?_
                            refine ww_iinc (j := 1) (v := (nI (i5 + 1))) (lv' := [(6, .int (nI (i5 + 1))), (5, .int 0), (4, .int (nI lf)), (3, .int (nI by2)), (0, .ref hm), (1, .int (nI row)), (2, .int (nI n))]) C dX12_allKnow_238 rfl (nI_add i5 1) rfl rfl ?_
                            refine ww_goto (tgt := 200) C dX12_allKnow_241 (by decide) ?_
                            exact ww_lv [0, 1, 2, 3, 4, 5, 6] rfl (ww_sub [0, 1, 2] rfl rfl (ih_200 (i5 + 1) 0 (by omega) (by omega) (fun h9 => absurd h9 (by decide)) (fun _ => hc0 (by omega)) (by omega)))
                          · have zc_5 : ((c5 : Nat) : Int) ≠ 0 := i_ne (nI_toInt (n := c5) (by omega)) rfl c_5
                            refine ww_aload_n C dX12_allKnow_214 4 rfl rfl ?_
                            refine ww_get C fg_X12_93 0 rfl rfl dX12_allKnow_215 ?_
                            refine ww_iload C dX12_allKnow_218 0 rfl ?_
                            obtain ⟨x_6, ex_6⟩ : ∃ z : Int32, g2 i5 = z := ⟨_, rfl⟩
                            refine ww_iald (v := x_6) C 2 rfl (vp_in_nI (by omega) (by omega)) (ldn (by omega) ex_6) dX12_allKnow_220 ?_
                            refine ww_aload_n C dX12_allKnow_221 4 rfl rfl ?_
                            refine ww_get C fg_X12_332 0 rfl rfl dX12_allKnow_222 ?_
                            refine ww_ci (wr := [(hm, .inr (12, [.ref m_manys, .ref m_reals, .ref m_factsOf, .ref m_possible, .int (nI q_undos), .int (nI q_models), .ref m_tape, .int (nI q_taped), .int q_fault, .int q_wrong, .int q_wrongAt, .int q_spot, .int q_place, .int q_token, .int q_value, .ref m_ends, .ref m_letters, .ref m_actOf, .ref m_whom, .ref m_actMany, .ref m_tokens, .ref m_afters, .ref m_afterOf, .int q_counted, .ref m_pile, .ref m_caseMany, .ref m_happen, .ref m_hasIf, .ref m_becomes, .ref m_goneOf, .ref m_heard, .ref m_pairs, .ref m_heaps, .int q_rounds, .int q_heapMany, .ref m_led, .ref m_newAt, .ref m_knowing, .ref m_firsts, .int (nI q_people), .ref m_secrets, .ref m_tried, .ref m_lanes, .ref m_lengths, .ref m_cells])), (m_secrets, .inl (E.2.1 1, 4, .inl f_secrets)), (m_tried, .inl (E.2.1 1, 4, .inl g2))]) (k' := 0) (n' := 0) C (run_S (As := [.int (nI q_people)]) (rest := [.int x_6]) C (r_all X.2.1 E ro q_people (by omega)) ms_X12_all wl_X12_230 rfl rfl rfl rfl dX12_allKnow_225) (roK hro) [] [0, 1, 2] rfl rfl rfl rfl (fun r_7 uz hw => ?_)
                            refine an1 hw ?_
                            clear hw
                            intro he_9 hw
                            have h_8 := hw
                            clear hw
                            subst he_9
                            refine ww_eq (ws' := [(hm, .inr (12, [.ref m_manys, .ref m_reals, .ref m_factsOf, .ref m_possible, .int (nI q_undos), .int (nI q_models), .ref m_tape, .int (nI q_taped), .int q_fault, .int q_wrong, .int q_wrongAt, .int q_spot, .int q_place, .int q_token, .int q_value, .ref m_ends, .ref m_letters, .ref m_actOf, .ref m_whom, .ref m_actMany, .ref m_tokens, .ref m_afters, .ref m_afterOf, .int q_counted, .ref m_pile, .ref m_caseMany, .ref m_happen, .ref m_hasIf, .ref m_becomes, .ref m_goneOf, .ref m_heard, .ref m_pairs, .ref m_heaps, .int q_rounds, .int q_heapMany, .ref m_led, .ref m_newAt, .ref m_knowing, .ref m_firsts, .int (nI q_people), .ref m_secrets, .ref m_tried, .ref m_lanes, .ref m_lengths, .ref m_cells])), (m_secrets, .inl (E.2.1 1, 4, .inl f_secrets)), (m_tried, .inl (E.2.1 1, 4, .inl g2))]) ?_ rfl rfl rfl
                            refine ww_icmp_ne (tgt := 235) C dX12_allKnow_228 (by decide) (fun c_10 => ?_) (fun c_10 => ?_)
                            · have zc_10 : x_6.toInt ≠ r_7.toInt := i_ne rfl rfl c_10
                              refine ww_iconst (v := 0) C dX12_allKnow_235 rfl ?_
                              refine ww_istore (lv' := [(5, .int 0), (6, .int (nI i5)), (4, .int (nI lf)), (3, .int (nI by2)), (0, .ref hm), (1, .int (nI row)), (2, .int (nI n))]) C dX12_allKnow_236 rfl rfl ?_
                              refine ww_iinc (j := 1) (v := (nI (i5 + 1))) (lv' := [(6, .int (nI (i5 + 1))), (5, .int 0), (4, .int (nI lf)), (3, .int (nI by2)), (0, .ref hm), (1, .int (nI row)), (2, .int (nI n))]) C dX12_allKnow_238 rfl (nI_add i5 1) rfl rfl ?_
                              refine ww_goto (tgt := 200) C dX12_allKnow_241 (by decide) ?_
                              exact ww_lv [0, 1, 2, 3, 4, 5, 6] rfl (ww_sub [0, 1, 2] rfl rfl (ih_200 (i5 + 1) 0 (by omega) (by omega) (fun h9 => absurd h9 (by decide)) (fun _ => by first | exact absurd (hc1 (by omega)).1 (by omega) | exact ak_bad (hx1 (hc1 (by omega)).1) (by omega) (show i5 < q_people by omega) (by assumption) h_8 hq_people (by assumption)) (by omega)))
                            · have zc_10 : x_6.toInt = r_7.toInt := i_eq rfl rfl c_10
                              refine ww_iconst (v := 1) C dX12_allKnow_231 rfl ?_
                              refine ww_goto (tgt := 236) C dX12_allKnow_232 (by decide) ?_
                              refine ww_istore (lv' := [(5, .int 1), (6, .int (nI i5)), (4, .int (nI lf)), (3, .int (nI by2)), (0, .ref hm), (1, .int (nI row)), (2, .int (nI n))]) C dX12_allKnow_236 rfl rfl ?_
                              refine ww_iinc (j := 1) (v := (nI (i5 + 1))) (lv' := [(6, .int (nI (i5 + 1))), (5, .int 1), (4, .int (nI lf)), (3, .int (nI by2)), (0, .ref hm), (1, .int (nI row)), (2, .int (nI n))]) C dX12_allKnow_238 rfl (nI_add i5 1) rfl rfl ?_
                              refine ww_goto (tgt := 200) C dX12_allKnow_241 (by decide) ?_
                              exact ww_lv [0, 1, 2, 3, 4, 5, 6] rfl (ww_sub [0, 1, 2] rfl rfl (ih_200 (i5 + 1) 1 (by omega) (by omega) (fun _ => ⟨(hc1 (by omega)).1, ak_s2 (hc1 (by omega)).2 (by assumption) h_8 hq_people (by assumption)⟩) (fun h9 => absurd h9 (by decide)) (by omega)))
                    exact ww_lv [0, 1, 2, 3, 4, 5, 6] rfl (ww_sub [0, 1, 2] rfl rfl (loop_200 _ 0 ca (by omega) (by omega) (fun h9 => ⟨h9, fun m h => absurd h (Nat.not_lt_zero _)⟩) (fun h9 => hx0 h9) (Nat.lt_succ_self _)))
                  · have zc_3 : ((k2 : Nat) : Int) < ((n : Nat) : Int) := i_nle (nI_toInt (n := n) (by omega)) (nI_toInt (n := k2) (by omega)) c_3
                    refine ww_iload C dX12_allKnow_65 1 rfl ?_
                    refine ww_if_eq (tgt := 197) C dX12_allKnow_67 (by decide) (fun c_11 => ?_) (fun c_11 => ?_)
                    · have zc_11 : ((ca : Nat) : Int) = 0 := i_eq (nI_toInt (n := ca) (by omega)) rfl c_11
                      refine ww_iconst (v := 0) C dX12_allKnow_197 rfl ?_
                      refine ww_istore (lv' := [(6, .int 0), (5, .int (nI ca)), (4, .int (nI lf)), (3, .int (nI by2)), (0, .ref hm), (1, .int (nI row)), (2, .int (nI n))]) C dX12_allKnow_198 rfl rfl ?_
                      have loop_200 : ∀ (fu : Nat) (i5 : Nat) (c5 : Nat), (i5 ≤ q_people) → (c5 ≤ 1) → (c5 = 1 → ca = 1 ∧ ∀ m, m < i5 → g2 m = nI (2 ^ q_people - 1)) → (c5 = 0 → ¬ cpX q_people n row f_secrets) → q_people - i5 < fu → WW X 10 E 200 [(6, .int (nI i5)), (5, .int (nI c5)), (4, .int (nI lf)), (3, .int (nI by2)), (0, .ref hm), (1, .int (nI row)), (2, .int (nI n))] [] [(hm, .inr (12, [.ref m_manys, .ref m_reals, .ref m_factsOf, .ref m_possible, .int (nI q_undos), .int (nI q_models), .ref m_tape, .int (nI q_taped), .int q_fault, .int q_wrong, .int q_wrongAt, .int q_spot, .int q_place, .int q_token, .int q_value, .ref m_ends, .ref m_letters, .ref m_actOf, .ref m_whom, .ref m_actMany, .ref m_tokens, .ref m_afters, .ref m_afterOf, .int q_counted, .ref m_pile, .ref m_caseMany, .ref m_happen, .ref m_hasIf, .ref m_becomes, .ref m_goneOf, .ref m_heard, .ref m_pairs, .ref m_heaps, .int q_rounds, .int q_heapMany, .ref m_led, .ref m_newAt, .ref m_knowing, .ref m_firsts, .int (nI q_people), .ref m_secrets, .ref m_tried, .ref m_lanes, .ref m_lengths, .ref m_cells])), (m_secrets, .inl (E.2.1 1, 4, .inl f_secrets)), (m_tried, .inl (E.2.1 1, 4, .inl g2))] 0 0 := by
                        intro fu
                        induction fu with
                        | zero => intro i5 c5 hi5 hc5 hc1 hc0 hmeas; exact absurd hmeas (Nat.not_lt_zero _)
                        | succ fu ih_200 =>
                          intro i5 c5 hi5 hc5 hc1 hc0 hmeas
                          refine ww_iload C dX12_allKnow_200 0 rfl ?_
                          refine ww_aload_n C dX12_allKnow_202 4 rfl rfl ?_
                          refine ww_get C fg_X12_332 0 rfl rfl dX12_allKnow_203 ?_
                          refine ww_icmp_ge (tgt := 244) C dX12_allKnow_206 (by decide) (fun c_12 => ?_) (fun c_12 => ?_)
                          · have zc_12 : ((i5 : Nat) : Int) ≥ ((q_people : Nat) : Int) := i_le (nI_toInt (n := q_people) (by omega)) (nI_toInt (n := i5) (by omega)) c_12
                            rcases (show c5 = 0 ∨ c5 = 1 by omega) with rfl | rfl
                            · refine ww_iload C dX12_allKnow_244 1 rfl ?_
                              exact ww_zret (u := [(hm, .inr (12, [.ref m_manys, .ref m_reals, .ref m_factsOf, .ref m_possible, .int (nI q_undos), .int (nI q_models), .ref m_tape, .int (nI q_taped), .int q_fault, .int q_wrong, .int q_wrongAt, .int q_spot, .int q_place, .int q_token, .int q_value, .ref m_ends, .ref m_letters, .ref m_actOf, .ref m_whom, .ref m_actMany, .ref m_tokens, .ref m_afters, .ref m_afterOf, .int q_counted, .ref m_pile, .ref m_caseMany, .ref m_happen, .ref m_hasIf, .ref m_becomes, .ref m_goneOf, .ref m_heard, .ref m_pairs, .ref m_heaps, .int q_rounds, .int q_heapMany, .ref m_led, .ref m_newAt, .ref m_knowing, .ref m_firsts, .int (nI q_people), .ref m_secrets, .ref m_tried, .ref m_lanes, .ref m_lengths, .ref m_cells])), (m_secrets, .inl (E.2.1 1, 4, .inl f_secrets)), (m_tried, .inl (E.2.1 1, 4, .inl g2))]) C hT [0, 1, 2] rfl rfl rfl rfl rfl dX12_allKnow_246 (Or.inr ⟨g2, rfl, rfl, (hc0 rfl)⟩)
                            · refine ww_iload C dX12_allKnow_244 1 rfl ?_
                              exact ww_zret (u := [(hm, .inr (12, [.ref m_manys, .ref m_reals, .ref m_factsOf, .ref m_possible, .int (nI q_undos), .int (nI q_models), .ref m_tape, .int (nI q_taped), .int q_fault, .int q_wrong, .int q_wrongAt, .int q_spot, .int q_place, .int q_token, .int q_value, .ref m_ends, .ref m_letters, .ref m_actOf, .ref m_whom, .ref m_actMany, .ref m_tokens, .ref m_afters, .ref m_afterOf, .int q_counted, .ref m_pile, .ref m_caseMany, .ref m_happen, .ref m_hasIf, .ref m_becomes, .ref m_goneOf, .ref m_heard, .ref m_pairs, .ref m_heaps, .int q_rounds, .int q_heapMany, .ref m_led, .ref m_newAt, .ref m_knowing, .ref m_firsts, .int (nI q_people), .ref m_secrets, .ref m_tried, .ref m_lanes, .ref m_lengths, .ref m_cells])), (m_secrets, .inl (E.2.1 1, 4, .inl f_secrets)), (m_tried, .inl (E.2.1 1, 4, .inl g2))]) C hT [0, 1, 2] rfl rfl rfl rfl rfl dX12_allKnow_246 (Or.inl ⟨g2, rfl, rfl, (by first | exact absurd (hc1 rfl).1 (by omega) | exact ak_fin (hx1 (hc1 rfl).1) (by omega) (fun m hm => (hc1 rfl).2 m (by omega)))⟩)
                          · have zc_12 : ((i5 : Nat) : Int) < ((q_people : Nat) : Int) := i_nle (nI_toInt (n := q_people) (by omega)) (nI_toInt (n := i5) (by omega)) c_12
                            refine ww_iload C dX12_allKnow_209 1 rfl ?_
                            refine ww_if_eq (tgt := 235) C dX12_allKnow_211 (by decide) (fun c_13 => ?_) (fun c_13 => ?_)
                            · have zc_13 : ((c5 : Nat) : Int) = 0 := i_eq (nI_toInt (n := c5) (by omega)) rfl c_13
                              refine ww_iconst (v := 0) C dX12_allKnow_235 rfl ?_
                              refine ww_istore (lv' := [(5, .int 0), (6, .int (nI i5)), (4, .int (nI lf)), (3, .int (nI by2)), (0, .ref hm), (1, .int (nI row)), (2, .int (nI n))]) C dX12_allKnow_236 rfl rfl ?_
                              refine ww_iinc (j := 1) (v := (nI (i5 + 1))) (lv' := [(6, .int (nI (i5 + 1))), (5, .int 0), (4, .int (nI lf)), (3, .int (nI by2)), (0, .ref hm), (1, .int (nI row)), (2, .int (nI n))]) C dX12_allKnow_238 rfl (nI_add i5 1) rfl rfl ?_
                              refine ww_goto (tgt := 200) C dX12_allKnow_241 (by decide) ?_
                              exact ww_lv [0, 1, 2, 3, 4, 5, 6] rfl (ww_sub [0, 1, 2] rfl rfl (ih_200 (i5 + 1) 0 (by omega) (by omega) (fun h9 => absurd h9 (by decide)) (fun _ => hc0 (by omega)) (by omega)))
                            · have zc_13 : ((c5 : Nat) : Int) ≠ 0 := i_ne (nI_toInt (n := c5) (by omega)) rfl c_13
                              refine ww_aload_n C dX12_allKnow_214 4 rfl rfl ?_
                              refine ww_get C fg_X12_93 0 rfl rfl dX12_allKnow_215 ?_
                              refine ww_iload C dX12_allKnow_218 0 rfl ?_
                              obtain ⟨x_14, ex_14⟩ : ∃ z : Int32, g2 i5 = z := ⟨_, rfl⟩
                              refine ww_iald (v := x_14) C 2 rfl (vp_in_nI (by omega) (by omega)) (ldn (by omega) ex_14) dX12_allKnow_220 ?_
                              refine ww_aload_n C dX12_allKnow_221 4 rfl rfl ?_
                              refine ww_get C fg_X12_332 0 rfl rfl dX12_allKnow_222 ?_
                              refine ww_ci (wr := [(hm, .inr (12, [.ref m_manys, .ref m_reals, .ref m_factsOf, .ref m_possible, .int (nI q_undos), .int (nI q_models), .ref m_tape, .int (nI q_taped), .int q_fault, .int q_wrong, .int q_wrongAt, .int q_spot, .int q_place, .int q_token, .int q_value, .ref m_ends, .ref m_letters, .ref m_actOf, .ref m_whom, .ref m_actMany, .ref m_tokens, .ref m_afters, .ref m_afterOf, .int q_counted, .ref m_pile, .ref m_caseMany, .ref m_happen, .ref m_hasIf, .ref m_becomes, .ref m_goneOf, .ref m_heard, .ref m_pairs, .ref m_heaps, .int q_rounds, .int q_heapMany, .ref m_led, .ref m_newAt, .ref m_knowing, .ref m_firsts, .int (nI q_people), .ref m_secrets, .ref m_tried, .ref m_lanes, .ref m_lengths, .ref m_cells])), (m_secrets, .inl (E.2.1 1, 4, .inl f_secrets)), (m_tried, .inl (E.2.1 1, 4, .inl g2))]) (k' := 0) (n' := 0) C (run_S (As := [.int (nI q_people)]) (rest := [.int x_14]) C (r_all X.2.1 E ro q_people (by omega)) ms_X12_all wl_X12_230 rfl rfl rfl rfl dX12_allKnow_225) (roK hro) [] [0, 1, 2] rfl rfl rfl rfl (fun r_15 uz hw => ?_)
                              refine an1 hw ?_
                              clear hw
                              intro he_17 hw
                              have h_16 := hw
                              clear hw
                              subst he_17
                              refine ww_eq (ws' := [(hm, .inr (12, [.ref m_manys, .ref m_reals, .ref m_factsOf, .ref m_possible, .int (nI q_undos), .int (nI q_models), .ref m_tape, .int (nI q_taped), .int q_fault, .int q_wrong, .int q_wrongAt, .int q_spot, .int q_place, .int q_token, .int q_value, .ref m_ends, .ref m_letters, .ref m_actOf, .ref m_whom, .ref m_actMany, .ref m_tokens, .ref m_afters, .ref m_afterOf, .int q_counted, .ref m_pile, .ref m_caseMany, .ref m_happen, .ref m_hasIf, .ref m_becomes, .ref m_goneOf, .ref m_heard, .ref m_pairs, .ref m_heaps, .int q_rounds, .int q_heapMany, .ref m_led, .ref m_newAt, .ref m_knowing, .ref m_firsts, .int (nI q_people), .ref m_secrets, .ref m_tried, .ref m_lanes, .ref m_lengths, .ref m_cells])), (m_secrets, .inl (E.2.1 1, 4, .inl f_secrets)), (m_tried, .inl (E.2.1 1, 4, .inl g2))]) ?_ rfl rfl rfl
                              refine ww_icmp_ne (tgt := 235) C dX12_allKnow_228 (by decide) (fun c_18 => ?_) (fun c_18 => ?_)
                              · have zc_18 : x_14.toInt ≠ r_15.toInt := i_ne rfl rfl c_18
                                refine ww_iconst (v := 0) C dX12_allKnow_235 rfl ?_
                                refine ww_istore (lv' := [(5, .int 0), (6, .int (nI i5)), (4, .int (nI lf)), (3, .int (nI by2)), (0, .ref hm), (1, .int (nI row)), (2, .int (nI n))]) C dX12_allKnow_236 rfl rfl ?_
                                refine ww_iinc (j := 1) (v := (nI (i5 + 1))) (lv' := [(6, .int (nI (i5 + 1))), (5, .int 0), (4, .int (nI lf)), (3, .int (nI by2)), (0, .ref hm), (1, .int (nI row)), (2, .int (nI n))]) C dX12_allKnow_238 rfl (nI_add i5 1) rfl rfl ?_
                                refine ww_goto (tgt := 200) C dX12_allKnow_241 (by decide) ?_
                                exact ww_lv [0, 1, 2, 3, 4, 5, 6] rfl (ww_sub [0, 1, 2] rfl rfl (ih_200 (i5 + 1) 0 (by omega) (by omega) (fun h9 => absurd h9 (by decide)) (fun _ => by first | exact absurd (hc1 (by omega)).1 (by omega) | exact ak_bad (hx1 (hc1 (by omega)).1) (by omega) (show i5 < q_people by omega) (by assumption) h_16 hq_people (by assumption)) (by omega)))
                              · have zc_18 : x_14.toInt = r_15.toInt := i_eq rfl rfl c_18
                                refine ww_iconst (v := 1) C dX12_allKnow_231 rfl ?_
                                refine ww_goto (tgt := 236) C dX12_allKnow_232 (by decide) ?_
                                refine ww_istore (lv' := [(5, .int 1), (6, .int (nI i5)), (4, .int (nI lf)), (3, .int (nI by2)), (0, .ref hm), (1, .int (nI row)), (2, .int (nI n))]) C dX12_allKnow_236 rfl rfl ?_
                                refine ww_iinc (j := 1) (v := (nI (i5 + 1))) (lv' := [(6, .int (nI (i5 + 1))), (5, .int 1), (4, .int (nI lf)), (3, .int (nI by2)), (0, .ref hm), (1, .int (nI row)), (2, .int (nI n))]) C dX12_allKnow_238 rfl (nI_add i5 1) rfl rfl ?_
                                refine ww_goto (tgt := 200) C dX12_allKnow_241 (by decide) ?_
                                exact ww_lv [0, 1, 2, 3, 4, 5, 6] rfl (ww_sub [0, 1, 2] rfl rfl (ih_200 (i5 + 1) 1 (by omega) (by omega) (fun _ => ⟨(hc1 (by omega)).1, ak_s2 (hc1 (by omega)).2 (by assumption) h_16 hq_people (by assumption)⟩) (fun h9 => absurd h9 (by decide)) (by omega)))
                      exact ww_lv [0, 1, 2, 3, 4, 5, 6] rfl (ww_sub [0, 1, 2] rfl rfl (loop_200 _ 0 ca (by omega) (by omega) (fun h9 => ⟨h9, fun m h => absurd h (Nat.not_lt_zero _)⟩) (fun h9 => hx0 h9) (Nat.lt_succ_self _)))
                    · have zc_11 : ((ca : Nat) : Int) ≠ 0 := i_ne (nI_toInt (n := ca) (by omega)) rfl c_11
                      have hbe := hby (by omega)
                      have hbp := pow6_pos (n - 1 - k2)
                      refine ww_iload C dX12_allKnow_70 2 rfl ?_
                      refine ww_iload_n C dX12_allKnow_72 3 rfl rfl ?_
                      obtain ⟨z_19, ez_19⟩ : ∃ z : Nat, lf / by2 = z := ⟨_, rfl⟩
                      have hlez_19 : z_19 ≤ lf := by rw [← ez_19]; exact Nat.div_le_self _ _
                      refine ww_idiv (v := (nI z_19)) C dX12_allKnow_73 (nI_n0 (by omega) (by omega)) (by rw [pk_div (a := lf) (d := by2) (by omega) (by omega) (by omega), ez_19]) ?_
                      refine ww_istore (lv' := [(7, .int (nI z_19)), (6, .int (nI k2)), (5, .int (nI ca)), (4, .int (nI lf)), (3, .int (nI by2)), (0, .ref hm), (1, .int (nI row)), (2, .int (nI n))]) C dX12_allKnow_74 rfl rfl ?_
                      refine ww_iload C dX12_allKnow_76 3 rfl ?_
                      refine ww_iload_n C dX12_allKnow_78 4 rfl rfl ?_
                      obtain ⟨z_20, ez_20⟩ : ∃ z : Nat, lf % by2 = z := ⟨_, rfl⟩
                      have hlez_20 : z_20 ≤ lf := by rw [← ez_20]; exact Nat.mod_le _ _
                      refine ww_irem (v := (nI z_20)) C dX12_allKnow_79 (nI_n0 (by omega) (by omega)) (by rw [pk_rem (a := lf) (d := by2) (by omega) (by omega) (by omega), ez_20]) ?_
                      refine ww_istore (lv' := [(4, .int (nI z_20)), (7, .int (nI z_19)), (6, .int (nI k2)), (5, .int (nI ca)), (3, .int (nI by2)), (0, .ref hm), (1, .int (nI row)), (2, .int (nI n))]) C dX12_allKnow_80 rfl rfl ?_
                      refine ww_iload_n C dX12_allKnow_82 4 rfl rfl ?_
                      refine ww_bipush (v := 6) C dX12_allKnow_83 rfl ?_
                      refine ww_idiv (v := (nI (by2 / 6))) C dX12_allKnow_85 (by decide) (pk_div (a := by2) (d := 6) (by omega) (by decide) (by decide)) ?_
                      refine ww_istore_n (lv' := [(3, .int (nI (by2 / 6))), (4, .int (nI z_20)), (7, .int (nI z_19)), (6, .int (nI k2)), (5, .int (nI ca)), (0, .ref hm), (1, .int (nI row)), (2, .int (nI n))]) C dX12_allKnow_86 rfl rfl rfl ?_
                      refine ww_iload C dX12_allKnow_87 2 rfl ?_
                      refine ww_iconst (v := 3) C dX12_allKnow_89 rfl ?_
                      refine ww_icmp_ge (tgt := 97) C dX12_allKnow_90 (by decide) (fun c_21 => ?_) (fun c_21 => ?_)
                      · have zc_21 : ((z_19 : Nat) : Int) ≥ 3 := i_le rfl (nI_toInt (n := z_19) (by omega)) c_21
                        refine ww_iload C dX12_allKnow_97 2 rfl ?_
                        refine ww_iconst (v := 5) C dX12_allKnow_99 rfl ?_
                        refine ww_icmp_ge (tgt := 107) C dX12_allKnow_100 (by decide) (fun c_22 => ?_) (fun c_22 => ?_)
                        · have zc_22 : ((z_19 : Nat) : Int) ≥ 5 := i_le rfl (nI_toInt (n := z_19) (by omega)) c_22
                          refine ww_iconst (v := 2) C dX12_allKnow_107 rfl ?_
                          refine ww_istore (lv' := [(8, .int 2), (3, .int (nI (by2 / 6))), (4, .int (nI z_20)), (7, .int (nI z_19)), (6, .int (nI k2)), (5, .int (nI ca)), (0, .ref hm), (1, .int (nI row)), (2, .int (nI n))]) C dX12_allKnow_108 rfl rfl ?_
                          refine ww_iload C dX12_allKnow_110 3 rfl ?_
                          refine ww_iconst (v := 3) C dX12_allKnow_112 rfl ?_
                          refine ww_icmp_ge (tgt := 123) C dX12_allKnow_113 (by decide) (fun c_23 => ?_) (fun c_23 => ?_)
                          · have zc_23 : ((z_19 : Nat) : Int) ≥ 3 := i_le rfl (nI_toInt (n := z_19) (by omega)) c_23
                            refine ww_iload C dX12_allKnow_123 3 rfl ?_
                            refine ww_iconst (v := 5) C dX12_allKnow_125 rfl ?_
                            refine ww_icmp_ge (tgt := 136) C dX12_allKnow_126 (by decide) (fun c_24 => ?_) (fun c_24 => ?_)
                            · have zc_24 : ((z_19 : Nat) : Int) ≥ 5 := i_le rfl (nI_toInt (n := z_19) (by omega)) c_24
                              refine ww_iconst (v := 3) C dX12_allKnow_136 rfl ?_
                              refine ww_istore (lv' := [(9, .int 3), (8, .int 2), (3, .int (nI (by2 / 6))), (4, .int (nI z_20)), (7, .int (nI z_19)), (6, .int (nI k2)), (5, .int (nI ca)), (0, .ref hm), (1, .int (nI row)), (2, .int (nI n))]) C dX12_allKnow_137 rfl rfl ?_
                              refine ww_iload C dX12_allKnow_139 0 rfl ?_
                              refine ww_aload_n C dX12_allKnow_141 7 rfl rfl ?_
                              refine ww_get C fg_X12_332 0 rfl rfl dX12_allKnow_142 ?_
                              refine ww_icmp_ge (tgt := 152) C dX12_allKnow_145 (by decide) (fun c_25 => ?_) (fun c_25 => ?_)
                              · have zc_25 : 3 ≥ ((q_people : Nat) : Int) := i_le (nI_toInt (n := q_people) (by omega)) rfl c_25
                                refine ww_iconst (v := 0) C dX12_allKnow_152 rfl ?_
                                refine ww_istore (lv' := [(5, .int 0), (9, .int 3), (8, .int 2), (3, .int (nI (by2 / 6))), (4, .int (nI z_20)), (7, .int (nI z_19)), (6, .int (nI k2)), (0, .ref hm), (1, .int (nI row)), (2, .int (nI n))]) C dX12_allKnow_153 rfl rfl ?_
                                refine ww_iload C dX12_allKnow_155 0 rfl ?_
                                refine ww_if_eq_t (tgt := 191) C dX12_allKnow_157 (by decide) (rfl) ?_
                                refine ww_iinc (j := 6) (v := (nI (k2 + 1))) (lv' := [(6, .int (nI (k2 + 1))), (5, .int 0), (9, .int 3), (8, .int 2), (3, .int (nI (by2 / 6))), (4, .int (nI z_20)), (7, .int (nI z_19)), (0, .ref hm), (1, .int (nI row)), (2, .int (nI n))]) C dX12_allKnow_191 rfl (nI_add k2 1) rfl rfl ?_
                                refine ww_goto (tgt := 59) C dX12_allKnow_194 (by decide) ?_
                                exact ww_lv [0, 1, 5, 4, 7, 8, 9] rfl (ww_sub [0, 1, 2] rfl rfl (ih_59 (k2 + 1) (by2 / 6) z_20 0 g2 (by omega) (by omega) (by omega) (by omega) (fun h9 => by rw [← pow6_d (by omega), ← hby (by omega)]) (fun h9 => absurd h9 (by decide)) (fun _ => ak_no (hx1 (by omega)) (by omega) hbe ez_19 (by rw [(cpIJ_3 (z := z_19) (by omega)).2]; omega)) (by omega)))
                              · have zc_25 : 3 < ((q_people : Nat) : Int) := i_nle (nI_toInt (n := q_people) (by omega)) rfl c_25
                                refine ww_iconst (v := 1) C dX12_allKnow_148 rfl ?_
                                refine ww_goto (tgt := 153) C dX12_allKnow_149 (by decide) ?_
                                refine ww_istore (lv' := [(5, .int 1), (9, .int 3), (8, .int 2), (3, .int (nI (by2 / 6))), (4, .int (nI z_20)), (7, .int (nI z_19)), (6, .int (nI k2)), (0, .ref hm), (1, .int (nI row)), (2, .int (nI n))]) C dX12_allKnow_153 rfl rfl ?_
                                refine ww_iload C dX12_allKnow_155 0 rfl ?_
                                refine ww_if_eq_f (tgt := 191) C dX12_allKnow_157 (by decide) (by decide) ?_
                                refine ww_aload_n C dX12_allKnow_160 7 rfl rfl ?_
                                refine ww_get C fg_X12_93 0 rfl rfl dX12_allKnow_161 ?_
                                refine ww_iload C dX12_allKnow_164 2 rfl ?_
                                refine ww_dup2 C dX12_allKnow_166 rfl rfl ?_
                                obtain ⟨x_26, ex_26⟩ : ∃ z : Int32, g2 2 = z := ⟨_, rfl⟩
                                refine ww_iald (v := x_26) C 2 rfl (vin rfl) ex_26 dX12_allKnow_167 ?_
                                refine ww_aload_n C dX12_allKnow_168 7 rfl rfl ?_
                                refine ww_get C fg_X12_93 0 rfl rfl dX12_allKnow_169 ?_
                                refine ww_iload C dX12_allKnow_172 1 rfl ?_
                                obtain ⟨x_27, ex_27⟩ : ∃ z : Int32, g2 3 = z := ⟨_, rfl⟩
                                refine ww_iald (v := x_27) C 2 rfl (vin rfl) ex_27 dX12_allKnow_174 ?_
                                obtain ⟨x_28, ex_28⟩ : ∃ z : Int32, x_26 ||| x_27 = z := ⟨_, rfl⟩
                                refine ww_ior (v := x_28) C dX12_allKnow_175 ex_28 ?_
                                obtain ⟨f_29, ef_29⟩ : ∃ z : Nat → Int32, upd g2 2 x_28 = z := ⟨_, rfl⟩
                                refine ww_iast (ws' := [(hm, .inr (12, [.ref m_manys, .ref m_reals, .ref m_factsOf, .ref m_possible, .int (nI q_undos), .int (nI q_models), .ref m_tape, .int (nI q_taped), .int q_fault, .int q_wrong, .int q_wrongAt, .int q_spot, .int q_place, .int q_token, .int q_value, .ref m_ends, .ref m_letters, .ref m_actOf, .ref m_whom, .ref m_actMany, .ref m_tokens, .ref m_afters, .ref m_afterOf, .int q_counted, .ref m_pile, .ref m_caseMany, .ref m_happen, .ref m_hasIf, .ref m_becomes, .ref m_goneOf, .ref m_heard, .ref m_pairs, .ref m_heaps, .int q_rounds, .int q_heapMany, .ref m_led, .ref m_newAt, .ref m_knowing, .ref m_firsts, .int (nI q_people), .ref m_secrets, .ref m_tried, .ref m_lanes, .ref m_lengths, .ref m_cells])), (m_secrets, .inl (E.2.1 1, 4, .inl f_secrets)), (m_tried, .inl (E.2.1 1, 4, .inl f_29))]) C 2 rfl (vin rfl) ef_29 rfl dX12_allKnow_176 ?_
                                refine ww_aload_n C dX12_allKnow_177 7 rfl rfl ?_
                                refine ww_get C fg_X12_93 0 rfl rfl dX12_allKnow_178 ?_
                                refine ww_iload C dX12_allKnow_181 1 rfl ?_
                                refine ww_aload_n C dX12_allKnow_183 7 rfl rfl ?_
                                refine ww_get C fg_X12_93 0 rfl rfl dX12_allKnow_184 ?_
                                refine ww_iload C dX12_allKnow_187 2 rfl ?_
                                refine ww_iald (v := x_28) C 2 rfl (vin rfl) ((congrFun ef_29 2).symm.trans pk_us) dX12_allKnow_189 ?_
                                obtain ⟨f_30, ef_30⟩ : ∃ z : Nat → Int32, upd f_29 3 x_28 = z := ⟨_, rfl⟩
                                refine ww_iast (ws' := [(hm, .inr (12, [.ref m_manys, .ref m_reals, .ref m_factsOf, .ref m_possible, .int (nI q_undos), .int (nI q_models), .ref m_tape, .int (nI q_taped), .int q_fault, .int q_wrong, .int q_wrongAt, .int q_spot, .int q_place, .int q_token, .int q_value, .ref m_ends, .ref m_letters, .ref m_actOf, .ref m_whom, .ref m_actMany, .ref m_tokens, .ref m_afters, .ref m_afterOf, .int q_counted, .ref m_pile, .ref m_caseMany, .ref m_happen, .ref m_hasIf, .ref m_becomes, .ref m_goneOf, .ref m_heard, .ref m_pairs, .ref m_heaps, .int q_rounds, .int q_heapMany, .ref m_led, .ref m_newAt, .ref m_knowing, .ref m_firsts, .int (nI q_people), .ref m_secrets, .ref m_tried, .ref m_lanes, .ref m_lengths, .ref m_cells])), (m_secrets, .inl (E.2.1 1, 4, .inl f_secrets)), (m_tried, .inl (E.2.1 1, 4, .inl f_30))]) C 2 rfl (vin rfl) ef_30 rfl dX12_allKnow_190 ?_
                                refine ww_iinc (j := 6) (v := (nI (k2 + 1))) (lv' := [(6, .int (nI (k2 + 1))), (5, .int 1), (9, .int 3), (8, .int 2), (3, .int (nI (by2 / 6))), (4, .int (nI z_20)), (7, .int (nI z_19)), (0, .ref hm), (1, .int (nI row)), (2, .int (nI n))]) C dX12_allKnow_191 rfl (nI_add k2 1) rfl rfl ?_
                                refine ww_goto (tgt := 59) C dX12_allKnow_194 (by decide) ?_
                                exact ww_lv [0, 1, 5, 4, 7, 8, 9] rfl (ww_sub [0, 1, 2] rfl rfl (ih_59 (k2 + 1) (by2 / 6) z_20 1 f_30 (by omega) (by omega) (by omega) (by omega) (fun h9 => by rw [← pow6_d (by omega), ← hby (by omega)]) (fun _ => ak_go (hx1 (by omega)) (by omega) hbe ez_19 ez_20 (cpIJ_3 (z := z_19) (by omega)).1 (cpIJ_3 (z := z_19) (by omega)).2 (by omega) (by assumption) (by assumption) (by assumption) (by assumption) (by assumption)) (fun h9 => absurd h9 (by decide)) (by omega)))
                            · have zc_24 : ((z_19 : Nat) : Int) < 5 := i_nle rfl (nI_toInt (n := z_19) (by omega)) c_24
                              omega
                          · have zc_23 : ((z_19 : Nat) : Int) < 3 := i_nle rfl (nI_toInt (n := z_19) (by omega)) c_23
                            omega
                        · have zc_22 : ((z_19 : Nat) : Int) < 5 := i_nle rfl (nI_toInt (n := z_19) (by omega)) c_22
                          refine ww_iconst (v := 1) C dX12_allKnow_103 rfl ?_
                          refine ww_goto (tgt := 108) C dX12_allKnow_104 (by decide) ?_
                          refine ww_istore (lv' := [(8, .int 1), (3, .int (nI (by2 / 6))), (4, .int (nI z_20)), (7, .int (nI z_19)), (6, .int (nI k2)), (5, .int (nI ca)), (0, .ref hm), (1, .int (nI row)), (2, .int (nI n))]) C dX12_allKnow_108 rfl rfl ?_
                          refine ww_iload C dX12_allKnow_110 3 rfl ?_
                          refine ww_iconst (v := 3) C dX12_allKnow_112 rfl ?_
                          refine ww_icmp_ge (tgt := 123) C dX12_allKnow_113 (by decide) (fun c_31 => ?_) (fun c_31 => ?_)
                          · have zc_31 : ((z_19 : Nat) : Int) ≥ 3 := i_le rfl (nI_toInt (n := z_19) (by omega)) c_31
                            refine ww_iload C dX12_allKnow_123 3 rfl ?_
                            refine ww_iconst (v := 5) C dX12_allKnow_125 rfl ?_
                            refine ww_icmp_ge (tgt := 136) C dX12_allKnow_126 (by decide) (fun c_32 => ?_) (fun c_32 => ?_)
                            · have zc_32 : ((z_19 : Nat) : Int) ≥ 5 := i_le rfl (nI_toInt (n := z_19) (by omega)) c_32
                              omega
                            · have zc_32 : ((z_19 : Nat) : Int) < 5 := i_nle rfl (nI_toInt (n := z_19) (by omega)) c_32
                              refine ww_iload C dX12_allKnow_129 3 rfl ?_
                              refine ww_iconst (v := 1) C dX12_allKnow_131 rfl ?_
                              refine ww_isub (v := (nI (z_19 - 1))) C dX12_allKnow_132 (pk_sub (a := z_19) (b := 1) (by omega)) ?_
                              refine ww_goto (tgt := 137) C dX12_allKnow_133 (by decide) ?_
                              refine ww_istore (lv' := [(9, .int (nI (z_19 - 1))), (8, .int 1), (3, .int (nI (by2 / 6))), (4, .int (nI z_20)), (7, .int (nI z_19)), (6, .int (nI k2)), (5, .int (nI ca)), (0, .ref hm), (1, .int (nI row)), (2, .int (nI n))]) C dX12_allKnow_137 rfl rfl ?_
                              refine ww_iload C dX12_allKnow_139 0 rfl ?_
                              refine ww_aload_n C dX12_allKnow_141 7 rfl rfl ?_
                              refine ww_get C fg_X12_332 0 rfl rfl dX12_allKnow_142 ?_
                              refine ww_icmp_ge (tgt := 152) C dX12_allKnow_145 (by decide) (fun c_33 => ?_) (fun c_33 => ?_)
                              · have zc_33 : ((z_19 - 1 : Nat) : Int) ≥ ((q_people : Nat) : Int) := i_le (nI_toInt (n := q_people) (by omega)) (nI_toInt (n := z_19 - 1) (by omega)) c_33
                                refine ww_iconst (v := 0) C dX12_allKnow_152 rfl ?_
                                refine ww_istore (lv' := [(5, .int 0), (9, .int (nI (z_19 - 1))), (8, .int 1), (3, .int (nI (by2 / 6))), (4, .int (nI z_20)), (7, .int (nI z_19)), (6, .int (nI k2)), (0, .ref hm), (1, .int (nI row)), (2, .int (nI n))]) C dX12_allKnow_153 rfl rfl ?_
                                refine ww_iload C dX12_allKnow_155 0 rfl ?_
                                refine ww_if_eq_t (tgt := 191) C dX12_allKnow_157 (by decide) (rfl) ?_
                                refine ww_iinc (j := 6) (v := (nI (k2 + 1))) (lv' := [(6, .int (nI (k2 + 1))), (5, .int 0), (9, .int (nI (z_19 - 1))), (8, .int 1), (3, .int (nI (by2 / 6))), (4, .int (nI z_20)), (7, .int (nI z_19)), (0, .ref hm), (1, .int (nI row)), (2, .int (nI n))]) C dX12_allKnow_191 rfl (nI_add k2 1) rfl rfl ?_
                                refine ww_goto (tgt := 59) C dX12_allKnow_194 (by decide) ?_
                                exact ww_lv [0, 1, 5, 4, 7, 8, 9] rfl (ww_sub [0, 1, 2] rfl rfl (ih_59 (k2 + 1) (by2 / 6) z_20 0 g2 (by omega) (by omega) (by omega) (by omega) (fun h9 => by rw [← pow6_d (by omega), ← hby (by omega)]) (fun h9 => absurd h9 (by decide)) (fun _ => ak_no (hx1 (by omega)) (by omega) hbe ez_19 (by rw [(cpIJ_2 (z := z_19) (by omega)).2]; omega)) (by omega)))
                              · have zc_33 : ((z_19 - 1 : Nat) : Int) < ((q_people : Nat) : Int) := i_nle (nI_toInt (n := q_people) (by omega)) (nI_toInt (n := z_19 - 1) (by omega)) c_33
                                refine ww_iconst (v := 1) C dX12_allKnow_148 rfl ?_
                                refine ww_goto (tgt := 153) C dX12_allKnow_149 (by decide) ?_
                                refine ww_istore (lv' := [(5, .int 1), (9, .int (nI (z_19 - 1))), (8, .int 1), (3, .int (nI (by2 / 6))), (4, .int (nI z_20)), (7, .int (nI z_19)), (6, .int (nI k2)), (0, .ref hm), (1, .int (nI row)), (2, .int (nI n))]) C dX12_allKnow_153 rfl rfl ?_
                                refine ww_iload C dX12_allKnow_155 0 rfl ?_
                                refine ww_if_eq_f (tgt := 191) C dX12_allKnow_157 (by decide) (by decide) ?_
                                refine ww_aload_n C dX12_allKnow_160 7 rfl rfl ?_
                                refine ww_get C fg_X12_93 0 rfl rfl dX12_allKnow_161 ?_
                                refine ww_iload C dX12_allKnow_164 2 rfl ?_
                                refine ww_dup2 C dX12_allKnow_166 rfl rfl ?_
                                obtain ⟨x_34, ex_34⟩ : ∃ z : Int32, g2 1 = z := ⟨_, rfl⟩
                                refine ww_iald (v := x_34) C 2 rfl (vin rfl) ex_34 dX12_allKnow_167 ?_
                                refine ww_aload_n C dX12_allKnow_168 7 rfl rfl ?_
                                refine ww_get C fg_X12_93 0 rfl rfl dX12_allKnow_169 ?_
                                refine ww_iload C dX12_allKnow_172 1 rfl ?_
                                obtain ⟨x_35, ex_35⟩ : ∃ z : Int32, g2 (z_19 - 1) = z := ⟨_, rfl⟩
                                refine ww_iald (v := x_35) C 2 rfl (vp_in_nI (by omega) (by omega)) (ldn (by omega) ex_35) dX12_allKnow_174 ?_
                                obtain ⟨x_36, ex_36⟩ : ∃ z : Int32, x_34 ||| x_35 = z := ⟨_, rfl⟩
                                refine ww_ior (v := x_36) C dX12_allKnow_175 ex_36 ?_
                                obtain ⟨f_37, ef_37⟩ : ∃ z : Nat → Int32, upd g2 1 x_36 = z := ⟨_, rfl⟩
                                refine ww_iast (ws' := [(hm, .inr (12, [.ref m_manys, .ref m_reals, .ref m_factsOf, .ref m_possible, .int (nI q_undos), .int (nI q_models), .ref m_tape, .int (nI q_taped), .int q_fault, .int q_wrong, .int q_wrongAt, .int q_spot, .int q_place, .int q_token, .int q_value, .ref m_ends, .ref m_letters, .ref m_actOf, .ref m_whom, .ref m_actMany, .ref m_tokens, .ref m_afters, .ref m_afterOf, .int q_counted, .ref m_pile, .ref m_caseMany, .ref m_happen, .ref m_hasIf, .ref m_becomes, .ref m_goneOf, .ref m_heard, .ref m_pairs, .ref m_heaps, .int q_rounds, .int q_heapMany, .ref m_led, .ref m_newAt, .ref m_knowing, .ref m_firsts, .int (nI q_people), .ref m_secrets, .ref m_tried, .ref m_lanes, .ref m_lengths, .ref m_cells])), (m_secrets, .inl (E.2.1 1, 4, .inl f_secrets)), (m_tried, .inl (E.2.1 1, 4, .inl f_37))]) C 2 rfl (vin rfl) ef_37 rfl dX12_allKnow_176 ?_
                                refine ww_aload_n C dX12_allKnow_177 7 rfl rfl ?_
                                refine ww_get C fg_X12_93 0 rfl rfl dX12_allKnow_178 ?_
                                refine ww_iload C dX12_allKnow_181 1 rfl ?_
                                refine ww_aload_n C dX12_allKnow_183 7 rfl rfl ?_
                                refine ww_get C fg_X12_93 0 rfl rfl dX12_allKnow_184 ?_
                                refine ww_iload C dX12_allKnow_187 2 rfl ?_
                                refine ww_iald (v := x_36) C 2 rfl (vin rfl) ((congrFun ef_37 1).symm.trans pk_us) dX12_allKnow_189 ?_
                                obtain ⟨f_38, ef_38⟩ : ∃ z : Nat → Int32, upd f_37 (z_19 - 1) x_36 = z := ⟨_, rfl⟩
                                refine ww_iast (ws' := [(hm, .inr (12, [.ref m_manys, .ref m_reals, .ref m_factsOf, .ref m_possible, .int (nI q_undos), .int (nI q_models), .ref m_tape, .int (nI q_taped), .int q_fault, .int q_wrong, .int q_wrongAt, .int q_spot, .int q_place, .int q_token, .int q_value, .ref m_ends, .ref m_letters, .ref m_actOf, .ref m_whom, .ref m_actMany, .ref m_tokens, .ref m_afters, .ref m_afterOf, .int q_counted, .ref m_pile, .ref m_caseMany, .ref m_happen, .ref m_hasIf, .ref m_becomes, .ref m_goneOf, .ref m_heard, .ref m_pairs, .ref m_heaps, .int q_rounds, .int q_heapMany, .ref m_led, .ref m_newAt, .ref m_knowing, .ref m_firsts, .int (nI q_people), .ref m_secrets, .ref m_tried, .ref m_lanes, .ref m_lengths, .ref m_cells])), (m_secrets, .inl (E.2.1 1, 4, .inl f_secrets)), (m_tried, .inl (E.2.1 1, 4, .inl f_38))]) C 2 rfl (vp_in_nI (by omega) (by omega)) (ldn2 (by omega) ef_38) rfl dX12_allKnow_190 ?_
                                refine ww_iinc (j := 6) (v := (nI (k2 + 1))) (lv' := [(6, .int (nI (k2 + 1))), (5, .int 1), (9, .int (nI (z_19 - 1))), (8, .int 1), (3, .int (nI (by2 / 6))), (4, .int (nI z_20)), (7, .int (nI z_19)), (0, .ref hm), (1, .int (nI row)), (2, .int (nI n))]) C dX12_allKnow_191 rfl (nI_add k2 1) rfl rfl ?_
                                refine ww_goto (tgt := 59) C dX12_allKnow_194 (by decide) ?_
                                exact ww_lv [0, 1, 5, 4, 7, 8, 9] rfl (ww_sub [0, 1, 2] rfl rfl (ih_59 (k2 + 1) (by2 / 6) z_20 1 f_38 (by omega) (by omega) (by omega) (by omega) (fun h9 => by rw [← pow6_d (by omega), ← hby (by omega)]) (fun _ => ak_go (hx1 (by omega)) (by omega) hbe ez_19 ez_20 (cpIJ_2 (z := z_19) (by omega)).1 (cpIJ_2 (z := z_19) (by omega)).2 (by omega) (by assumption) (by assumption) (by assumption) (by assumption) (by assumption)) (fun h9 => absurd h9 (by decide)) (by omega)))
                          · have zc_31 : ((z_19 : Nat) : Int) < 3 := i_nle rfl (nI_toInt (n := z_19) (by omega)) c_31
                            omega
                      · have zc_21 : ((z_19 : Nat) : Int) < 3 := i_nle rfl (nI_toInt (n := z_19) (by omega)) c_21
                        refine ww_iconst (v := 0) C dX12_allKnow_93 rfl ?_
                        refine ww_goto (tgt := 108) C dX12_allKnow_94 (by decide) ?_
                        refine ww_istore (lv' := [(8, .int 0), (3, .int (nI (by2 / 6))), (4, .int (nI z_20)), (7, .int (nI z_19)), (6, .int (nI k2)), (5, .int (nI ca)), (0, .ref hm), (1, .int (nI row)), (2, .int (nI n))]) C dX12_allKnow_108 rfl rfl ?_
                        refine ww_iload C dX12_allKnow_110 3 rfl ?_
                        refine ww_iconst (v := 3) C dX12_allKnow_112 rfl ?_
                        refine ww_icmp_ge (tgt := 123) C dX12_allKnow_113 (by decide) (fun c_39 => ?_) (fun c_39 => ?_)
                        · have zc_39 : ((z_19 : Nat) : Int) ≥ 3 := i_le rfl (nI_toInt (n := z_19) (by omega)) c_39
                          omega
                        · have zc_39 : ((z_19 : Nat) : Int) < 3 := i_nle rfl (nI_toInt (n := z_19) (by omega)) c_39
                          refine ww_iload C dX12_allKnow_116 3 rfl ?_
                          refine ww_iconst (v := 1) C dX12_allKnow_118 rfl ?_
                          refine ww_iadd (v := (nI (z_19 + 1))) C dX12_allKnow_119 (nI_add z_19 1) ?_
                          refine ww_goto (tgt := 137) C dX12_allKnow_120 (by decide) ?_
                          refine ww_istore (lv' := [(9, .int (nI (z_19 + 1))), (8, .int 0), (3, .int (nI (by2 / 6))), (4, .int (nI z_20)), (7, .int (nI z_19)), (6, .int (nI k2)), (5, .int (nI ca)), (0, .ref hm), (1, .int (nI row)), (2, .int (nI n))]) C dX12_allKnow_137 rfl rfl ?_
                          refine ww_iload C dX12_allKnow_139 0 rfl ?_
                          refine ww_aload_n C dX12_allKnow_141 7 rfl rfl ?_
                          refine ww_get C fg_X12_332 0 rfl rfl dX12_allKnow_142 ?_
                          refine ww_icmp_ge (tgt := 152) C dX12_allKnow_145 (by decide) (fun c_40 => ?_) (fun c_40 => ?_)
                          · have zc_40 : ((z_19 + 1 : Nat) : Int) ≥ ((q_people : Nat) : Int) := i_le (nI_toInt (n := q_people) (by omega)) (nI_toInt (n := z_19 + 1) (by omega)) c_40
                            refine ww_iconst (v := 0) C dX12_allKnow_152 rfl ?_
                            refine ww_istore (lv' := [(5, .int 0), (9, .int (nI (z_19 + 1))), (8, .int 0), (3, .int (nI (by2 / 6))), (4, .int (nI z_20)), (7, .int (nI z_19)), (6, .int (nI k2)), (0, .ref hm), (1, .int (nI row)), (2, .int (nI n))]) C dX12_allKnow_153 rfl rfl ?_
                            refine ww_iload C dX12_allKnow_155 0 rfl ?_
                            refine ww_if_eq_t (tgt := 191) C dX12_allKnow_157 (by decide) (rfl) ?_
                            refine ww_iinc (j := 6) (v := (nI (k2 + 1))) (lv' := [(6, .int (nI (k2 + 1))), (5, .int 0), (9, .int (nI (z_19 + 1))), (8, .int 0), (3, .int (nI (by2 / 6))), (4, .int (nI z_20)), (7, .int (nI z_19)), (0, .ref hm), (1, .int (nI row)), (2, .int (nI n))]) C dX12_allKnow_191 rfl (nI_add k2 1) rfl rfl ?_
                            refine ww_goto (tgt := 59) C dX12_allKnow_194 (by decide) ?_
                            exact ww_lv [0, 1, 5, 4, 7, 8, 9] rfl (ww_sub [0, 1, 2] rfl rfl (ih_59 (k2 + 1) (by2 / 6) z_20 0 g2 (by omega) (by omega) (by omega) (by omega) (fun h9 => by rw [← pow6_d (by omega), ← hby (by omega)]) (fun h9 => absurd h9 (by decide)) (fun _ => ak_no (hx1 (by omega)) (by omega) hbe ez_19 (by rw [(cpIJ_1 (z := z_19) (by omega)).2]; omega)) (by omega)))
                          · have zc_40 : ((z_19 + 1 : Nat) : Int) < ((q_people : Nat) : Int) := i_nle (nI_toInt (n := q_people) (by omega)) (nI_toInt (n := z_19 + 1) (by omega)) c_40
                            refine ww_iconst (v := 1) C dX12_allKnow_148 rfl ?_
                            refine ww_goto (tgt := 153) C dX12_allKnow_149 (by decide) ?_
                            refine ww_istore (lv' := [(5, .int 1), (9, .int (nI (z_19 + 1))), (8, .int 0), (3, .int (nI (by2 / 6))), (4, .int (nI z_20)), (7, .int (nI z_19)), (6, .int (nI k2)), (0, .ref hm), (1, .int (nI row)), (2, .int (nI n))]) C dX12_allKnow_153 rfl rfl ?_
                            refine ww_iload C dX12_allKnow_155 0 rfl ?_
                            refine ww_if_eq_f (tgt := 191) C dX12_allKnow_157 (by decide) (by decide) ?_
                            refine ww_aload_n C dX12_allKnow_160 7 rfl rfl ?_
                            refine ww_get C fg_X12_93 0 rfl rfl dX12_allKnow_161 ?_
                            refine ww_iload C dX12_allKnow_164 2 rfl ?_
                            refine ww_dup2 C dX12_allKnow_166 rfl rfl ?_
                            obtain ⟨x_41, ex_41⟩ : ∃ z : Int32, g2 0 = z := ⟨_, rfl⟩
                            refine ww_iald (v := x_41) C 2 rfl (vin rfl) ex_41 dX12_allKnow_167 ?_
                            refine ww_aload_n C dX12_allKnow_168 7 rfl rfl ?_
                            refine ww_get C fg_X12_93 0 rfl rfl dX12_allKnow_169 ?_
                            refine ww_iload C dX12_allKnow_172 1 rfl ?_
                            obtain ⟨x_42, ex_42⟩ : ∃ z : Int32, g2 (z_19 + 1) = z := ⟨_, rfl⟩
                            refine ww_iald (v := x_42) C 2 rfl (vp_in_nI (by omega) (by omega)) (ldn (by omega) ex_42) dX12_allKnow_174 ?_
                            obtain ⟨x_43, ex_43⟩ : ∃ z : Int32, x_41 ||| x_42 = z := ⟨_, rfl⟩
                            refine ww_ior (v := x_43) C dX12_allKnow_175 ex_43 ?_
                            obtain ⟨f_44, ef_44⟩ : ∃ z : Nat → Int32, upd g2 0 x_43 = z := ⟨_, rfl⟩
                            refine ww_iast (ws' := [(hm, .inr (12, [.ref m_manys, .ref m_reals, .ref m_factsOf, .ref m_possible, .int (nI q_undos), .int (nI q_models), .ref m_tape, .int (nI q_taped), .int q_fault, .int q_wrong, .int q_wrongAt, .int q_spot, .int q_place, .int q_token, .int q_value, .ref m_ends, .ref m_letters, .ref m_actOf, .ref m_whom, .ref m_actMany, .ref m_tokens, .ref m_afters, .ref m_afterOf, .int q_counted, .ref m_pile, .ref m_caseMany, .ref m_happen, .ref m_hasIf, .ref m_becomes, .ref m_goneOf, .ref m_heard, .ref m_pairs, .ref m_heaps, .int q_rounds, .int q_heapMany, .ref m_led, .ref m_newAt, .ref m_knowing, .ref m_firsts, .int (nI q_people), .ref m_secrets, .ref m_tried, .ref m_lanes, .ref m_lengths, .ref m_cells])), (m_secrets, .inl (E.2.1 1, 4, .inl f_secrets)), (m_tried, .inl (E.2.1 1, 4, .inl f_44))]) C 2 rfl (vin rfl) ef_44 rfl dX12_allKnow_176 ?_
                            refine ww_aload_n C dX12_allKnow_177 7 rfl rfl ?_
                            refine ww_get C fg_X12_93 0 rfl rfl dX12_allKnow_178 ?_
                            refine ww_iload C dX12_allKnow_181 1 rfl ?_
                            refine ww_aload_n C dX12_allKnow_183 7 rfl rfl ?_
                            refine ww_get C fg_X12_93 0 rfl rfl dX12_allKnow_184 ?_
                            refine ww_iload C dX12_allKnow_187 2 rfl ?_
                            refine ww_iald (v := x_43) C 2 rfl (vin rfl) ((congrFun ef_44 0).symm.trans pk_us) dX12_allKnow_189 ?_
                            obtain ⟨f_45, ef_45⟩ : ∃ z : Nat → Int32, upd f_44 (z_19 + 1) x_43 = z := ⟨_, rfl⟩
                            refine ww_iast (ws' := [(hm, .inr (12, [.ref m_manys, .ref m_reals, .ref m_factsOf, .ref m_possible, .int (nI q_undos), .int (nI q_models), .ref m_tape, .int (nI q_taped), .int q_fault, .int q_wrong, .int q_wrongAt, .int q_spot, .int q_place, .int q_token, .int q_value, .ref m_ends, .ref m_letters, .ref m_actOf, .ref m_whom, .ref m_actMany, .ref m_tokens, .ref m_afters, .ref m_afterOf, .int q_counted, .ref m_pile, .ref m_caseMany, .ref m_happen, .ref m_hasIf, .ref m_becomes, .ref m_goneOf, .ref m_heard, .ref m_pairs, .ref m_heaps, .int q_rounds, .int q_heapMany, .ref m_led, .ref m_newAt, .ref m_knowing, .ref m_firsts, .int (nI q_people), .ref m_secrets, .ref m_tried, .ref m_lanes, .ref m_lengths, .ref m_cells])), (m_secrets, .inl (E.2.1 1, 4, .inl f_secrets)), (m_tried, .inl (E.2.1 1, 4, .inl f_45))]) C 2 rfl (vp_in_nI (by omega) (by omega)) (ldn2 (by omega) ef_45) rfl dX12_allKnow_190 ?_
                            refine ww_iinc (j := 6) (v := (nI (k2 + 1))) (lv' := [(6, .int (nI (k2 + 1))), (5, .int 1), (9, .int (nI (z_19 + 1))), (8, .int 0), (3, .int (nI (by2 / 6))), (4, .int (nI z_20)), (7, .int (nI z_19)), (0, .ref hm), (1, .int (nI row)), (2, .int (nI n))]) C dX12_allKnow_191 rfl (nI_add k2 1) rfl rfl ?_
                            refine ww_goto (tgt := 59) C dX12_allKnow_194 (by decide) ?_
                            exact ww_lv [0, 1, 5, 4, 7, 8, 9] rfl (ww_sub [0, 1, 2] rfl rfl (ih_59 (k2 + 1) (by2 / 6) z_20 1 f_45 (by omega) (by omega) (by omega) (by omega) (fun h9 => by rw [← pow6_d (by omega), ← hby (by omega)]) (fun _ => ak_go (hx1 (by omega)) (by omega) hbe ez_19 ez_20 (cpIJ_1 (z := z_19) (by omega)).1 (cpIJ_1 (z := z_19) (by omega)).2 (by omega) (by assumption) (by assumption) (by assumption) (by assumption) (by assumption)) (fun h9 => absurd h9 (by decide)) (by omega)))
              exact ww_lv [0, 1, 2, 3, 4, 5, 6] rfl (ww_sub [0, 1, 2] rfl rfl (loop_59 _ 0 by1 row 1 g1 (by omega) (by omega) (by omega) (by have h9 := pow6_le (m := k1 - 1) (by omega); omega) (fun h9 => by rw [hby1, show k1 - 1 = n - 1 - 0 by omega]) (fun _ => ⟨cpX_cg n row (fun m hm => hak m (by omega)), cpX_cg n row (fun m hm => (hak m (by omega)).symm)⟩) (fun h9 => absurd h9 (by decide)) (Nat.lt_succ_self _)))
            · have zc_2 : ((k1 : Nat) : Int) < ((n : Nat) : Int) := i_nle (nI_toInt (n := n) (by omega)) (nI_toInt (n := k1) (by omega)) c_2
              have hp6 := pow6_le (m := k1 - 1) (by omega)
              refine ww_iload_n C dX12_allKnow_39 1 rfl rfl ?_
              refine ww_bipush (v := 6) C dX12_allKnow_40 rfl ?_
              refine ww_imul (v := (nI (by1 * 6))) C dX12_allKnow_42 (pk_mul by1 6) ?_
              refine ww_istore_n (lv' := [(3, .int (nI (by1 * 6))), (4, .int (nI k1)), (0, .ref hm), (1, .int (nI row)), (2, .int (nI n))]) C dX12_allKnow_43 rfl rfl rfl ?_
              refine ww_iinc (j := 1) (v := (nI (k1 + 1))) (lv' := [(4, .int (nI (k1 + 1))), (3, .int (nI (by1 * 6))), (0, .ref hm), (1, .int (nI row)), (2, .int (nI n))]) C dX12_allKnow_44 rfl (nI_add k1 1) rfl rfl ?_
              refine ww_goto (tgt := 33) C dX12_allKnow_47 (by decide) ?_
              exact ww_lv [0, 1, 2, 3, 4] rfl (ww_sub [0, 1, 2] rfl rfl (ih_33 (k1 + 1) (by1 * 6) (by omega) (by omega) (by rw [show k1 + 1 - 1 = (k1 - 1) + 1 by omega, pow6_s]; omega) (by omega)))
        exact ww_lv [0, 1, 2, 3, 4] rfl (ww_sub [0, 1, 2] rfl rfl (loop_33 _ 1 1 (by omega) (by omega) rfl (Nat.lt_succ_self _)))
      · have zc_1 : ((i1 : Nat) : Int) < ((q_people : Nat) : Int) := i_nle (nI_toInt (n := q_people) (by omega)) (nI_toInt (n := i1) (by omega)) c_1
        refine ww_aload_n C dX12_allKnow_10 1 rfl rfl ?_
        refine ww_get C fg_X12_93 0 rfl rfl dX12_allKnow_11 ?_
        refine ww_iload_n C dX12_allKnow_14 0 rfl rfl ?_
        refine ww_aload_n C dX12_allKnow_15 1 rfl rfl ?_
        refine ww_get C fg_X12_90 0 rfl rfl dX12_allKnow_16 ?_
        refine ww_iload_n C dX12_allKnow_19 0 rfl rfl ?_
        obtain ⟨x_46, ex_46⟩ : ∃ z : Int32, f_secrets i1 = z := ⟨_, rfl⟩
        refine ww_iald (v := x_46) C 1 rfl (vp_in_nI (by omega) (by omega)) (ldn (by omega) ex_46) dX12_allKnow_20 ?_
        obtain ⟨f_47, ef_47⟩ : ∃ z : Nat → Int32, upd g1 i1 x_46 = z := ⟨_, rfl⟩
        refine ww_iast (ws' := [(hm, .inr (12, [.ref m_manys, .ref m_reals, .ref m_factsOf, .ref m_possible, .int (nI q_undos), .int (nI q_models), .ref m_tape, .int (nI q_taped), .int q_fault, .int q_wrong, .int q_wrongAt, .int q_spot, .int q_place, .int q_token, .int q_value, .ref m_ends, .ref m_letters, .ref m_actOf, .ref m_whom, .ref m_actMany, .ref m_tokens, .ref m_afters, .ref m_afterOf, .int q_counted, .ref m_pile, .ref m_caseMany, .ref m_happen, .ref m_hasIf, .ref m_becomes, .ref m_goneOf, .ref m_heard, .ref m_pairs, .ref m_heaps, .int q_rounds, .int q_heapMany, .ref m_led, .ref m_newAt, .ref m_knowing, .ref m_firsts, .int (nI q_people), .ref m_secrets, .ref m_tried, .ref m_lanes, .ref m_lengths, .ref m_cells])), (m_secrets, .inl (E.2.1 1, 4, .inl f_secrets)), (m_tried, .inl (E.2.1 1, 4, .inl f_47))]) C 2 rfl (vp_in_nI (by omega) (by omega)) (ldn2 (by omega) ef_47) rfl dX12_allKnow_21 ?_
        refine ww_iinc (j := 0) (v := (nI (i1 + 1))) (lv' := [(3, .int (nI (i1 + 1))), (0, .ref hm), (1, .int (nI row)), (2, .int (nI n))]) C dX12_allKnow_22 rfl (nI_add i1 1) rfl rfl ?_
        refine ww_goto (tgt := 2) C dX12_allKnow_25 (by decide) ?_
        exact ww_lv [0, 1, 2, 3] rfl (ww_sub [0, 1, 2] rfl rfl (ih_2 (i1 + 1) f_47 (by omega) (ak_cp hak (by assumption) (by assumption)) (by omega)))
  exact ww_lv [0, 1, 2, 3] rfl (ww_sub [0, 1, 2] rfl rfl (loop_2 _ 0 f_tried (by omega) (fun m h => absurd h (Nat.not_lt_zero _)) (Nat.lt_succ_self _)))
end
section
theorem dX12_fewest_0 : decode cX12_fewest 0 = .ok (.iload_n 1, 1) := dl_27 (by decide +kernel)
theorem dX12_fewest_1 : decode cX12_fewest 1 = .ok (.i2l, 1) := dl_133 (by decide +kernel)
theorem dX12_fewest_2 : decode cX12_fewest 2 = .ok (.lconst 0, 1) := dl_9 (by decide +kernel)
theorem dX12_fewest_3 : decode cX12_fewest 3 = .ok (.lconst 1, 1) := dl_10 (by decide +kernel)
theorem dX12_fewest_4 : decode cX12_fewest 4 = .ok (.invokestatic 115, 3) := dl_184 (by decide +kernel)
theorem dX12_fewest_7 : decode cX12_fewest 7 = .ok (.ifCond .ne 5, 3) := dl_154 (by decide +kernel)
theorem dX12_fewest_12 : decode cX12_fewest 12 = .ok (.aload_n 0, 1) := dl_42 (by decide +kernel)
theorem dX12_fewest_13 : decode cX12_fewest 13 = .ok (.getfield 332, 3) := dl_180 (by decide +kernel)
theorem dX12_fewest_16 : decode cX12_fewest 16 = .ok (.ifCond .ne 6, 3) := dl_154 (by decide +kernel)
theorem dX12_fewest_22 : decode cX12_fewest 22 = .ok (.iconst 1, 1) := dl_4 (by decide +kernel)
theorem dX12_fewest_23 : decode cX12_fewest 23 = .ok (.istore_n 2, 1) := dl_61 (by decide +kernel)
theorem dX12_fewest_24 : decode cX12_fewest 24 = .ok (.iconst 0, 1) := dl_3 (by decide +kernel)
theorem dX12_fewest_25 : decode cX12_fewest 25 = .ok (.istore_n 3, 1) := dl_62 (by decide +kernel)
theorem dX12_fewest_26 : decode cX12_fewest 26 = .ok (.iload_n 3, 1) := dl_29 (by decide +kernel)
theorem dX12_fewest_27 : decode cX12_fewest 27 = .ok (.bipush 6, 2) := dl_16 (by decide +kernel)
theorem dX12_fewest_29 : decode cX12_fewest 29 = .ok (.if_icmp .ge 103, 3) := dl_162 (by decide +kernel)
theorem dX12_fewest_132 : decode cX12_fewest 132 = .ok (.bipush (-4), 2) := dl_16 (by decide +kernel)
theorem dX12_fewest_134 : decode cX12_fewest 134 = .ok (.ireturn, 1) := dl_172 (by decide +kernel)
theorem dX12_fewest_32 : decode cX12_fewest 32 = .ok (.iconst 0, 1) := dl_3 (by decide +kernel)
theorem dX12_fewest_33 : decode cX12_fewest 33 = .ok (.istore 4, 2) := dl_54 (by decide +kernel)
theorem dX12_fewest_35 : decode cX12_fewest 35 = .ok (.iload 4, 2) := dl_21 (by decide +kernel)
theorem dX12_fewest_37 : decode cX12_fewest 37 = .ok (.iload_n 2, 1) := dl_28 (by decide +kernel)
theorem dX12_fewest_38 : decode cX12_fewest 38 = .ok (.if_icmp .ge 83, 3) := dl_162 (by decide +kernel)
theorem dX12_fewest_121 : decode cX12_fewest 121 = .ok (.iload_n 2, 1) := dl_28 (by decide +kernel)
theorem dX12_fewest_122 : decode cX12_fewest 122 = .ok (.bipush 6, 2) := dl_16 (by decide +kernel)
theorem dX12_fewest_124 : decode cX12_fewest 124 = .ok (.imul, 1) := dl_104 (by decide +kernel)
theorem dX12_fewest_125 : decode cX12_fewest 125 = .ok (.istore_n 2, 1) := dl_61 (by decide +kernel)
theorem dX12_fewest_126 : decode cX12_fewest 126 = .ok (.iinc 3 1, 3) := dl_132 (by decide +kernel)
theorem dX12_fewest_129 : decode cX12_fewest 129 = .ok (.goto (-103), 3) := dl_167 (by decide +kernel)
theorem dX12_fewest_41 : decode cX12_fewest 41 = .ok (.aload_n 0, 1) := dl_42 (by decide +kernel)
theorem dX12_fewest_42 : decode cX12_fewest 42 = .ok (.iload 4, 2) := dl_21 (by decide +kernel)
theorem dX12_fewest_44 : decode cX12_fewest 44 = .ok (.iload_n 3, 1) := dl_29 (by decide +kernel)
theorem dX12_fewest_45 : decode cX12_fewest 45 = .ok (.invokevirtual 338, 3) := dl_182 (by decide +kernel)
theorem wl_X12_338 : Cond.methodLink RX12 338 yX12_allKnow ∈ TB := tbm (tq7 (List.mem_of_getElem? (i := 72) (by decide +kernel))) (by decide +kernel)
theorem wc_X12_allKnow : Cond.code yX12_allKnow cX12_allKnow 10 (some .boolean) ∈ TB := tbm (tq7 (List.mem_of_getElem? (i := 75) (rfl))) (by decide +kernel)
theorem wi_X12_allKnow : Cond.instanceMethod yX12_allKnow ∈ TB := tbm (tq7 (List.mem_of_getElem? (i := 74) (by decide +kernel))) (by decide +kernel)
theorem ws_X12_allKnow : Cond.selects RX12 yX12_allKnow yX12_allKnow ∈ TB := tbm (tq0 (List.mem_of_getElem? (i := 80) (by decide +kernel))) (by decide +kernel)
theorem mi_X12_allKnow : MI yX12_allKnow cX12_allKnow 10 (some .boolean) 2 := ⟨wc_X12_allKnow, wn_X12, ⟨by decide +kernel, by decide +kernel, by decide +kernel⟩, wi_X12_allKnow, ws_X12_allKnow⟩
theorem dX12_fewest_48 : decode cX12_fewest 48 = .ok (.ifCond .eq 67, 3) := dl_153 (by decide +kernel)
theorem dX12_fewest_51 : decode cX12_fewest 51 = .ok (.iload_n 3, 1) := dl_29 (by decide +kernel)
theorem dX12_fewest_52 : decode cX12_fewest 52 = .ok (.ifCond .ne 7, 3) := dl_154 (by decide +kernel)
theorem dX12_fewest_59 : decode cX12_fewest 59 = .ok (.iload 4, 2) := dl_21 (by decide +kernel)
theorem dX12_fewest_61 : decode cX12_fewest 61 = .ok (.iload_n 2, 1) := dl_28 (by decide +kernel)
theorem dX12_fewest_62 : decode cX12_fewest 62 = .ok (.bipush 6, 2) := dl_16 (by decide +kernel)
theorem dX12_fewest_64 : decode cX12_fewest 64 = .ok (.idiv, 1) := dl_108 (by decide +kernel)
theorem dX12_fewest_65 : decode cX12_fewest 65 = .ok (.idiv, 1) := dl_108 (by decide +kernel)
theorem dX12_fewest_66 : decode cX12_fewest 66 = .ok (.istore 5, 2) := dl_54 (by decide +kernel)
theorem dX12_fewest_68 : decode cX12_fewest 68 = .ok (.iload_n 1, 1) := dl_27 (by decide +kernel)
theorem dX12_fewest_69 : decode cX12_fewest 69 = .ok (.ifCond .ne 7, 3) := dl_154 (by decide +kernel)
theorem dX12_fewest_76 : decode cX12_fewest 76 = .ok (.iload_n 3, 1) := dl_29 (by decide +kernel)
theorem dX12_fewest_77 : decode cX12_fewest 77 = .ok (.ifCond .ne 8, 3) := dl_154 (by decide +kernel)
theorem dX12_fewest_85 : decode cX12_fewest 85 = .ok (.iload 5, 2) := dl_21 (by decide +kernel)
theorem dX12_fewest_87 : decode cX12_fewest 87 = .ok (.iconst 3, 1) := dl_6 (by decide +kernel)
theorem dX12_fewest_88 : decode cX12_fewest 88 = .ok (.if_icmp .ge 10, 3) := dl_162 (by decide +kernel)
theorem dX12_fewest_98 : decode cX12_fewest 98 = .ok (.iload 5, 2) := dl_21 (by decide +kernel)
theorem dX12_fewest_100 : decode cX12_fewest 100 = .ok (.iconst 5, 1) := dl_8 (by decide +kernel)
theorem dX12_fewest_101 : decode cX12_fewest 101 = .ok (.if_icmp .ge 11, 3) := dl_162 (by decide +kernel)
theorem dX12_fewest_112 : decode cX12_fewest 112 = .ok (.bipush 23, 2) := dl_16 (by decide +kernel)
theorem dX12_fewest_114 : decode cX12_fewest 114 = .ok (.ireturn, 1) := dl_172 (by decide +kernel)
theorem dX12_fewest_104 : decode cX12_fewest 104 = .ok (.iload 5, 2) := dl_21 (by decide +kernel)
theorem dX12_fewest_106 : decode cX12_fewest 106 = .ok (.bipush 9, 2) := dl_16 (by decide +kernel)
theorem dX12_fewest_108 : decode cX12_fewest 108 = .ok (.iadd, 1) := dl_96 (by decide +kernel)
theorem dX12_fewest_109 : decode cX12_fewest 109 = .ok (.goto 5, 3) := dl_167 (by decide +kernel)
theorem dX12_fewest_91 : decode cX12_fewest 91 = .ok (.iload 5, 2) := dl_21 (by decide +kernel)
theorem dX12_fewest_93 : decode cX12_fewest 93 = .ok (.iconst 1, 1) := dl_4 (by decide +kernel)
theorem dX12_fewest_94 : decode cX12_fewest 94 = .ok (.iadd, 1) := dl_96 (by decide +kernel)
theorem dX12_fewest_95 : decode cX12_fewest 95 = .ok (.goto 19, 3) := dl_167 (by decide +kernel)
theorem dX12_fewest_80 : decode cX12_fewest 80 = .ok (.bipush (-4), 2) := dl_16 (by decide +kernel)
theorem dX12_fewest_82 : decode cX12_fewest 82 = .ok (.goto 32, 3) := dl_167 (by decide +kernel)
theorem dX12_fewest_72 : decode cX12_fewest 72 = .ok (.iload_n 3, 1) := dl_29 (by decide +kernel)
theorem dX12_fewest_73 : decode cX12_fewest 73 = .ok (.goto 41, 3) := dl_167 (by decide +kernel)
theorem dX12_fewest_55 : decode cX12_fewest 55 = .ok (.iconst 0, 1) := dl_3 (by decide +kernel)
theorem dX12_fewest_56 : decode cX12_fewest 56 = .ok (.goto 10, 3) := dl_167 (by decide +kernel)
theorem dX12_fewest_115 : decode cX12_fewest 115 = .ok (.iinc 4 1, 3) := dl_132 (by decide +kernel)
theorem dX12_fewest_118 : decode cX12_fewest 118 = .ok (.goto (-83), 3) := dl_167 (by decide +kernel)
theorem dX12_fewest_19 : decode cX12_fewest 19 = .ok (.bipush (-2), 2) := dl_16 (by decide +kernel)
theorem dX12_fewest_21 : decode cX12_fewest 21 = .ok (.ireturn, 1) := dl_172 (by decide +kernel)
theorem dX12_fewest_10 : decode cX12_fewest 10 = .ok (.iconst (-1), 1) := dl_2 (by decide +kernel)
theorem dX12_fewest_11 : decode cX12_fewest 11 = .ok (.ireturn, 1) := dl_172 (by decide +kernel)
set_option maxRecDepth 100000 in
set_option maxHeartbeats 4000000 in
theorem y_fewest (l : Launch) (E : EV) (ro : va_W) (hm : Nat) (v0 : Int32) (m_manys : Nat) (m_reals : Nat) (m_factsOf : Nat) (m_possible : Nat) (q_undos : Nat) (q_models : Nat) (m_tape : Nat) (q_taped : Nat) (q_fault : Int32) (q_wrong : Int32) (q_wrongAt : Int32) (q_spot : Int32) (q_place : Int32) (q_token : Int32) (q_value : Int32) (m_ends : Nat) (m_letters : Nat) (m_actOf : Nat) (m_whom : Nat) (m_actMany : Nat) (m_tokens : Nat) (m_afters : Nat) (m_afterOf : Nat) (q_counted : Int32) (m_pile : Nat) (m_caseMany : Nat) (m_happen : Nat) (m_hasIf : Nat) (m_becomes : Nat) (m_goneOf : Nat) (m_heard : Nat) (m_pairs : Nat) (m_heaps : Nat) (q_rounds : Int32) (q_heapMany : Int32) (m_led : Nat) (m_newAt : Nat) (m_knowing : Nat) (m_firsts : Nat) (q_people : Nat) (m_secrets : Nat) (m_tried : Nat) (m_lanes : Nat) (m_lengths : Nat) (m_cells : Nat) (f_secrets : Nat → Int32) (f_tried : Nat → Int32) (hq_people : q_people ≤ 4) : CT l yX12_fewest (Cond.code yX12_fewest cX12_fewest 6 (some .int) :: TB) ({ frames := 2, cells := 0, slots := 0, locals := 49 }) E ro [.ref hm, .int v0] [(hm, .inr (12, [.ref m_manys, .ref m_reals, .ref m_factsOf, .ref m_possible, .int (nI q_undos), .int (nI q_models), .ref m_tape, .int (nI q_taped), .int q_fault, .int q_wrong, .int q_wrongAt, .int q_spot, .int q_place, .int q_token, .int q_value, .ref m_ends, .ref m_letters, .ref m_actOf, .ref m_whom, .ref m_actMany, .ref m_tokens, .ref m_afters, .ref m_afterOf, .int q_counted, .ref m_pile, .ref m_caseMany, .ref m_happen, .ref m_hasIf, .ref m_becomes, .ref m_goneOf, .ref m_heard, .ref m_pairs, .ref m_heaps, .int q_rounds, .int q_heapMany, .ref m_led, .ref m_newAt, .ref m_knowing, .ref m_firsts, .int (nI q_people), .ref m_secrets, .ref m_tried, .ref m_lanes, .ref m_lengths, .ref m_cells])), (m_secrets, .inl (E.2.1 1, 4, .inl f_secrets)), (m_tried, .inl (E.2.1 1, 4, .inl f_tried))] (Qi E (fun (rz : Int32) uz => (∃ (f_triedz : Nat → Int32), uz = [(hm, .inr (12, [.ref m_manys, .ref m_reals, .ref m_factsOf, .ref m_possible, .int (nI q_undos), .int (nI q_models), .ref m_tape, .int (nI q_taped), .int q_fault, .int q_wrong, .int q_wrongAt, .int q_spot, .int q_place, .int q_token, .int q_value, .ref m_ends, .ref m_letters, .ref m_actOf, .ref m_whom, .ref m_actMany, .ref m_tokens, .ref m_afters, .ref m_afterOf, .int q_counted, .ref m_pile, .ref m_caseMany, .ref m_happen, .ref m_hasIf, .ref m_becomes, .ref m_goneOf, .ref m_heard, .ref m_pairs, .ref m_heaps, .int q_rounds, .int q_heapMany, .ref m_led, .ref m_newAt, .ref m_knowing, .ref m_firsts, .int (nI q_people), .ref m_secrets, .ref m_tried, .ref m_lanes, .ref m_lengths, .ref m_cells])), (m_secrets, .inl (E.2.1 1, 4, .inl f_secrets)), (m_tried, .inl (E.2.1 1, 4, .inl f_triedz))] ∧ (FWQr q_people f_secrets v0 rz)))) 0 0 := by
  refine ct_of rfl rfl ?_
  intro X C hT hin hro
  show WW X 6 E 0 [(0, .ref hm), (1, .int v0)] [] [(hm, .inr (12, [.ref m_manys, .ref m_reals, .ref m_factsOf, .ref m_possible, .int (nI q_undos), .int (nI q_models), .ref m_tape, .int (nI q_taped), .int q_fault, .int q_wrong, .int q_wrongAt, .int q_spot, .int q_place, .int q_token, .int q_value, .ref m_ends, .ref m_letters, .ref m_actOf, .ref m_whom, .ref m_actMany, .ref m_tokens, .ref m_afters, .ref m_afterOf, .int q_counted, .ref m_pile, .ref m_caseMany, .ref m_happen, .ref m_hasIf, .ref m_becomes, .ref m_goneOf, .ref m_heard, .ref m_pairs, .ref m_heaps, .int q_rounds, .int q_heapMany, .ref m_led, .ref m_newAt, .ref m_knowing, .ref m_firsts, .int (nI q_people), .ref m_secrets, .ref m_tried, .ref m_lanes, .ref m_lengths, .ref m_cells])), (m_secrets, .inl (E.2.1 1, 4, .inl f_secrets)), (m_tried, .inl (E.2.1 1, 4, .inl f_tried))] 0 0
  refine ww_iload_n C dX12_fewest_0 1 rfl rfl ?_
  refine ww_i2l (v := v0.toInt64) C dX12_fewest_1 rfl ?_
  refine ww_lconst (v := 0) C dX12_fewest_2 rfl ?_
  refine ww_lconst (v := 1) C dX12_fewest_3 rfl ?_
  refine ww_ci (wr := [(hm, .inr (12, [.ref m_manys, .ref m_reals, .ref m_factsOf, .ref m_possible, .int (nI q_undos), .int (nI q_models), .ref m_tape, .int (nI q_taped), .int q_fault, .int q_wrong, .int q_wrongAt, .int q_spot, .int q_place, .int q_token, .int q_value, .ref m_ends, .ref m_letters, .ref m_actOf, .ref m_whom, .ref m_actMany, .ref m_tokens, .ref m_afters, .ref m_afterOf, .int q_counted, .ref m_pile, .ref m_caseMany, .ref m_happen, .ref m_hasIf, .ref m_becomes, .ref m_goneOf, .ref m_heard, .ref m_pairs, .ref m_heaps, .int q_rounds, .int q_heapMany, .ref m_led, .ref m_newAt, .ref m_knowing, .ref m_firsts, .int (nI q_people), .ref m_secrets, .ref m_tried, .ref m_lanes, .ref m_lengths, .ref m_cells])), (m_secrets, .inl (E.2.1 1, 4, .inl f_secrets)), (m_tried, .inl (E.2.1 1, 4, .inl f_tried))]) (k' := 0) (n' := 0) C (run_S (As := [.long v0.toInt64, .long 0, .long 1]) (rest := []) C (r_in X.2.1 E ro v0.toInt64 0 1 v0.toInt 0 1 (Int32.toInt_toInt64 _) rfl rfl) ms_X12_in wl_X12_115 rfl rfl rfl rfl dX12_fewest_4) (roK hro) [] [0, 1, 2] rfl rfl rfl rfl (fun r_1 uz hw => ?_)
  rcases hw with hw | hw
  · refine an3 hw ?_
    clear hw
    intro he_4 he_5 h_2 hw
    have h_3 := hw
    clear hw
    have he_4 := he_4.symm
    subst he_4
    subst he_5
    refine ww_eq (ws' := [(hm, .inr (12, [.ref m_manys, .ref m_reals, .ref m_factsOf, .ref m_possible, .int (nI q_undos), .int (nI q_models), .ref m_tape, .int (nI q_taped), .int q_fault, .int q_wrong, .int q_wrongAt, .int q_spot, .int q_place, .int q_token, .int q_value, .ref m_ends, .ref m_letters, .ref m_actOf, .ref m_whom, .ref m_actMany, .ref m_tokens, .ref m_afters, .ref m_afterOf, .int q_counted, .ref m_pile, .ref m_caseMany, .ref m_happen, .ref m_hasIf, .ref m_becomes, .ref m_goneOf, .ref m_heard, .ref m_pairs, .ref m_heaps, .int q_rounds, .int q_heapMany, .ref m_led, .ref m_newAt, .ref m_knowing, .ref m_firsts, .int (nI q_people), .ref m_secrets, .ref m_tried, .ref m_lanes, .ref m_lengths, .ref m_cells])), (m_secrets, .inl (E.2.1 1, 4, .inl f_secrets)), (m_tried, .inl (E.2.1 1, 4, .inl f_tried))]) ?_ rfl rfl rfl
    refine ww_if_ne_t (tgt := 12) C dX12_fewest_7 (by decide) (by decide) ?_
    refine ww_aload_n C dX12_fewest_12 0 rfl rfl ?_
    refine ww_get C fg_X12_332 0 rfl rfl dX12_fewest_13 ?_
    refine ww_if_ne (tgt := 22) C dX12_fewest_16 (by decide) (fun c_9 => ?_) (fun c_9 => ?_)
    · have zc_9 : ((q_people : Nat) : Int) ≠ 0 := i_ne (nI_toInt (n := q_people) (by omega)) rfl c_9
      refine ww_iconst (v := 1) C dX12_fewest_22 rfl ?_
      refine ww_istore_n (lv' := [(2, .int 1), (0, .ref hm), (1, .int v0)]) C dX12_fewest_23 rfl rfl rfl ?_
      refine ww_iconst (v := 0) C dX12_fewest_24 rfl ?_
      refine ww_istore_n (lv' := [(3, .int 0), (2, .int 1), (0, .ref hm), (1, .int v0)]) C dX12_fewest_25 rfl rfl rfl ?_
      have loop_26 : ∀ (fu : Nat) (n1 : Nat) (rw : Nat) (g1 : Nat → Int32), (n1 ≤ 6) → (rw = 6 ^ n1) → (∀ c, c < n1 → ∀ r, r < 6 ^ c → ¬ cpX q_people c r f_secrets) → 6 - n1 < fu → WW X 6 E 26 [(3, .int (nI n1)), (2, .int (nI rw)), (0, .ref hm), (1, .int v0)] [] [(hm, .inr (12, [.ref m_manys, .ref m_reals, .ref m_factsOf, .ref m_possible, .int (nI q_undos), .int (nI q_models), .ref m_tape, .int (nI q_taped), .int q_fault, .int q_wrong, .int q_wrongAt, .int q_spot, .int q_place, .int q_token, .int q_value, .ref m_ends, .ref m_letters, .ref m_actOf, .ref m_whom, .ref m_actMany, .ref m_tokens, .ref m_afters, .ref m_afterOf, .int q_counted, .ref m_pile, .ref m_caseMany, .ref m_happen, .ref m_hasIf, .ref m_becomes, .ref m_goneOf, .ref m_heard, .ref m_pairs, .ref m_heaps, .int q_rounds, .int q_heapMany, .ref m_led, .ref m_newAt, .ref m_knowing, .ref m_firsts, .int (nI q_people), .ref m_secrets, .ref m_tried, .ref m_lanes, .ref m_lengths, .ref m_cells])), (m_secrets, .inl (E.2.1 1, 4, .inl f_secrets)), (m_tried, .inl (E.2.1 1, 4, .inl g1))] 0 0 := by
        intro fu
        induction fu with
        | zero => intro n1 rw g1 hn1 hrw hd1 hmeas; exact absurd hmeas (Nat.not_lt_zero _)
        | succ fu ih_26 =>
          intro n1 rw g1 hn1 hrw hd1 hmeas
          refine ww_iload_n C dX12_fewest_26 0 rfl rfl ?_
          refine ww_bipush (v := 6) C dX12_fewest_27 rfl ?_
          refine ww_icmp_ge (tgt := 132) C dX12_fewest_29 (by decide) (fun c_10 => ?_) (fun c_10 => ?_)
          · have zc_10 : ((n1 : Nat) : Int) ≥ 6 := i_le rfl (nI_toInt (n := n1) (by omega)) c_10
            refine ww_bipush (v := (-4)) C dX12_fewest_132 rfl ?_
            exact ww_iret (u := [(hm, .inr (12, [.ref m_manys, .ref m_reals, .ref m_factsOf, .ref m_possible, .int (nI q_undos), .int (nI q_models), .ref m_tape, .int (nI q_taped), .int q_fault, .int q_wrong, .int q_wrongAt, .int q_spot, .int q_place, .int q_token, .int q_value, .ref m_ends, .ref m_letters, .ref m_actOf, .ref m_whom, .ref m_actMany, .ref m_tokens, .ref m_afters, .ref m_afterOf, .int q_counted, .ref m_pile, .ref m_caseMany, .ref m_happen, .ref m_hasIf, .ref m_becomes, .ref m_goneOf, .ref m_heard, .ref m_pairs, .ref m_heaps, .int q_rounds, .int q_heapMany, .ref m_led, .ref m_newAt, .ref m_knowing, .ref m_firsts, .int (nI q_people), .ref m_secrets, .ref m_tried, .ref m_lanes, .ref m_lengths, .ref m_cells])), (m_secrets, .inl (E.2.1 1, 4, .inl f_secrets)), (m_tried, .inl (E.2.1 1, 4, .inl g1))]) C hT [0, 1, 2] rfl rfl rfl rfl dX12_fewest_134 (⟨g1, rfl, (Or.inr (Or.inr ⟨by omega, by omega, by omega, Or.inl (fun c hc => hd1 c (by omega))⟩))⟩)
          · have zc_10 : ((n1 : Nat) : Int) < 6 := i_nle rfl (nI_toInt (n := n1) (by omega)) c_10
            refine ww_iconst (v := 0) C dX12_fewest_32 rfl ?_
            refine ww_istore (lv' := [(4, .int 0), (3, .int (nI n1)), (2, .int (nI rw)), (0, .ref hm), (1, .int v0)]) C dX12_fewest_33 rfl rfl ?_
            have hp6 := pow6_le (m := n1) (by omega)
            have loop_35 : ∀ (fu : Nat) (r2 : Nat) (g2 : Nat → Int32), (r2 ≤ rw) → (∀ s, s < r2 → ¬ cpX q_people n1 s f_secrets) → rw - r2 < fu → WW X 6 E 35 [(4, .int (nI r2)), (3, .int (nI n1)), (2, .int (nI rw)), (0, .ref hm), (1, .int v0)] [] [(hm, .inr (12, [.ref m_manys, .ref m_reals, .ref m_factsOf, .ref m_possible, .int (nI q_undos), .int (nI q_models), .ref m_tape, .int (nI q_taped), .int q_fault, .int q_wrong, .int q_wrongAt, .int q_spot, .int q_place, .int q_token, .int q_value, .ref m_ends, .ref m_letters, .ref m_actOf, .ref m_whom, .ref m_actMany, .ref m_tokens, .ref m_afters, .ref m_afterOf, .int q_counted, .ref m_pile, .ref m_caseMany, .ref m_happen, .ref m_hasIf, .ref m_becomes, .ref m_goneOf, .ref m_heard, .ref m_pairs, .ref m_heaps, .int q_rounds, .int q_heapMany, .ref m_led, .ref m_newAt, .ref m_knowing, .ref m_firsts, .int (nI q_people), .ref m_secrets, .ref m_tried, .ref m_lanes, .ref m_lengths, .ref m_cells])), (m_secrets, .inl (E.2.1 1, 4, .inl f_secrets)), (m_tried, .inl (E.2.1 1, 4, .inl g2))] 0 0 := by
              intro fu
              induction fu with
              | zero => intro r2 g2 hr2 hf2 hmeas; exact absurd hmeas (Nat.not_lt_zero _)
              | succ fu ih_35 =>
                intro r2 g2 hr2 hf2 hmeas
                refine ww_iload C dX12_fewest_35 0 rfl ?_
                refine ww_iload_n C dX12_fewest_37 2 rfl rfl ?_
                refine ww_icmp_ge (tgt := 121) C dX12_fewest_38 (by decide) (fun c_11 => ?_) (fun c_11 => ?_)
                · have zc_11 : ((r2 : Nat) : Int) ≥ ((rw : Nat) : Int) := i_le (nI_toInt (n := rw) (by omega)) (nI_toInt (n := r2) (by omega)) c_11
                  refine ww_iload_n C dX12_fewest_121 2 rfl rfl ?_
                  refine ww_bipush (v := 6) C dX12_fewest_122 rfl ?_
                  refine ww_imul (v := (nI (rw * 6))) C dX12_fewest_124 (pk_mul rw 6) ?_
                  refine ww_istore_n (lv' := [(2, .int (nI (rw * 6))), (4, .int (nI r2)), (3, .int (nI n1)), (0, .ref hm), (1, .int v0)]) C dX12_fewest_125 rfl rfl rfl ?_
                  refine ww_iinc (j := 2) (v := (nI (n1 + 1))) (lv' := [(3, .int (nI (n1 + 1))), (2, .int (nI (rw * 6))), (4, .int (nI r2)), (0, .ref hm), (1, .int v0)]) C dX12_fewest_126 rfl (nI_add n1 1) rfl rfl ?_
                  refine ww_goto (tgt := 26) C dX12_fewest_129 (by decide) ?_
                  exact ww_lv [0, 1, 3, 4] rfl (ww_sub [0, 1, 2] rfl rfl (ih_26 (n1 + 1) (rw * 6) g2 (by omega) (by rw [pow6_s]; omega) (cpN_s hd1 hf2 (by omega)) (by omega)))
                · have zc_11 : ((r2 : Nat) : Int) < ((rw : Nat) : Int) := i_nle (nI_toInt (n := rw) (by omega)) (nI_toInt (n := r2) (by omega)) c_11
                  refine ww_aload_n C dX12_fewest_41 3 rfl rfl ?_
                  refine ww_iload C dX12_fewest_42 0 rfl ?_
                  refine ww_iload_n C dX12_fewest_44 1 rfl rfl ?_
                  refine ww_ci (wr := []) (k' := 0) (n' := 0) C (run_V (As := [.int (nI r2), .int (nI n1)]) (rest := []) C (r_allKnow X.2.1 E ro hm r2 n1 m_manys m_reals m_factsOf m_possible q_undos q_models m_tape q_taped q_fault q_wrong q_wrongAt q_spot q_place q_token q_value m_ends m_letters m_actOf m_whom m_actMany m_tokens m_afters m_afterOf q_counted m_pile m_caseMany m_happen m_hasIf m_becomes m_goneOf m_heard m_pairs m_heaps q_rounds q_heapMany m_led m_newAt m_knowing m_firsts q_people m_secrets m_tried m_lanes m_lengths m_cells f_secrets g2 (by omega) (by omega) (by omega)) mi_X12_allKnow wl_X12_338 rfl 0 12 rfl rfl rfl rfl rfl dX12_fewest_45) (roK hro) [0, 1, 2] [] rfl rfl rfl rfl (fun r_12 uz hw => ?_)
                  rcases hw with hw | hw
                  · refine ex1 hw ?_
                    clear hw
                    intro f_triedz_13 hw
                    refine an2 hw ?_
                    clear hw
                    intro he_15 he_16 hw
                    have h_14 := hw
                    clear hw
                    have he_15 := he_15.symm
                    subst he_15
                    subst he_16
                    refine ww_eq (ws' := [(hm, .inr (12, [.ref m_manys, .ref m_reals, .ref m_factsOf, .ref m_possible, .int (nI q_undos), .int (nI q_models), .ref m_tape, .int (nI q_taped), .int q_fault, .int q_wrong, .int q_wrongAt, .int q_spot, .int q_place, .int q_token, .int q_value, .ref m_ends, .ref m_letters, .ref m_actOf, .ref m_whom, .ref m_actMany, .ref m_tokens, .ref m_afters, .ref m_afterOf, .int q_counted, .ref m_pile, .ref m_caseMany, .ref m_happen, .ref m_hasIf, .ref m_becomes, .ref m_goneOf, .ref m_heard, .ref m_pairs, .ref m_heaps, .int q_rounds, .int q_heapMany, .ref m_led, .ref m_newAt, .ref m_knowing, .ref m_firsts, .int (nI q_people), .ref m_secrets, .ref m_tried, .ref m_lanes, .ref m_lengths, .ref m_cells])), (m_secrets, .inl (E.2.1 1, 4, .inl f_secrets)), (m_tried, .inl (E.2.1 1, 4, .inl f_triedz_13))]) ?_ rfl rfl rfl
                    refine ww_if_eq_f (tgt := 115) C dX12_fewest_48 (by decide) (by decide) ?_
                    refine ww_iload_n C dX12_fewest_51 1 rfl rfl ?_
                    refine ww_if_ne (tgt := 59) C dX12_fewest_52 (by decide) (fun c_21 => ?_) (fun c_21 => ?_)
                    · have zc_21 : ((n1 : Nat) : Int) ≠ 0 := i_ne (nI_toInt (n := n1) (by omega)) rfl c_21
                      have hp1 := pow6_pos (n1 - 1)
                      have hps := pow6_s (n1 - 1)
                      rw [show n1 - 1 + 1 = n1 by omega] at hps
                      have hp7 := pow6_le (m := n1) (by omega)
                      refine ww_iload C dX12_fewest_59 0 rfl ?_
                      refine ww_iload_n C dX12_fewest_61 2 rfl rfl ?_
                      refine ww_bipush (v := 6) C dX12_fewest_62 rfl ?_
                      refine ww_idiv (v := (nI (rw / 6))) C dX12_fewest_64 (by decide) (pk_div (a := rw) (d := 6) (by omega) (by decide) (by decide)) ?_
                      obtain ⟨z_22, ez_22⟩ : ∃ z : Nat, r2 / (rw / 6) = z := ⟨_, rfl⟩
                      have hlez_22 : z_22 ≤ r2 := by rw [← ez_22]; exact Nat.div_le_self _ _
                      refine ww_idiv (v := (nI z_22)) C dX12_fewest_65 (nI_n0 (by omega) (by omega)) (by rw [pk_div (a := r2) (d := (rw / 6)) (by omega) (by omega) (by omega), ez_22]) ?_
                      refine ww_istore (lv' := [(5, .int (nI z_22)), (4, .int (nI r2)), (3, .int (nI n1)), (2, .int (nI rw)), (0, .ref hm), (1, .int v0)]) C dX12_fewest_66 rfl rfl ?_
                      refine ww_iload_n C dX12_fewest_68 5 rfl rfl ?_
                      refine ww_if_ne (tgt := 76) C dX12_fewest_69 (by decide) (fun c_23 => ?_) (fun c_23 => ?_)
                      · have zc_23 : v0.toInt ≠ 0 := i_ne rfl rfl c_23
                        refine ww_iload_n C dX12_fewest_76 2 rfl rfl ?_
                        refine ww_if_ne (tgt := 85) C dX12_fewest_77 (by decide) (fun c_24 => ?_) (fun c_24 => ?_)
                        · have zc_24 : ((n1 : Nat) : Int) ≠ 0 := i_ne (nI_toInt (n := n1) (by omega)) rfl c_24
                          refine ww_iload C dX12_fewest_85 0 rfl ?_
                          refine ww_iconst (v := 3) C dX12_fewest_87 rfl ?_
                          refine ww_icmp_ge (tgt := 98) C dX12_fewest_88 (by decide) (fun c_25 => ?_) (fun c_25 => ?_)
                          · have zc_25 : ((z_22 : Nat) : Int) ≥ 3 := i_le rfl (nI_toInt (n := z_22) (by omega)) c_25
                            refine ww_iload C dX12_fewest_98 0 rfl ?_
                            refine ww_iconst (v := 5) C dX12_fewest_100 rfl ?_
                            refine ww_icmp_ge (tgt := 112) C dX12_fewest_101 (by decide) (fun c_26 => ?_) (fun c_26 => ?_)
                            · have zc_26 : ((z_22 : Nat) : Int) ≥ 5 := i_le rfl (nI_toInt (n := z_22) (by omega)) c_26
                              refine ww_bipush (v := 23) C dX12_fewest_112 rfl ?_
                              exact ww_iret (u := [(hm, .inr (12, [.ref m_manys, .ref m_reals, .ref m_factsOf, .ref m_possible, .int (nI q_undos), .int (nI q_models), .ref m_tape, .int (nI q_taped), .int q_fault, .int q_wrong, .int q_wrongAt, .int q_spot, .int q_place, .int q_token, .int q_value, .ref m_ends, .ref m_letters, .ref m_actOf, .ref m_whom, .ref m_actMany, .ref m_tokens, .ref m_afters, .ref m_afterOf, .int q_counted, .ref m_pile, .ref m_caseMany, .ref m_happen, .ref m_hasIf, .ref m_becomes, .ref m_goneOf, .ref m_heard, .ref m_pairs, .ref m_heaps, .int q_rounds, .int q_heapMany, .ref m_led, .ref m_newAt, .ref m_knowing, .ref m_firsts, .int (nI q_people), .ref m_secrets, .ref m_tried, .ref m_lanes, .ref m_lengths, .ref m_cells])), (m_secrets, .inl (E.2.1 1, 4, .inl f_secrets)), (m_tried, .inl (E.2.1 1, 4, .inl f_triedz_13))]) C hT [0, 1, 2] rfl rfl rfl rfl dX12_fewest_114 (⟨f_triedz_13, rfl, (Or.inr (Or.inr ⟨by omega, by omega, by omega, Or.inr ⟨n1, r2, by omega, by omega, hd1, hf2, h_14, Or.inr (Or.inr ⟨by omega, n1 - 1, by omega, fw_3 (show rw / 6 = 6 ^ (n1 - 1) by omega) ez_22 (by omega)⟩)⟩⟩))⟩)
                            · have zc_26 : ((z_22 : Nat) : Int) < 5 := i_nle rfl (nI_toInt (n := z_22) (by omega)) c_26
                              refine ww_iload C dX12_fewest_104 0 rfl ?_
                              refine ww_bipush (v := 9) C dX12_fewest_106 rfl ?_
                              refine ww_iadd (v := (nI (z_22 + 9))) C dX12_fewest_108 (nI_add z_22 9) ?_
                              refine ww_goto (tgt := 114) C dX12_fewest_109 (by decide) ?_
                              exact ww_iret (u := [(hm, .inr (12, [.ref m_manys, .ref m_reals, .ref m_factsOf, .ref m_possible, .int (nI q_undos), .int (nI q_models), .ref m_tape, .int (nI q_taped), .int q_fault, .int q_wrong, .int q_wrongAt, .int q_spot, .int q_place, .int q_token, .int q_value, .ref m_ends, .ref m_letters, .ref m_actOf, .ref m_whom, .ref m_actMany, .ref m_tokens, .ref m_afters, .ref m_afterOf, .int q_counted, .ref m_pile, .ref m_caseMany, .ref m_happen, .ref m_hasIf, .ref m_becomes, .ref m_goneOf, .ref m_heard, .ref m_pairs, .ref m_heaps, .int q_rounds, .int q_heapMany, .ref m_led, .ref m_newAt, .ref m_knowing, .ref m_firsts, .int (nI q_people), .ref m_secrets, .ref m_tried, .ref m_lanes, .ref m_lengths, .ref m_cells])), (m_secrets, .inl (E.2.1 1, 4, .inl f_secrets)), (m_tried, .inl (E.2.1 1, 4, .inl f_triedz_13))]) C hT [0, 1, 2] rfl rfl rfl rfl dX12_fewest_114 (⟨f_triedz_13, rfl, (Or.inr (Or.inr ⟨by omega, by omega, by omega, Or.inr ⟨n1, r2, by omega, by omega, hd1, hf2, h_14, Or.inr (Or.inr ⟨by omega, n1 - 1, by omega, fw_2 (show rw / 6 = 6 ^ (n1 - 1) by omega) ez_22 (by omega)⟩)⟩⟩))⟩)
                          · have zc_25 : ((z_22 : Nat) : Int) < 3 := i_nle rfl (nI_toInt (n := z_22) (by omega)) c_25
                            refine ww_iload C dX12_fewest_91 0 rfl ?_
                            refine ww_iconst (v := 1) C dX12_fewest_93 rfl ?_
                            refine ww_iadd (v := (nI (z_22 + 1))) C dX12_fewest_94 (nI_add z_22 1) ?_
                            refine ww_goto (tgt := 114) C dX12_fewest_95 (by decide) ?_
                            exact ww_iret (u := [(hm, .inr (12, [.ref m_manys, .ref m_reals, .ref m_factsOf, .ref m_possible, .int (nI q_undos), .int (nI q_models), .ref m_tape, .int (nI q_taped), .int q_fault, .int q_wrong, .int q_wrongAt, .int q_spot, .int q_place, .int q_token, .int q_value, .ref m_ends, .ref m_letters, .ref m_actOf, .ref m_whom, .ref m_actMany, .ref m_tokens, .ref m_afters, .ref m_afterOf, .int q_counted, .ref m_pile, .ref m_caseMany, .ref m_happen, .ref m_hasIf, .ref m_becomes, .ref m_goneOf, .ref m_heard, .ref m_pairs, .ref m_heaps, .int q_rounds, .int q_heapMany, .ref m_led, .ref m_newAt, .ref m_knowing, .ref m_firsts, .int (nI q_people), .ref m_secrets, .ref m_tried, .ref m_lanes, .ref m_lengths, .ref m_cells])), (m_secrets, .inl (E.2.1 1, 4, .inl f_secrets)), (m_tried, .inl (E.2.1 1, 4, .inl f_triedz_13))]) C hT [0, 1, 2] rfl rfl rfl rfl dX12_fewest_114 (⟨f_triedz_13, rfl, (Or.inr (Or.inr ⟨by omega, by omega, by omega, Or.inr ⟨n1, r2, by omega, by omega, hd1, hf2, h_14, Or.inr (Or.inr ⟨by omega, n1 - 1, by omega, fw_1 (show rw / 6 = 6 ^ (n1 - 1) by omega) ez_22 (by omega)⟩)⟩⟩))⟩)
                        · have zc_24 : ((n1 : Nat) : Int) = 0 := i_eq (nI_toInt (n := n1) (by omega)) rfl c_24
                          refine ww_bipush (v := (-4)) C dX12_fewest_80 rfl ?_
                          refine ww_goto (tgt := 114) C dX12_fewest_82 (by decide) ?_
                          exact ww_iret (u := [(hm, .inr (12, [.ref m_manys, .ref m_reals, .ref m_factsOf, .ref m_possible, .int (nI q_undos), .int (nI q_models), .ref m_tape, .int (nI q_taped), .int q_fault, .int q_wrong, .int q_wrongAt, .int q_spot, .int q_place, .int q_token, .int q_value, .ref m_ends, .ref m_letters, .ref m_actOf, .ref m_whom, .ref m_actMany, .ref m_tokens, .ref m_afters, .ref m_afterOf, .int q_counted, .ref m_pile, .ref m_caseMany, .ref m_happen, .ref m_hasIf, .ref m_becomes, .ref m_goneOf, .ref m_heard, .ref m_pairs, .ref m_heaps, .int q_rounds, .int q_heapMany, .ref m_led, .ref m_newAt, .ref m_knowing, .ref m_firsts, .int (nI q_people), .ref m_secrets, .ref m_tried, .ref m_lanes, .ref m_lengths, .ref m_cells])), (m_secrets, .inl (E.2.1 1, 4, .inl f_secrets)), (m_tried, .inl (E.2.1 1, 4, .inl f_triedz_13))]) C hT [0, 1, 2] rfl rfl rfl rfl dX12_fewest_114 (⟨f_triedz_13, rfl, (Or.inr (Or.inr ⟨by omega, by omega, by omega, Or.inr ⟨n1, r2, by omega, by omega, hd1, hf2, h_14, Or.inr (Or.inl ⟨by omega, by omega, rfl⟩)⟩⟩))⟩)
                      · have zc_23 : v0.toInt = 0 := i_eq rfl rfl c_23
                        refine ww_iload_n C dX12_fewest_72 2 rfl rfl ?_
                        refine ww_goto (tgt := 114) C dX12_fewest_73 (by decide) ?_
                        exact ww_iret (u := [(hm, .inr (12, [.ref m_manys, .ref m_reals, .ref m_factsOf, .ref m_possible, .int (nI q_undos), .int (nI q_models), .ref m_tape, .int (nI q_taped), .int q_fault, .int q_wrong, .int q_wrongAt, .int q_spot, .int q_place, .int q_token, .int q_value, .ref m_ends, .ref m_letters, .ref m_actOf, .ref m_whom, .ref m_actMany, .ref m_tokens, .ref m_afters, .ref m_afterOf, .int q_counted, .ref m_pile, .ref m_caseMany, .ref m_happen, .ref m_hasIf, .ref m_becomes, .ref m_goneOf, .ref m_heard, .ref m_pairs, .ref m_heaps, .int q_rounds, .int q_heapMany, .ref m_led, .ref m_newAt, .ref m_knowing, .ref m_firsts, .int (nI q_people), .ref m_secrets, .ref m_tried, .ref m_lanes, .ref m_lengths, .ref m_cells])), (m_secrets, .inl (E.2.1 1, 4, .inl f_secrets)), (m_tried, .inl (E.2.1 1, 4, .inl f_triedz_13))]) C hT [0, 1, 2] rfl rfl rfl rfl dX12_fewest_114 (⟨f_triedz_13, rfl, (Or.inr (Or.inr ⟨by omega, by omega, by omega, Or.inr ⟨n1, r2, by omega, by omega, hd1, hf2, h_14, Or.inl ⟨by omega, rfl⟩⟩⟩))⟩)
                    · have zc_21 : ((n1 : Nat) : Int) = 0 := i_eq (nI_toInt (n := n1) (by omega)) rfl c_21
                      refine ww_iconst (v := 0) C dX12_fewest_55 rfl ?_
                      refine ww_goto (tgt := 66) C dX12_fewest_56 (by decide) ?_
                      refine ww_istore (lv' := [(5, .int 0), (4, .int (nI r2)), (3, .int (nI n1)), (2, .int (nI rw)), (0, .ref hm), (1, .int v0)]) C dX12_fewest_66 rfl rfl ?_
                      refine ww_iload_n C dX12_fewest_68 5 rfl rfl ?_
                      refine ww_if_ne (tgt := 76) C dX12_fewest_69 (by decide) (fun c_27 => ?_) (fun c_27 => ?_)
                      · have zc_27 : v0.toInt ≠ 0 := i_ne rfl rfl c_27
                        refine ww_iload_n C dX12_fewest_76 2 rfl rfl ?_
                        refine ww_if_ne (tgt := 85) C dX12_fewest_77 (by decide) (fun c_28 => ?_) (fun c_28 => ?_)
                        · have zc_28 : ((n1 : Nat) : Int) ≠ 0 := i_ne (nI_toInt (n := n1) (by omega)) rfl c_28
                          omega
                        · have zc_28 : ((n1 : Nat) : Int) = 0 := i_eq (nI_toInt (n := n1) (by omega)) rfl c_28
                          refine ww_bipush (v := (-4)) C dX12_fewest_80 rfl ?_
                          refine ww_goto (tgt := 114) C dX12_fewest_82 (by decide) ?_
                          exact ww_iret (u := [(hm, .inr (12, [.ref m_manys, .ref m_reals, .ref m_factsOf, .ref m_possible, .int (nI q_undos), .int (nI q_models), .ref m_tape, .int (nI q_taped), .int q_fault, .int q_wrong, .int q_wrongAt, .int q_spot, .int q_place, .int q_token, .int q_value, .ref m_ends, .ref m_letters, .ref m_actOf, .ref m_whom, .ref m_actMany, .ref m_tokens, .ref m_afters, .ref m_afterOf, .int q_counted, .ref m_pile, .ref m_caseMany, .ref m_happen, .ref m_hasIf, .ref m_becomes, .ref m_goneOf, .ref m_heard, .ref m_pairs, .ref m_heaps, .int q_rounds, .int q_heapMany, .ref m_led, .ref m_newAt, .ref m_knowing, .ref m_firsts, .int (nI q_people), .ref m_secrets, .ref m_tried, .ref m_lanes, .ref m_lengths, .ref m_cells])), (m_secrets, .inl (E.2.1 1, 4, .inl f_secrets)), (m_tried, .inl (E.2.1 1, 4, .inl f_triedz_13))]) C hT [0, 1, 2] rfl rfl rfl rfl dX12_fewest_114 (⟨f_triedz_13, rfl, (Or.inr (Or.inr ⟨by omega, by omega, by omega, Or.inr ⟨n1, r2, by omega, by omega, hd1, hf2, h_14, Or.inr (Or.inl ⟨by omega, by omega, rfl⟩)⟩⟩))⟩)
                      · have zc_27 : v0.toInt = 0 := i_eq rfl rfl c_27
                        refine ww_iload_n C dX12_fewest_72 2 rfl rfl ?_
                        refine ww_goto (tgt := 114) C dX12_fewest_73 (by decide) ?_
                        exact ww_iret (u := [(hm, .inr (12, [.ref m_manys, .ref m_reals, .ref m_factsOf, .ref m_possible, .int (nI q_undos), .int (nI q_models), .ref m_tape, .int (nI q_taped), .int q_fault, .int q_wrong, .int q_wrongAt, .int q_spot, .int q_place, .int q_token, .int q_value, .ref m_ends, .ref m_letters, .ref m_actOf, .ref m_whom, .ref m_actMany, .ref m_tokens, .ref m_afters, .ref m_afterOf, .int q_counted, .ref m_pile, .ref m_caseMany, .ref m_happen, .ref m_hasIf, .ref m_becomes, .ref m_goneOf, .ref m_heard, .ref m_pairs, .ref m_heaps, .int q_rounds, .int q_heapMany, .ref m_led, .ref m_newAt, .ref m_knowing, .ref m_firsts, .int (nI q_people), .ref m_secrets, .ref m_tried, .ref m_lanes, .ref m_lengths, .ref m_cells])), (m_secrets, .inl (E.2.1 1, 4, .inl f_secrets)), (m_tried, .inl (E.2.1 1, 4, .inl f_triedz_13))]) C hT [0, 1, 2] rfl rfl rfl rfl dX12_fewest_114 (⟨f_triedz_13, rfl, (Or.inr (Or.inr ⟨by omega, by omega, by omega, Or.inr ⟨n1, r2, by omega, by omega, hd1, hf2, h_14, Or.inl ⟨by omega, rfl⟩⟩⟩))⟩)
                  · refine ex1 hw ?_
                    clear hw
                    intro f_triedz_17 hw
                    refine an2 hw ?_
                    clear hw
                    intro he_19 he_20 hw
                    have h_18 := hw
                    clear hw
                    have he_19 := he_19.symm
                    subst he_19
                    subst he_20
                    refine ww_eq (ws' := [(hm, .inr (12, [.ref m_manys, .ref m_reals, .ref m_factsOf, .ref m_possible, .int (nI q_undos), .int (nI q_models), .ref m_tape, .int (nI q_taped), .int q_fault, .int q_wrong, .int q_wrongAt, .int q_spot, .int q_place, .int q_token, .int q_value, .ref m_ends, .ref m_letters, .ref m_actOf, .ref m_whom, .ref m_actMany, .ref m_tokens, .ref m_afters, .ref m_afterOf, .int q_counted, .ref m_pile, .ref m_caseMany, .ref m_happen, .ref m_hasIf, .ref m_becomes, .ref m_goneOf, .ref m_heard, .ref m_pairs, .ref m_heaps, .int q_rounds, .int q_heapMany, .ref m_led, .ref m_newAt, .ref m_knowing, .ref m_firsts, .int (nI q_people), .ref m_secrets, .ref m_tried, .ref m_lanes, .ref m_lengths, .ref m_cells])), (m_secrets, .inl (E.2.1 1, 4, .inl f_secrets)), (m_tried, .inl (E.2.1 1, 4, .inl f_triedz_17))]) ?_ rfl rfl rfl
                    refine ww_if_eq_t (tgt := 115) C dX12_fewest_48 (by decide) (rfl) ?_
                    refine ww_iinc (j := 0) (v := (nI (r2 + 1))) (lv' := [(4, .int (nI (r2 + 1))), (3, .int (nI n1)), (2, .int (nI rw)), (0, .ref hm), (1, .int v0)]) C dX12_fewest_115 rfl (nI_add r2 1) rfl rfl ?_
                    refine ww_goto (tgt := 35) C dX12_fewest_118 (by decide) ?_
                    exact ww_lv [0, 1, 2, 3, 4] rfl (ww_sub [0, 1, 2] rfl rfl (ih_35 (r2 + 1) f_triedz_17 (by omega) (cpD_s (P := cpX q_people n1) hf2 h_18) (by omega)))
            exact ww_lv [0, 1, 2, 3, 4] rfl (ww_sub [0, 1, 2] rfl rfl (loop_35 _ 0 g1 (by omega) (fun s h => absurd h (Nat.not_lt_zero _)) (Nat.lt_succ_self _)))
      exact ww_lv [0, 1, 2, 3] rfl (ww_sub [0, 1, 2] rfl rfl (loop_26 _ 0 1 f_tried (by omega) rfl (fun c h => absurd h (Nat.not_lt_zero _)) (Nat.lt_succ_self _)))
    · have zc_9 : ((q_people : Nat) : Int) = 0 := i_eq (nI_toInt (n := q_people) (by omega)) rfl c_9
      refine ww_bipush (v := (-2)) C dX12_fewest_19 rfl ?_
      exact ww_iret (u := [(hm, .inr (12, [.ref m_manys, .ref m_reals, .ref m_factsOf, .ref m_possible, .int (nI q_undos), .int (nI q_models), .ref m_tape, .int (nI q_taped), .int q_fault, .int q_wrong, .int q_wrongAt, .int q_spot, .int q_place, .int q_token, .int q_value, .ref m_ends, .ref m_letters, .ref m_actOf, .ref m_whom, .ref m_actMany, .ref m_tokens, .ref m_afters, .ref m_afterOf, .int q_counted, .ref m_pile, .ref m_caseMany, .ref m_happen, .ref m_hasIf, .ref m_becomes, .ref m_goneOf, .ref m_heard, .ref m_pairs, .ref m_heaps, .int q_rounds, .int q_heapMany, .ref m_led, .ref m_newAt, .ref m_knowing, .ref m_firsts, .int (nI q_people), .ref m_secrets, .ref m_tried, .ref m_lanes, .ref m_lengths, .ref m_cells])), (m_secrets, .inl (E.2.1 1, 4, .inl f_secrets)), (m_tried, .inl (E.2.1 1, 4, .inl f_tried))]) C hT [0, 1, 2] rfl rfl rfl rfl dX12_fewest_21 (⟨f_tried, rfl, (Or.inr (Or.inl ⟨by omega, by omega, by omega, rfl⟩))⟩)
  · refine an2 hw ?_
    clear hw
    intro he_7 he_8 hw
    have h_6 := hw
    clear hw
    have he_7 := he_7.symm
    subst he_7
    subst he_8
    refine ww_eq (ws' := [(hm, .inr (12, [.ref m_manys, .ref m_reals, .ref m_factsOf, .ref m_possible, .int (nI q_undos), .int (nI q_models), .ref m_tape, .int (nI q_taped), .int q_fault, .int q_wrong, .int q_wrongAt, .int q_spot, .int q_place, .int q_token, .int q_value, .ref m_ends, .ref m_letters, .ref m_actOf, .ref m_whom, .ref m_actMany, .ref m_tokens, .ref m_afters, .ref m_afterOf, .int q_counted, .ref m_pile, .ref m_caseMany, .ref m_happen, .ref m_hasIf, .ref m_becomes, .ref m_goneOf, .ref m_heard, .ref m_pairs, .ref m_heaps, .int q_rounds, .int q_heapMany, .ref m_led, .ref m_newAt, .ref m_knowing, .ref m_firsts, .int (nI q_people), .ref m_secrets, .ref m_tried, .ref m_lanes, .ref m_lengths, .ref m_cells])), (m_secrets, .inl (E.2.1 1, 4, .inl f_secrets)), (m_tried, .inl (E.2.1 1, 4, .inl f_tried))]) ?_ rfl rfl rfl
    refine ww_if_ne_f (tgt := 12) C dX12_fewest_7 (by decide) (rfl) ?_
    refine ww_iconst (v := (-1)) C dX12_fewest_10 rfl ?_
    exact ww_iret (u := [(hm, .inr (12, [.ref m_manys, .ref m_reals, .ref m_factsOf, .ref m_possible, .int (nI q_undos), .int (nI q_models), .ref m_tape, .int (nI q_taped), .int q_fault, .int q_wrong, .int q_wrongAt, .int q_spot, .int q_place, .int q_token, .int q_value, .ref m_ends, .ref m_letters, .ref m_actOf, .ref m_whom, .ref m_actMany, .ref m_tokens, .ref m_afters, .ref m_afterOf, .int q_counted, .ref m_pile, .ref m_caseMany, .ref m_happen, .ref m_hasIf, .ref m_becomes, .ref m_goneOf, .ref m_heard, .ref m_pairs, .ref m_heaps, .int q_rounds, .int q_heapMany, .ref m_led, .ref m_newAt, .ref m_knowing, .ref m_firsts, .int (nI q_people), .ref m_secrets, .ref m_tried, .ref m_lanes, .ref m_lengths, .ref m_cells])), (m_secrets, .inl (E.2.1 1, 4, .inl f_secrets)), (m_tried, .inl (E.2.1 1, 4, .inl f_tried))]) C hT [0, 1, 2] rfl rfl rfl rfl dX12_fewest_11 (⟨f_tried, rfl, (Or.inl ⟨by omega, rfl⟩)⟩)
end
