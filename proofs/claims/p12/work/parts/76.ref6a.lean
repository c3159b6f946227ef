theorem dX12_isSaying_0 : decode cX12_isSaying 0 = .ok (.iload_n 1, 1) := by decide +kernel
theorem dX12_isSaying_1 : decode cX12_isSaying 1 = .ok (.i2l, 1) := by decide +kernel
theorem dX12_isSaying_2 : decode cX12_isSaying 2 = .ok (.lconst 0, 1) := by decide +kernel
theorem dX12_isSaying_3 : decode cX12_isSaying 3 = .ok (.ldc2_w 207, 3) := by decide +kernel
theorem dX12_isSaying_6 : decode cX12_isSaying 6 = .ok (.invokestatic 115, 3) := by decide +kernel
theorem dX12_isSaying_9 : decode cX12_isSaying 9 = .ok (.ifCond .eq 16, 3) := by decide +kernel
theorem dX12_isSaying_12 : decode cX12_isSaying 12 = .ok (.aload_n 0, 1) := by decide +kernel
theorem dX12_isSaying_13 : decode cX12_isSaying 13 = .ok (.getfield 40, 3) := by decide +kernel
theorem dX12_isSaying_16 : decode cX12_isSaying 16 = .ok (.iload_n 1, 1) := by decide +kernel
theorem dX12_isSaying_17 : decode cX12_isSaying 17 = .ok (.iaload, 1) := by decide +kernel
theorem dX12_isSaying_18 : decode cX12_isSaying 18 = .ok (.ifCond .le 7, 3) := by decide +kernel
theorem dX12_isSaying_25 : decode cX12_isSaying 25 = .ok (.iconst 0, 1) := by decide +kernel
theorem dX12_isSaying_26 : decode cX12_isSaying 26 = .ok (.ireturn, 1) := by decide +kernel
theorem dX12_isSaying_21 : decode cX12_isSaying 21 = .ok (.iconst 1, 1) := by decide +kernel
theorem dX12_isSaying_22 : decode cX12_isSaying 22 = .ok (.goto 4, 3) := by decide +kernel
set_option maxRecDepth 100000 in
set_option maxHeartbeats 4000000 in
theorem r_isSaying (l : Launch) (E : EV) (ro : va_W) (hm : Nat) (k : Int32) (m_manys : Nat) (m_reals : Nat) (m_factsOf : Nat) (m_possible : Nat) (q_undos : Nat) (q_models : Nat) (m_tape : Nat) (q_taped : Nat) (q_fault : Int32) (q_wrong : Int32) (q_wrongAt : Int32) (q_spot : Int32) (q_place : Int32) (q_token : Int32) (q_value : Int32) (m_ends : Nat) (m_letters : Nat) (m_actOf : Nat) (m_whom : Nat) (m_actMany : Nat) (m_tokens : Nat) (m_afters : Nat) (m_afterOf : Nat) (q_counted : Int32) (m_pile : Nat) (m_caseMany : Nat) (m_happen : Nat) (m_hasIf : Nat) (m_becomes : Nat) (m_goneOf : Nat) (m_heard : Nat) (m_pairs : Nat) (m_heaps : Nat) (q_rounds : Int32) (q_heapMany : Int32) (m_led : Nat) (m_newAt : Nat) (m_knowing : Nat) (m_firsts : Nat) (q_people : Nat) (m_secrets : Nat) (m_tried : Nat) (m_lanes : Nat) (m_lengths : Nat) (m_cells : Nat) (f_tokens : Nat → Int32)  : CT l yX12_isSaying (Cond.code yX12_isSaying cX12_isSaying 2 (some .boolean) :: TB) ({ frames := 1, cells := 0, slots := 0, locals := 25 }) E ro [.ref hm, .int k] [(hm, .inr (12, [.ref m_manys, .ref m_reals, .ref m_factsOf, .ref m_possible, .int (nI q_undos), .int (nI q_models), .ref m_tape, .int (nI q_taped), .int q_fault, .int q_wrong, .int q_wrongAt, .int q_spot, .int q_place, .int q_token, .int q_value, .ref m_ends, .ref m_letters, .ref m_actOf, .ref m_whom, .ref m_actMany, .ref m_tokens, .ref m_afters, .ref m_afterOf, .int q_counted, .ref m_pile, .ref m_caseMany, .ref m_happen, .ref m_hasIf, .ref m_becomes, .ref m_goneOf, .ref m_heard, .ref m_pairs, .ref m_heaps, .int q_rounds, .int q_heapMany, .ref m_led, .ref m_newAt, .ref m_knowing, .ref m_firsts, .int (nI q_people), .ref m_secrets, .ref m_tried, .ref m_lanes, .ref m_lengths, .ref m_cells])), (m_tokens, .inl (E.2.1 1, 9, .inl f_tokens))] (Qi E (fun (rz : Int32) uz => (rz = 1 ∧ uz = [(hm, .inr (12, [.ref m_manys, .ref m_reals, .ref m_factsOf, .ref m_possible, .int (nI q_undos), .int (nI q_models), .ref m_tape, .int (nI q_taped), .int q_fault, .int q_wrong, .int q_wrongAt, .int q_spot, .int q_place, .int q_token, .int q_value, .ref m_ends, .ref m_letters, .ref m_actOf, .ref m_whom, .ref m_actMany, .ref m_tokens, .ref m_afters, .ref m_afterOf, .int q_counted, .ref m_pile, .ref m_caseMany, .ref m_happen, .ref m_hasIf, .ref m_becomes, .ref m_goneOf, .ref m_heard, .ref m_pairs, .ref m_heaps, .int q_rounds, .int q_heapMany, .ref m_led, .ref m_newAt, .ref m_knowing, .ref m_firsts, .int (nI q_people), .ref m_secrets, .ref m_tried, .ref m_lanes, .ref m_lengths, .ref m_cells])), (m_tokens, .inl (E.2.1 1, 9, .inl f_tokens))] ∧ (0 ≤ k.toInt) ∧ (k.toInt ≤ 7) ∧ (0 < (f_tokens k.toNatClampNeg).toInt)) ∨ (rz = 0 ∧ uz = [(hm, .inr (12, [.ref m_manys, .ref m_reals, .ref m_factsOf, .ref m_possible, .int (nI q_undos), .int (nI q_models), .ref m_tape, .int (nI q_taped), .int q_fault, .int q_wrong, .int q_wrongAt, .int q_spot, .int q_place, .int q_token, .int q_value, .ref m_ends, .ref m_letters, .ref m_actOf, .ref m_whom, .ref m_actMany, .ref m_tokens, .ref m_afters, .ref m_afterOf, .int q_counted, .ref m_pile, .ref m_caseMany, .ref m_happen, .ref m_hasIf, .ref m_becomes, .ref m_goneOf, .ref m_heard, .ref m_pairs, .ref m_heaps, .int q_rounds, .int q_heapMany, .ref m_led, .ref m_newAt, .ref m_knowing, .ref m_firsts, .int (nI q_people), .ref m_secrets, .ref m_tried, .ref m_lanes, .ref m_lengths, .ref m_cells])), (m_tokens, .inl (E.2.1 1, 9, .inl f_tokens))] ∧ (k.toInt < 0 ∨ 7 < k.toInt ∨ (f_tokens k.toNatClampNeg).toInt ≤ 0)))) 0 0 := by
  refine ct_of rfl rfl ?_
  intro X C hT hin hro
  show WW X 2 E 0 [(0, .ref hm), (1, .int k)] [] [(hm, .inr (12, [.ref m_manys, .ref m_reals, .ref m_factsOf, .ref m_possible, .int (nI q_undos), .int (nI q_models), .ref m_tape, .int (nI q_taped), .int q_fault, .int q_wrong, .int q_wrongAt, .int q_spot, .int q_place, .int q_token, .int q_value, .ref m_ends, .ref m_letters, .ref m_actOf, .ref m_whom, .ref m_actMany, .ref m_tokens, .ref m_afters, .ref m_afterOf, .int q_counted, .ref m_pile, .ref m_caseMany, .ref m_happen, .ref m_hasIf, .ref m_becomes, .ref m_goneOf, .ref m_heard, .ref m_pairs, .ref m_heaps, .int q_rounds, .int q_heapMany, .ref m_led, .ref m_newAt, .ref m_knowing, .ref m_firsts, .int (nI q_people), .ref m_secrets, .ref m_tried, .ref m_lanes, .ref m_lengths, .ref m_cells])), (m_tokens, .inl (E.2.1 1, 9, .inl f_tokens))] 0 0
  refine ww_iload_n C dX12_isSaying_0 1 rfl rfl ?_
  refine ww_i2l (v := k.toInt64) C dX12_isSaying_1 rfl ?_
  refine ww_lconst (v := 0) C dX12_isSaying_2 rfl ?_
  refine ww_ldc2 C wv_X12_207 dX12_isSaying_3 ?_
  refine ww_ci (wr := [(hm, .inr (12, [.ref m_manys, .ref m_reals, .ref m_factsOf, .ref m_possible, .int (nI q_undos), .int (nI q_models), .ref m_tape, .int (nI q_taped), .int q_fault, .int q_wrong, .int q_wrongAt, .int q_spot, .int q_place, .int q_token, .int q_value, .ref m_ends, .ref m_letters, .ref m_actOf, .ref m_whom, .ref m_actMany, .ref m_tokens, .ref m_afters, .ref m_afterOf, .int q_counted, .ref m_pile, .ref m_caseMany, .ref m_happen, .ref m_hasIf, .ref m_becomes, .ref m_goneOf, .ref m_heard, .ref m_pairs, .ref m_heaps, .int q_rounds, .int q_heapMany, .ref m_led, .ref m_newAt, .ref m_knowing, .ref m_firsts, .int (nI q_people), .ref m_secrets, .ref m_tried, .ref m_lanes, .ref m_lengths, .ref m_cells])), (m_tokens, .inl (E.2.1 1, 9, .inl f_tokens))]) (k' := 0) (n' := 0) C (run_S (As := [.long k.toInt64, .long 0, .long 7]) (rest := []) C (r_in X.2.1 E ro k.toInt64 0 7 k.toInt 0 7 (Int32.toInt_toInt64 _) rfl rfl) ms_X12_in wl_X12_115 rfl rfl rfl rfl dX12_isSaying_6) (roK hro) [] [0, 1] rfl rfl rfl rfl (fun r_1 uz hw => ?_)
  rcases hw with hw | hw
  · refine an3 hw ?_
    clear hw
    intro he_4 he_5 h_2 hw
    have h_3 := hw
    clear hw
    have he_4 := he_4.symm
    subst he_4
    subst he_5
    refine ww_eq (ws' := [(hm, .inr (12, [.ref m_manys, .ref m_reals, .ref m_factsOf, .ref m_possible, .int (nI q_undos), .int (nI q_models), .ref m_tape, .int (nI q_taped), .int q_fault, .int q_wrong, .int q_wrongAt, .int q_spot, .int q_place, .int q_token, .int q_value, .ref m_ends, .ref m_letters, .ref m_actOf, .ref m_whom, .ref m_actMany, .ref m_tokens, .ref m_afters, .ref m_afterOf, .int q_counted, .ref m_pile, .ref m_caseMany, .ref m_happen, .ref m_hasIf, .ref m_becomes, .ref m_goneOf, .ref m_heard, .ref m_pairs, .ref m_heaps, .int q_rounds, .int q_heapMany, .ref m_led, .ref m_newAt, .ref m_knowing, .ref m_firsts, .int (nI q_people), .ref m_secrets, .ref m_tried, .ref m_lanes, .ref m_lengths, .ref m_cells])), (m_tokens, .inl (E.2.1 1, 9, .inl f_tokens))]) ?_ rfl rfl rfl
    refine ww_if_eq_f (tgt := 25) C dX12_isSaying_9 (by decide) (by decide) ?_
    obtain ⟨j_9, hj_9, rfl⟩ := i_nat (x := k) (N := 7) (by omega) (by omega)
    have hzj_9 := nI_toInt (n := j_9) (by omega)
    refine ww_aload_n C dX12_isSaying_12 0 rfl rfl ?_
    refine ww_get C fg_X12_40 0 rfl rfl dX12_isSaying_13 ?_
    refine ww_iload_n C dX12_isSaying_16 1 rfl rfl ?_
    obtain ⟨x_10, ex_10⟩ : ∃ z : Int32, f_tokens j_9 = z := ⟨_, rfl⟩
    refine ww_iald (v := x_10) C 1 rfl (vp_in_nI (by omega) (by omega)) (ldn (by omega) ex_10) dX12_isSaying_17 ?_
    refine ww_if_le (tgt := 25) C dX12_isSaying_18 (by decide) (fun c_11 => ?_) (fun c_11 => ?_)
    · have zc_11 : x_10.toInt ≤ 0 := i_le rfl rfl c_11
      refine ww_iconst (v := 0) C dX12_isSaying_25 rfl ?_
      exact ww_zret (u := [(hm, .inr (12, [.ref m_manys, .ref m_reals, .ref m_factsOf, .ref m_possible, .int (nI q_undos), .int (nI q_models), .ref m_tape, .int (nI q_taped), .int q_fault, .int q_wrong, .int q_wrongAt, .int q_spot, .int q_place, .int q_token, .int q_value, .ref m_ends, .ref m_letters, .ref m_actOf, .ref m_whom, .ref m_actMany, .ref m_tokens, .ref m_afters, .ref m_afterOf, .int q_counted, .ref m_pile, .ref m_caseMany, .ref m_happen, .ref m_hasIf, .ref m_becomes, .ref m_goneOf, .ref m_heard, .ref m_pairs, .ref m_heaps, .int q_rounds, .int q_heapMany, .ref m_led, .ref m_newAt, .ref m_knowing, .ref m_firsts, .int (nI q_people), .ref m_secrets, .ref m_tried, .ref m_lanes, .ref m_lengths, .ref m_cells])), (m_tokens, .inl (E.2.1 1, 9, .inl f_tokens))]) C hT [0, 1] rfl rfl rfl rfl rfl dX12_isSaying_26 (Or.inr ⟨rfl, rfl, (Or.inr (Or.inr (by rw [nI_clamp (by omega), ex_10]; omega)))⟩)
    · have zc_11 : x_10.toInt > 0 := i_nle rfl rfl c_11
      refine ww_iconst (v := 1) C dX12_isSaying_21 rfl ?_
      refine ww_goto (tgt := 26) C dX12_isSaying_22 (by decide) ?_
      exact ww_zret (u := [(hm, .inr (12, [.ref m_manys, .ref m_reals, .ref m_factsOf, .ref m_possible, .int (nI q_undos), .int (nI q_models), .ref m_tape, .int (nI q_taped), .int q_fault, .int q_wrong, .int q_wrongAt, .int q_spot, .int q_place, .int q_token, .int q_value, .ref m_ends, .ref m_letters, .ref m_actOf, .ref m_whom, .ref m_actMany, .ref m_tokens, .ref m_afters, .ref m_afterOf, .int q_counted, .ref m_pile, .ref m_caseMany, .ref m_happen, .ref m_hasIf, .ref m_becomes, .ref m_goneOf, .ref m_heard, .ref m_pairs, .ref m_heaps, .int q_rounds, .int q_heapMany, .ref m_led, .ref m_newAt, .ref m_knowing, .ref m_firsts, .int (nI q_people), .ref m_secrets, .ref m_tried, .ref m_lanes, .ref m_lengths, .ref m_cells])), (m_tokens, .inl (E.2.1 1, 9, .inl f_tokens))]) C hT [0, 1] rfl rfl rfl rfl rfl dX12_isSaying_26 (Or.inl ⟨rfl, rfl, (by first | assumption | omega | decide), (by first | assumption | omega | decide), (by rw [nI_clamp (by omega), ex_10]; omega)⟩)
  · refine an2 hw ?_
    clear hw
    intro he_7 he_8 hw
    have h_6 := hw
    clear hw
    have he_7 := he_7.symm
    subst he_7
    subst he_8
    refine ww_eq (ws' := [(hm, .inr (12, [.ref m_manys, .ref m_reals, .ref m_factsOf, .ref m_possible, .int (nI q_undos), .int (nI q_models), .ref m_tape, .int (nI q_taped), .int q_fault, .int q_wrong, .int q_wrongAt, .int q_spot, .int q_place, .int q_token, .int q_value, .ref m_ends, .ref m_letters, .ref m_actOf, .ref m_whom, .ref m_actMany, .ref m_tokens, .ref m_afters, .ref m_afterOf, .int q_counted, .ref m_pile, .ref m_caseMany, .ref m_happen, .ref m_hasIf, .ref m_becomes, .ref m_goneOf, .ref m_heard, .ref m_pairs, .ref m_heaps, .int q_rounds, .int q_heapMany, .ref m_led, .ref m_newAt, .ref m_knowing, .ref m_firsts, .int (nI q_people), .ref m_secrets, .ref m_tried, .ref m_lanes, .ref m_lengths, .ref m_cells])), (m_tokens, .inl (E.2.1 1, 9, .inl f_tokens))]) ?_ rfl rfl rfl
    refine ww_if_eq_t (tgt := 25) C dX12_isSaying_9 (by decide) (rfl) ?_
    refine ww_iconst (v := 0) C dX12_isSaying_25 rfl ?_
    exact ww_zret (u := [(hm, .inr (12, [.ref m_manys, .ref m_reals, .ref m_factsOf, .ref m_possible, .int (nI q_undos), .int (nI q_models), .ref m_tape, .int (nI q_taped), .int q_fault, .int q_wrong, .int q_wrongAt, .int q_spot, .int q_place, .int q_token, .int q_value, .ref m_ends, .ref m_letters, .ref m_actOf, .ref m_whom, .ref m_actMany, .ref m_tokens, .ref m_afters, .ref m_afterOf, .int q_counted, .ref m_pile, .ref m_caseMany, .ref m_happen, .ref m_hasIf, .ref m_becomes, .ref m_goneOf, .ref m_heard, .ref m_pairs, .ref m_heaps, .int q_rounds, .int q_heapMany, .ref m_led, .ref m_newAt, .ref m_knowing, .ref m_firsts, .int (nI q_people), .ref m_secrets, .ref m_tried, .ref m_lanes, .ref m_lengths, .ref m_cells])), (m_tokens, .inl (E.2.1 1, 9, .inl f_tokens))]) C hT [0, 1] rfl rfl rfl rfl rfl dX12_isSaying_26 (Or.inr ⟨rfl, rfl, (by omega)⟩)
