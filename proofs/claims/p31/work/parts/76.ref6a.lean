theorem dX12_isSaying_0 : decode cX12_isSaying 0 = .ok (.iload_n 1, 1) := by decide +kernel
theorem dX12_isSaying_1 : decode cX12_isSaying 1 = .ok (.i2l, 1) := by decide +kernel
theorem dX12_isSaying_2 : decode cX12_isSaying 2 = .ok (.lconst 0, 1) := by decide +kernel
theorem dX12_isSaying_3 : decode cX12_isSaying 3 = .ok (.ldc2_w 207, 3) := by decide +kernel
theorem dX12_isSaying_6 : decode cX12_isSaying 6 = .ok (.invokestatic 115, 3) := by decide +kernel
theorem dX12_isSaying_9 : decode cX12_isSaying 9 = .ok (.ifCond .eq 16, 3) := by decide +kernel
theorem dX12_isSaying_12 : decode cX12_isSaying 12 = .ok (.aload_n 0, 1) := by decide +kernel
theorem dX12_isSaying_13 : decode cX12_isSaying 13 = .ok (.getfield 40, 3) := by decide +kernel
theorem dX12_isSaying_16 : decode cX12_isSaying 16 = .ok (.iload_n 1, 1) := by decide +kernel
theorem dX12_isSaying_17 : decode cX12_isSaying 17 = .ok (.iaload, 1) := by decide +kernel
theorem dX12_isSaying_18 : decode cX12_isSaying 18 = .ok (.ifCond .le 7, 3) := by decide +kernel
theorem dX12_isSaying_25 : decode cX12_isSaying 25 = .ok (.iconst 0, 1) := by decide +kernel
theorem dX12_isSaying_26 : decode cX12_isSaying 26 = .ok (.ireturn, 1) := by decide +kernel
theorem dX12_isSaying_21 : decode cX12_isSaying 21 = .ok (.iconst 1, 1) := by decide +kernel
theorem dX12_isSaying_22 : decode cX12_isSaying 22 = .ok (.goto 4, 3) := by decide +kernel
set_option maxRecDepth 100000 in
set_option maxHeartbeats 4000000 in
theorem r_isSaying (l : Launch) (E : EV) (ro : va_W) (hm : Nat) (k : Int32) (m_manys : Nat) (m_reals : Nat) (m_factsOf : Nat) (m_possible : Nat) (q_undos : Nat) (q_models : Nat) (m_tape : Nat) (q_taped : Nat) (q_fault : Int32) (q_wrong : Int32) (q_wrongAt : Int32) (q_spot : Int32) (q_place : Int32) (q_token : Int32) (q_value : Int32) (m_ends : Nat) (m_letters : Nat) (m_actOf : Nat) (m_whom : Nat) (m_actMany : Nat) (m_tokens : Nat) (m_afters : Nat) (m_afterOf : Nat) (q_counted : Int32) (m_pile : Nat) (m_caseMany : Nat) (m_happen : Nat) (m_hasIf : Nat) (m_becomes : Nat) (m_goneOf : Nat) (m_heard : Nat) (m_pairs : Nat) (m_heaps : Nat) (q_rounds : Int32) (q_heapMany : Int32) (m_led : Nat) (m_newAt : Nat) (m_knowing : Nat) (m_firsts : Nat) (q_people : Nat) (m_secrets : Nat) (m_tried : Nat) (m_lanes : Nat) (m_lengths : Nat) (m_cells : Nat) (f_tokens : Nat → Int32)  : CT l yX12_isSaying (Cond.code yX12_isSaying cX12_isSaying 2 (some .boolean) :: TB) ({ frames := 1, cells := 0, slots := 0, locals := 25 }) E ro [.ref hm, .int k] [(hm, .inr (12, [.ref m_manys, .ref m_reals, .ref m_factsOf, .ref m_possible, .int (nI q_undos), .int (nI q_models), .ref m_tape, .int (nI q_taped), .int q_fault, .int q_wrong, .int q_wrongAt, .int q_spot, .int q_place, .int q_token, .int q_value, .ref m_ends, .ref m_letters, .ref m_actOf, .ref m_whom, .ref m_actMany, .ref m_tokens, .ref m_afters, .ref m_afterOf, .int q_counted, .ref m_pile, .ref m_caseMany, .ref m_happen, .ref m_hasIf, .ref m_becomes, .ref m_goneOf, .ref m_heard, .ref m_pairs, .ref m_heaps, .int q_rounds, .int q_heapMany, .ref m_led, .ref m_newAt, .ref m_knowing, .ref m_firsts, .int (nI q_people), .ref m_secrets, .ref m_tried, .ref m_lanes, .ref m_lengths, .ref m_cells])), (m_tokens, .inl (E.2.1 1, 9, .inl f_tokens))] (Qi E (fun (rz : Int32) uz => (rz = 1 ∧ uz = [(hm, .inr (12, [.ref m_manys, .ref m_reals, .ref m_factsOf, .ref m_possible, .int (nI q_undos), .int (nI q_models), .ref m_tape, .int (nI q_taped), .int q_fault, .int q_wrong, .int q_wrongAt, .int q_spot, .int q_place, .int q_token, .int q_value, .ref m_ends, .ref m_letters, .ref m_actOf, .ref m_whom, .ref m_actMany, .ref m_tokens, .ref m_afters, .ref m_afterOf, .int q_counted, .ref m_pile, .ref m_caseMany, .ref m_happen, .ref m_hasIf, .ref m_becomes, .ref m_goneOf, .ref m_heard, .ref m_pairs, .ref m_heaps, .int q_rounds, .int q_heapMany, .ref m_led, .ref m_newAt, .ref m_knowing, .ref m_firsts, .int (nI q_people), .ref m_secrets, .ref m_tried, .ref m_lanes, .ref m_lengths, .ref m_cells])), (m_tokens, .inl (E.2.1 1, 9, .inl f_tokens))] ∧ (0 ≤ k.toInt) ∧ (k.toInt ≤ 7)) ∨ (rz = 0 ∧ uz = [(hm, .inr (12, [.ref m_manys, .ref m_reals, .ref m_factsOf, .ref m_possible, .int (nI q_undos), .int (nI q_models), .ref m_tape, .int (nI q_taped), .int q_fault, .int q_wrong, .int q_wrongAt, .int q_spot, .int q_place, .int q_token, .int q_value, .ref m_ends, .ref m_letters, .ref m_actOf, .ref m_whom, .ref m_actMany, .ref m_tokens, .ref m_afters, .ref m_afterOf, .int q_counted, .ref m_pile, .ref m_caseMany, .ref m_happen, .ref m_hasIf, .ref m_becomes, .ref m_goneOf, .ref m_heard, .ref m_pairs, .ref m_heaps, .int q_rounds, .int q_heapMany, .ref m_led, .ref m_newAt, .ref m_knowing, .ref m_firsts, .int (nI q_people), .ref m_secrets, .ref m_tried, .ref m_lanes, .ref m_lengths, .ref m_cells])), (m_tokens, .inl (E.2.1 1, 9, .inl f_tokens))]))) 0 0 := by
  refine ct_of rfl rfl ?_
  intro X C hT hin hro
  show WW X 2 E 0 [(0, .ref hm), (1, .int k)] [] [(hm, .inr (12, [.ref m_manys, .ref m_reals, .ref m_factsOf, .ref m_possible, .int (nI q_undos), .int (nI q_models), .ref m_tape, .int (nI q_taped), .int q_fault, .int q_wrong, .int q_wrongAt, .int q_spot, .int q_place, .int q_token, .int q_value, .ref m_ends, .ref m_letters, .ref m_actOf, .ref m_whom, .ref m_actMany, .ref m_tokens, .ref m_afters, .ref m_afterOf, .int q_counted, .ref m_pile, .ref m_caseMany, .ref m_happen, .ref m_hasIf, .ref m_becomes, .ref m_goneOf, .ref m_heard, .ref m_pairs, .ref m_heaps, .int q_rounds, .int q_heapMany, .ref m_led, .ref m_newAt, .ref m_knowing, .ref m_firsts, .int (nI q_people), .ref m_secrets, .ref m_tried, .ref m_lanes, .ref m_lengths, .ref m_cells])), (m_tokens, .inl (E.2.1 1, 9, .inl f_tokens))] 0 0
  refine ww_iload_n C dX12_isSaying_0 1 rfl rfl ?_
  refine ww_i2l (v := k.toInt64) C dX12_isSaying_1 rfl ?_
  refine ww_lconst (v := 0) C dX12_isSaying_2 rfl ?_
  refine ww_ldc2 C wv_X12_207 dX12_isSaying_3 ?_
  refine ww_ci (wr := [(hm, .inr (12, [.ref m_manys, .ref m_reals, .ref m_factsOf, .ref m_possible, .int (nI q_undos), .int (nI q_models), .ref m_tape, .int (nI q_taped), .int q_fault, .int q_wrong, .int q_wrongAt, .int q_spot, .int q_place, .int q_token, .int q_value, .ref m_ends, .ref m_letters, .ref m_actOf, .ref m_whom, .ref m_actMany, .ref m_tokens, .ref m_afters, .ref m_afterOf, .int q_counted, .ref m_pile, .ref m_caseMany, .ref m_happen, .ref m_hasIf, .ref m_becomes, .ref m_goneOf, .ref m_heard, .ref m_pairs, .ref m_heaps, .int q_rounds, .int q_heapMany, .ref m_led, .ref m_newAt, .ref m_knowing, .ref m_firsts, .int (nI q_people), .ref m_secrets, .ref m_tried, .ref m_lanes, .ref m_lengths, .ref m_cells])), (m_tokens, .inl (E.2.1 1, 9, .inl f_tokens))]) (k' := 0) (n' := 0) C (run_S (As := [.long k.toInt64, .long 0, .long 7]) (rest := []) C (r_in X.2.1 E ro k.toInt64 0 7 k.toInt 0 7 (Int32.toInt_toInt64 _) rfl rfl) ms_X12_in wl_X12_115 rfl rfl rfl rfl dX12_isSaying_6) (roK hro) [] [0, 1] rfl rfl rfl rfl (fun r_1 uz hw => ?_)
  rcases hw with ⟨rfl, rfl, h_2, h_3⟩ | ⟨rfl, rfl, h_4⟩
  · refine ww_eq (ws' := [(hm, .inr (12, [.ref m_manys, .ref m_reals, .ref m_factsOf, .ref m_possible, .int (nI q_undos), .int (nI q_models), .ref m_tape, .int (nI q_taped), .int q_fault, .int q_wrong, .int q_wrongAt, .int q_spot, .int q_place, .int q_token, .int q_value, .ref m_ends, .ref m_letters, .ref m_actOf, .ref m_whom, .ref m_actMany, .ref m_tokens, .ref m_afters, .ref m_afterOf, .int q_counted, .ref m_pile, .ref m_caseMany, .ref m_happen, .ref m_hasIf, .ref m_becomes, .ref m_goneOf, .ref m_heard, .ref m_pairs, .ref m_heaps, .int q_rounds, .int q_heapMany, .ref m_led, .ref m_newAt, .ref m_knowing, .ref m_firsts, .int (nI q_people), .ref m_secrets, .ref m_tried, .ref m_lanes, .ref m_lengths, .ref m_cells])), (m_tokens, .inl (E.2.1 1, 9, .inl f_tokens))]) ?_ rfl rfl rfl
    refine ww_if_eq_f (tgt := 25) C dX12_isSaying_9 (by decide) (by decide) ?_
    obtain ⟨j_5, hj_5, rfl⟩ := i_nat (x := k) (N := 7) (by omega) (by omega)
    have hzj_5 := nI_toInt (n := j_5) (by omega)
    refine ww_aload_n C dX12_isSaying_12 0 rfl rfl ?_
    refine ww_get C fg_X12_40 0 rfl rfl dX12_isSaying_13 ?_
    refine ww_iload_n C dX12_isSaying_16 1 rfl rfl ?_
    obtain ⟨x_6, ex_6⟩ : ∃ z : Int32, f_tokens j_5 = z := ⟨_, rfl⟩
    refine ww_iald (v := x_6) C 1 rfl (vp_in_nI (by omega) (by omega)) (ldn (by omega) ex_6) dX12_isSaying_17 ?_
    refine ww_if_le (tgt := 25) C dX12_isSaying_18 (by decide) (fun c_7 => ?_) (fun c_7 => ?_)
    · have zc_7 : x_6.toInt ≤ 0 := i_le rfl rfl c_7
      refine ww_iconst (v := 0) C dX12_isSaying_25 rfl ?_
      exact ww_zret (u := [(hm, .inr (12, [.ref m_manys, .ref m_reals, .ref m_factsOf, .ref m_possible, .int (nI q_undos), .int (nI q_models), .ref m_tape, .int (nI q_taped), .int q_fault, .int q_wrong, .int q_wrongAt, .int q_spot, .int q_place, .int q_token, .int q_value, .ref m_ends, .ref m_letters, .ref m_actOf, .ref m_whom, .ref m_actMany, .ref m_tokens, .ref m_afters, .ref m_afterOf, .int q_counted, .ref m_pile, .ref m_caseMany, .ref m_happen, .ref m_hasIf, .ref m_becomes, .ref m_goneOf, .ref m_heard, .ref m_pairs, .ref m_heaps, .int q_rounds, .int q_heapMany, .ref m_led, .ref m_newAt, .ref m_knowing, .ref m_firsts, .int (nI q_people), .ref m_secrets, .ref m_tried, .ref m_lanes, .ref m_lengths, .ref m_cells])), (m_tokens, .inl (E.2.1 1, 9, .inl f_tokens))]) C hT [0, 1] rfl rfl rfl rfl rfl dX12_isSaying_26 (Or.inr ⟨rfl, rfl⟩)
    · have zc_7 : x_6.toInt > 0 := i_nle rfl rfl c_7
      refine ww_iconst (v := 1) C dX12_isSaying_21 rfl ?_
      refine ww_goto (tgt := 26) C dX12_isSaying_22 (by decide) ?_
      exact ww_zret (u := [(hm, .inr (12, [.ref m_manys, .ref m_reals, .ref m_factsOf, .ref m_possible, .int (nI q_undos), .int (nI q_models), .ref m_tape, .int (nI q_taped), .int q_fault, .int q_wrong, .int q_wrongAt, .int q_spot, .int q_place, .int q_token, .int q_value, .ref m_ends, .ref m_letters, .ref m_actOf, .ref m_whom, .ref m_actMany, .ref m_tokens, .ref m_afters, .ref m_afterOf, .int q_counted, .ref m_pile, .ref m_caseMany, .ref m_happen, .ref m_hasIf, .ref m_becomes, .ref m_goneOf, .ref m_heard, .ref m_pairs, .ref m_heaps, .int q_rounds, .int q_heapMany, .ref m_led, .ref m_newAt, .ref m_knowing, .ref m_firsts, .int (nI q_people), .ref m_secrets, .ref m_tried, .ref m_lanes, .ref m_lengths, .ref m_cells])), (m_tokens, .inl (E.2.1 1, 9, .inl f_tokens))]) C hT [0, 1] rfl rfl rfl rfl rfl dX12_isSaying_26 (Or.inl ⟨rfl, rfl, (by first | assumption | omega | decide), (by first | assumption | omega | decide)⟩)
  · refine ww_eq (ws' := [(hm, .inr (12, [.ref m_manys, .ref m_reals, .ref m_factsOf, .ref m_possible, .int (nI q_undos), .int (nI q_models), .ref m_tape, .int (nI q_taped), .int q_fault, .int q_wrong, .int q_wrongAt, .int q_spot, .int q_place, .int q_token, .int q_value, .ref m_ends, .ref m_letters, .ref m_actOf, .ref m_whom, .ref m_actMany, .ref m_tokens, .ref m_afters, .ref m_afterOf, .int q_counted, .ref m_pile, .ref m_caseMany, .ref m_happen, .ref m_hasIf, .ref m_becomes, .ref m_goneOf, .ref m_heard, .ref m_pairs, .ref m_heaps, .int q_rounds, .int q_heapMany, .ref m_led, .ref m_newAt, .ref m_knowing, .ref m_firsts, .int (nI q_people), .ref m_secrets, .ref m_tried, .ref m_lanes, .ref m_lengths, .ref m_cells])), (m_tokens, .inl (E.2.1 1, 9, .inl f_tokens))]) ?_ rfl rfl rfl
    refine ww_if_eq_t (tgt := 25) C dX12_isSaying_9 (by decide) (rfl) ?_
    refine ww_iconst (v := 0) C dX12_isSaying_25 rfl ?_
    exact ww_zret (u := [(hm, .inr (12, [.ref m_manys, .ref m_reals, .ref m_factsOf, .ref m_possible, .int (nI q_undos), .int (nI q_models), .ref m_tape, .int (nI q_taped), .int q_fault, .int q_wrong, .int q_wrongAt, .int q_spot, .int q_place, .int q_token, .int q_value, .ref m_ends, .ref m_letters, .ref m_actOf, .ref m_whom, .ref m_actMany, .ref m_tokens, .ref m_afters, .ref m_afterOf, .int q_counted, .ref m_pile, .ref m_caseMany, .ref m_happen, .ref m_hasIf, .ref m_becomes, .ref m_goneOf, .ref m_heard, .ref m_pairs, .ref m_heaps, .int q_rounds, .int q_heapMany, .ref m_led, .ref m_newAt, .ref m_knowing, .ref m_firsts, .int (nI q_people), .ref m_secrets, .ref m_tried, .ref m_lanes, .ref m_lengths, .ref m_cells])), (m_tokens, .inl (E.2.1 1, 9, .inl f_tokens))]) C hT [0, 1] rfl rfl rfl rfl rfl dX12_isSaying_26 (Or.inr ⟨rfl, rfl⟩)
theorem dX12_depthOf_0 : decode cX12_depthOf 0 = .ok (.iconst 0, 1) := by decide +kernel
theorem dX12_depthOf_1 : decode cX12_depthOf 1 = .ok (.istore_n 2, 1) := by decide +kernel
theorem dX12_depthOf_2 : decode cX12_depthOf 2 = .ok (.aload_n 0, 1) := by decide +kernel
theorem dX12_depthOf_3 : decode cX12_depthOf 3 = .ok (.getfield 37, 3) := by decide +kernel
theorem dX12_depthOf_6 : decode cX12_depthOf 6 = .ok (.iload_n 1, 1) := by decide +kernel
theorem dX12_depthOf_7 : decode cX12_depthOf 7 = .ok (.iaload, 1) := by decide +kernel
theorem dX12_depthOf_8 : decode cX12_depthOf 8 = .ok (.iconst 1, 1) := by decide +kernel
theorem dX12_depthOf_9 : decode cX12_depthOf 9 = .ok (.isub, 1) := by decide +kernel
theorem dX12_depthOf_10 : decode cX12_depthOf 10 = .ok (.istore_n 3, 1) := by decide +kernel
theorem dX12_depthOf_11 : decode cX12_depthOf 11 = .ok (.iload_n 3, 1) := by decide +kernel
theorem dX12_depthOf_12 : decode cX12_depthOf 12 = .ok (.ifCond .lt 96, 3) := by decide +kernel
theorem dX12_depthOf_108 : decode cX12_depthOf 108 = .ok (.aload_n 0, 1) := by decide +kernel
theorem dX12_depthOf_109 : decode cX12_depthOf 109 = .ok (.getfield 49, 3) := by decide +kernel
theorem wf_X12_49 : Cond.fieldLink RX12 49 RX12 "pile" "[I" ∈ TB := tbm (tq5 (List.mem_of_getElem? (i := 102) (by decide +kernel))) (by decide +kernel)
theorem fg_X12_49 : FG RX12 49 12 24 := ⟨RX12, TX12, 45, uw_X12, wf_X12_49, rfl, by decide, rfl⟩
theorem dX12_depthOf_112 : decode cX12_depthOf 112 = .ok (.iconst 0, 1) := by decide +kernel
theorem dX12_depthOf_113 : decode cX12_depthOf 113 = .ok (.iaload, 1) := by decide +kernel
theorem dX12_depthOf_114 : decode cX12_depthOf 114 = .ok (.ireturn, 1) := by decide +kernel
theorem dX12_depthOf_15 : decode cX12_depthOf 15 = .ok (.aload_n 0, 1) := by decide +kernel
theorem dX12_depthOf_16 : decode cX12_depthOf 16 = .ok (.getfield 31, 3) := by decide +kernel
theorem dX12_depthOf_19 : decode cX12_depthOf 19 = .ok (.bipush 32, 2) := by decide +kernel
theorem dX12_depthOf_21 : decode cX12_depthOf 21 = .ok (.iload_n 1, 1) := by decide +kernel
theorem dX12_depthOf_22 : decode cX12_depthOf 22 = .ok (.imul, 1) := by decide +kernel
theorem dX12_depthOf_23 : decode cX12_depthOf 23 = .ok (.iload_n 3, 1) := by decide +kernel
theorem dX12_depthOf_24 : decode cX12_depthOf 24 = .ok (.iadd, 1) := by decide +kernel
theorem dX12_depthOf_25 : decode cX12_depthOf 25 = .ok (.iaload, 1) := by decide +kernel
theorem dX12_depthOf_26 : decode cX12_depthOf 26 = .ok (.istore 4, 2) := by decide +kernel
theorem dX12_depthOf_28 : decode cX12_depthOf 28 = .ok (.iconst 0, 1) := by decide +kernel
theorem dX12_depthOf_29 : decode cX12_depthOf 29 = .ok (.istore 5, 2) := by decide +kernel
theorem dX12_depthOf_31 : decode cX12_depthOf 31 = .ok (.iconst 0, 1) := by decide +kernel
theorem dX12_depthOf_32 : decode cX12_depthOf 32 = .ok (.istore 6, 2) := by decide +kernel
theorem dX12_depthOf_34 : decode cX12_depthOf 34 = .ok (.iload 6, 2) := by decide +kernel
theorem dX12_depthOf_36 : decode cX12_depthOf 36 = .ok (.iload 4, 2) := by decide +kernel
theorem dX12_depthOf_38 : decode cX12_depthOf 38 = .ok (.invokestatic 215, 3) := by decide +kernel
theorem dX12_depthOf_41 : decode cX12_depthOf 41 = .ok (.if_icmp .ge 36, 3) := by decide +kernel
theorem dX12_depthOf_77 : decode cX12_depthOf 77 = .ok (.aload_n 0, 1) := by decide +kernel
theorem dX12_depthOf_78 : decode cX12_depthOf 78 = .ok (.getfield 49, 3) := by decide +kernel
theorem dX12_depthOf_81 : decode cX12_depthOf 81 = .ok (.iload_n 2, 1) := by decide +kernel
theorem dX12_depthOf_82 : decode cX12_depthOf 82 = .ok (.iload 4, 2) := by decide +kernel
theorem dX12_depthOf_84 : decode cX12_depthOf 84 = .ok (.bipush 8, 2) := by decide +kernel
theorem dX12_depthOf_86 : decode cX12_depthOf 86 = .ok (.if_icmp .lt 10, 3) := by decide +kernel
theorem dX12_depthOf_96 : decode cX12_depthOf 96 = .ok (.iload 5, 2) := by decide +kernel
theorem dX12_depthOf_98 : decode cX12_depthOf 98 = .ok (.iastore, 1) := by decide +kernel
theorem dX12_depthOf_99 : decode cX12_depthOf 99 = .ok (.iinc 2 1, 3) := by decide +kernel
theorem dX12_depthOf_102 : decode cX12_depthOf 102 = .ok (.iinc 3 (-1), 3) := by decide +kernel
theorem dX12_depthOf_105 : decode cX12_depthOf 105 = .ok (.goto (-94), 3) := by decide +kernel
theorem dX12_depthOf_44 : decode cX12_depthOf 44 = .ok (.iinc 2 (-1), 3) := by decide +kernel
theorem dX12_depthOf_47 : decode cX12_depthOf 47 = .ok (.aload_n 0, 1) := by decide +kernel
theorem dX12_depthOf_48 : decode cX12_depthOf 48 = .ok (.getfield 49, 3) := by decide +kernel
theorem dX12_depthOf_51 : decode cX12_depthOf 51 = .ok (.iload_n 2, 1) := by decide +kernel
theorem dX12_depthOf_52 : decode cX12_depthOf 52 = .ok (.iaload, 1) := by decide +kernel
theorem dX12_depthOf_53 : decode cX12_depthOf 53 = .ok (.iload 5, 2) := by decide +kernel
theorem dX12_depthOf_55 : decode cX12_depthOf 55 = .ok (.if_icmp .le 12, 3) := by decide +kernel
theorem dX12_depthOf_67 : decode cX12_depthOf 67 = .ok (.iload 5, 2) := by decide +kernel
theorem dX12_depthOf_69 : decode cX12_depthOf 69 = .ok (.istore 5, 2) := by decide +kernel
theorem dX12_depthOf_71 : decode cX12_depthOf 71 = .ok (.iinc 6 1, 3) := by decide +kernel
theorem dX12_depthOf_74 : decode cX12_depthOf 74 = .ok (.goto (-40), 3) := by decide +kernel
theorem dX12_depthOf_58 : decode cX12_depthOf 58 = .ok (.aload_n 0, 1) := by decide +kernel
theorem dX12_depthOf_59 : decode cX12_depthOf 59 = .ok (.getfield 49, 3) := by decide +kernel
theorem dX12_depthOf_62 : decode cX12_depthOf 62 = .ok (.iload_n 2, 1) := by decide +kernel
theorem dX12_depthOf_63 : decode cX12_depthOf 63 = .ok (.iaload, 1) := by decide +kernel
theorem dX12_depthOf_64 : decode cX12_depthOf 64 = .ok (.goto 5, 3) := by decide +kernel
theorem dX12_depthOf_89 : decode cX12_depthOf 89 = .ok (.iload 5, 2) := by decide +kernel
theorem dX12_depthOf_91 : decode cX12_depthOf 91 = .ok (.iconst 1, 1) := by decide +kernel
theorem dX12_depthOf_92 : decode cX12_depthOf 92 = .ok (.iadd, 1) := by decide +kernel
theorem dX12_depthOf_93 : decode cX12_depthOf 93 = .ok (.goto 5, 3) := by decide +kernel
set_option maxRecDepth 100000 in
set_option maxHeartbeats 4000000 in
theorem r_depthOf (l : Launch) (E : EV) (ro : va_W) (hm : Nat) (sl : Nat) (m_manys : Nat) (m_reals : Nat) (m_factsOf : Nat) (m_possible : Nat) (q_undos : Nat) (q_models : Nat) (m_tape : Nat) (q_taped : Nat) (q_fault : Int32) (q_wrong : Int32) (q_wrongAt : Int32) (q_spot : Int32) (q_place : Int32) (q_token : Int32) (q_value : Int32) (m_ends : Nat) (m_letters : Nat) (m_actOf : Nat) (m_whom : Nat) (m_actMany : Nat) (m_tokens : Nat) (m_afters : Nat) (m_afterOf : Nat) (q_counted : Int32) (m_pile : Nat) (m_caseMany : Nat) (m_happen : Nat) (m_hasIf : Nat) (m_becomes : Nat) (m_goneOf : Nat) (m_heard : Nat) (m_pairs : Nat) (m_heaps : Nat) (q_rounds : Int32) (q_heapMany : Int32) (m_led : Nat) (m_newAt : Nat) (m_knowing : Nat) (m_firsts : Nat) (q_people : Nat) (m_secrets : Nat) (m_tried : Nat) (m_lanes : Nat) (m_lengths : Nat) (m_cells : Nat) (f_actMany : Nat → Int32) (f_actOf : Nat → Int32) (f_pile : Nat → Int32) (hb_actMany : NB 25 32 f_actMany) (hsv : SV f_actOf f_actMany) (hsl : sl < 24) : CT l yX12_depthOf (Cond.code yX12_depthOf cX12_depthOf 7 (some .int) :: TB) ({ frames := 1, cells := 0, slots := 0, locals := 20 }) E ro [.ref hm, .int (nI sl)] [(hm, .inr (12, [.ref m_manys, .ref m_reals, .ref m_factsOf, .ref m_possible, .int (nI q_undos), .int (nI q_models), .ref m_tape, .int (nI q_taped), .int q_fault, .int q_wrong, .int q_wrongAt, .int q_spot, .int q_place, .int q_token, .int q_value, .ref m_ends, .ref m_letters, .ref m_actOf, .ref m_whom, .ref m_actMany, .ref m_tokens, .ref m_afters, .ref m_afterOf, .int q_counted, .ref m_pile, .ref m_caseMany, .ref m_happen, .ref m_hasIf, .ref m_becomes, .ref m_goneOf, .ref m_heard, .ref m_pairs, .ref m_heaps, .int q_rounds, .int q_heapMany, .ref m_led, .ref m_newAt, .ref m_knowing, .ref m_firsts, .int (nI q_people), .ref m_secrets, .ref m_tried, .ref m_lanes, .ref m_lengths, .ref m_cells])), (m_actMany, .inl (E.2.1 1, 25, .inl f_actMany)), (m_actOf, .inl (E.2.1 1, 800, .inl f_actOf)), (m_pile, .inl (E.2.1 1, 34, .inl f_pile))] (Qi E (fun (rz : Int32) uz => (∃ (f_pilez : Nat → Int32), uz = [(hm, .inr (12, [.ref m_manys, .ref m_reals, .ref m_factsOf, .ref m_possible, .int (nI q_undos), .int (nI q_models), .ref m_tape, .int (nI q_taped), .int q_fault, .int q_wrong, .int q_wrongAt, .int q_spot, .int q_place, .int q_token, .int q_value, .ref m_ends, .ref m_letters, .ref m_actOf, .ref m_whom, .ref m_actMany, .ref m_tokens, .ref m_afters, .ref m_afterOf, .int q_counted, .ref m_pile, .ref m_caseMany, .ref m_happen, .ref m_hasIf, .ref m_becomes, .ref m_goneOf, .ref m_heard, .ref m_pairs, .ref m_heaps, .int q_rounds, .int q_heapMany, .ref m_led, .ref m_newAt, .ref m_knowing, .ref m_firsts, .int (nI q_people), .ref m_secrets, .ref m_tried, .ref m_lanes, .ref m_lengths, .ref m_cells])), (m_actMany, .inl (E.2.1 1, 25, .inl f_actMany)), (m_actOf, .inl (E.2.1 1, 800, .inl f_actOf)), (m_pile, .inl (E.2.1 1, 34, .inl f_pilez))]))) 0 0 := by
  refine ct_of rfl rfl ?_
  intro X C hT hin hro
  show WW X 7 E 0 [(0, .ref hm), (1, .int (nI sl))] [] [(hm, .inr (12, [.ref m_manys, .ref m_reals, .ref m_factsOf, .ref m_possible, .int (nI q_undos), .int (nI q_models), .ref m_tape, .int (nI q_taped), .int q_fault, .int q_wrong, .int q_wrongAt, .int q_spot, .int q_place, .int q_token, .int q_value, .ref m_ends, .ref m_letters, .ref m_actOf, .ref m_whom, .ref m_actMany, .ref m_tokens, .ref m_afters, .ref m_afterOf, .int q_counted, .ref m_pile, .ref m_caseMany, .ref m_happen, .ref m_hasIf, .ref m_becomes, .ref m_goneOf, .ref m_heard, .ref m_pairs, .ref m_heaps, .int q_rounds, .int q_heapMany, .ref m_led, .ref m_newAt, .ref m_knowing, .ref m_firsts, .int (nI q_people), .ref m_secrets, .ref m_tried, .ref m_lanes, .ref m_lengths, .ref m_cells])), (m_actMany, .inl (E.2.1 1, 25, .inl f_actMany)), (m_actOf, .inl (E.2.1 1, 800, .inl f_actOf)), (m_pile, .inl (E.2.1 1, 34, .inl f_pile))] 0 0
  have hwr := hsv sl (by omega)
  have hwn := hwr.1
  refine ww_iconst (v := 0) C dX12_depthOf_0 rfl ?_
  refine ww_istore_n (lv' := [(2, .int 0), (0, .ref hm), (1, .int (nI sl))]) C dX12_depthOf_1 rfl rfl rfl ?_
  refine ww_aload_n C dX12_depthOf_2 1 rfl rfl ?_
  refine ww_get C fg_X12_37 0 rfl rfl dX12_depthOf_3 ?_
  refine ww_iload_n C dX12_depthOf_6 2 rfl rfl ?_
  have hbx_1 := (hb_actMany sl (by omega)).2
  refine ww_iald (v := (nI (cN f_actMany sl))) C 1 rfl (vp_in_nI (by omega) (by omega)) (ldn (by omega) (hb_actMany sl (by omega)).1) dX12_depthOf_7 ?_
  refine ww_iconst (v := 1) C dX12_depthOf_8 rfl ?_
  obtain ⟨x_2, ex_2⟩ : ∃ z : Int32, (nI (cN f_actMany sl)) - (1 : Int32) = z := ⟨_, rfl⟩
  have zx_2 : x_2.toInt = ((cN f_actMany sl : Nat) : Int) - 1 := by rw [← ex_2]; exact i_sub (nI_toInt (n := cN f_actMany sl) (by omega)) rfl (by omega) (by omega)
  refine ww_isub (v := x_2) C dX12_depthOf_9 ex_2 ?_
  refine ww_istore_n (lv' := [(3, .int x_2), (2, .int 0), (0, .ref hm), (1, .int (nI sl))]) C dX12_depthOf_10 rfl rfl rfl ?_
  have loop_11 : ∀ (fu : Nat) (xi : Int32) (ii : Nat) (tt : Nat) (g1 : Nat → Int32), (xi.toInt = (ii : Int) - 1) → (ii ≤ cN f_actMany sl) → ((tt : Int) = opr (slot f_actOf sl) ii ∨ ii = 0) → ii < fu → WW X 7 E 11 [(3, .int xi), (2, .int (nI tt)), (0, .ref hm), (1, .int (nI sl))] [] [(hm, .inr (12, [.ref m_manys, .ref m_reals, .ref m_factsOf, .ref m_possible, .int (nI q_undos), .int (nI q_models), .ref m_tape, .int (nI q_taped), .int q_fault, .int q_wrong, .int q_wrongAt, .int q_spot, .int q_place, .int q_token, .int q_value, .ref m_ends, .ref m_letters, .ref m_actOf, .ref m_whom, .ref m_actMany, .ref m_tokens, .ref m_afters, .ref m_afterOf, .int q_counted, .ref m_pile, .ref m_caseMany, .ref m_happen, .ref m_hasIf, .ref m_becomes, .ref m_goneOf, .ref m_heard, .ref m_pairs, .ref m_heaps, .int q_rounds, .int q_heapMany, .ref m_led, .ref m_newAt, .ref m_knowing, .ref m_firsts, .int (nI q_people), .ref m_secrets, .ref m_tried, .ref m_lanes, .ref m_lengths, .ref m_cells])), (m_actMany, .inl (E.2.1 1, 25, .inl f_actMany)), (m_actOf, .inl (E.2.1 1, 800, .inl f_actOf)), (m_pile, .inl (E.2.1 1, 34, .inl g1))] 0 0 := by
    intro fu
    induction fu with
    | zero => intro xi ii tt g1 hxi hii htt hmeas; exact absurd hmeas (Nat.not_lt_zero _)
    | succ fu ih_11 =>
      intro xi ii tt g1 hxi hii htt hmeas
      refine ww_iload_n C dX12_depthOf_11 0 rfl rfl ?_
      refine ww_if_lt (tgt := 108) C dX12_depthOf_12 (by decide) (fun c_3 => ?_) (fun c_3 => ?_)
      · have zc_3 : ((ii : Int) - 1) < 0 := i_lt hxi rfl c_3
        refine ww_aload_n C dX12_depthOf_108 2 rfl rfl ?_
        refine ww_get C fg_X12_49 0 rfl rfl dX12_depthOf_109 ?_
        refine ww_iconst (v := 0) C dX12_depthOf_112 rfl ?_
        obtain ⟨x_4, ex_4⟩ : ∃ z : Int32, g1 0 = z := ⟨_, rfl⟩
        refine ww_iald (v := x_4) C 3 rfl (vin rfl) ex_4 dX12_depthOf_113 ?_
        exact ww_iret (u := [(hm, .inr (12, [.ref m_manys, .ref m_reals, .ref m_factsOf, .ref m_possible, .int (nI q_undos), .int (nI q_models), .ref m_tape, .int (nI q_taped), .int q_fault, .int q_wrong, .int q_wrongAt, .int q_spot, .int q_place, .int q_token, .int q_value, .ref m_ends, .ref m_letters, .ref m_actOf, .ref m_whom, .ref m_actMany, .ref m_tokens, .ref m_afters, .ref m_afterOf, .int q_counted, .ref m_pile, .ref m_caseMany, .ref m_happen, .ref m_hasIf, .ref m_becomes, .ref m_goneOf, .ref m_heard, .ref m_pairs, .ref m_heaps, .int q_rounds, .int q_heapMany, .ref m_led, .ref m_newAt, .ref m_knowing, .ref m_firsts, .int (nI q_people), .ref m_secrets, .ref m_tried, .ref m_lanes, .ref m_lengths, .ref m_cells])), (m_actMany, .inl (E.2.1 1, 25, .inl f_actMany)), (m_actOf, .inl (E.2.1 1, 800, .inl f_actOf)), (m_pile, .inl (E.2.1 1, 34, .inl g1))]) C hT [0, 1, 2, 3] rfl rfl rfl rfl dX12_depthOf_114 (⟨g1, rfl⟩)
      · have zc_3 : ((ii : Int) - 1) ≥ 0 := i_nlt hxi rfl c_3
        obtain ⟨j_5, hj_5, rfl⟩ := i_nat (x := xi) (N := 31) (by omega) (by omega)
        have hzj_5 := nI_toInt (n := j_5) (by omega)
        refine ww_aload_n C dX12_depthOf_15 2 rfl rfl ?_
        refine ww_get C fg_X12_31 0 rfl rfl dX12_depthOf_16 ?_
        refine ww_bipush (v := 32) C dX12_depthOf_19 rfl ?_
        refine ww_iload_n C dX12_depthOf_21 3 rfl rfl ?_
        refine ww_imul (v := (nI (32 * sl))) C dX12_depthOf_22 (pk_mul 32 sl) ?_
        refine ww_iload_n C dX12_depthOf_23 0 rfl rfl ?_
        refine ww_iadd (v := (nI ((32 * sl) + j_5))) C dX12_depthOf_24 (nI_add (32 * sl) j_5) ?_
        obtain ⟨x_6, ex_6⟩ : ∃ z : Int32, f_actOf ((32 * sl) + j_5) = z := ⟨_, rfl⟩
        refine ww_iald (v := x_6) C 2 rfl (vp_in_nI (by omega) (by omega)) (ldn (by omega) ex_6) dX12_depthOf_25 ?_
        refine ww_istore (lv' := [(4, .int x_6), (3, .int (nI j_5)), (2, .int (nI tt)), (0, .ref hm), (1, .int (nI sl))]) C dX12_depthOf_26 rfl rfl ?_
        have hxj_5 : slot f_actOf sl j_5 = x_6 := by assumption
        have hxrj_5 := hwr.2.1.1 j_5 (by omega)
        have hoj_5 := opr_s (slot f_actOf sl) j_5
        rw [hxj_5] at hoj_5 hxrj_5
        have h1j_5 := hwr.2.1.2 j_5 (by omega)
        have h2j_5 := opr_le hwr (i := j_5 + 1) (by omega) (by omega)
        have h3j_5 := opr_le hwr (i := j_5) (by omega) (by omega)
        have h4j_5 : ii = j_5 + 1 := by omega
        rw [h4j_5] at htt
        have hwij_5 := wR_in x_6
        have hw4j_5 : x_6.toInt ≤ 4 → wR x_6 = 0 := fun h => wR_a0 h
        have hw6j_5 : x_6.toInt = 6 ∨ x_6.toInt = 7 → wR x_6 = 2 := fun h => wR_a2 h
        have hw1j_5 : 4 < x_6.toInt ∧ x_6.toInt ≠ 6 ∧ x_6.toInt ≠ 7 → wR x_6 = 1 := fun h => wR_a1 h
        refine ww_iconst (v := 0) C dX12_depthOf_28 rfl ?_
        refine ww_istore (lv' := [(5, .int 0), (4, .int x_6), (3, .int (nI j_5)), (2, .int (nI tt)), (0, .ref hm), (1, .int (nI sl))]) C dX12_depthOf_29 rfl rfl ?_
        refine ww_iconst (v := 0) C dX12_depthOf_31 rfl ?_
        refine ww_istore (lv' := [(6, .int 0), (5, .int 0), (4, .int x_6), (3, .int (nI j_5)), (2, .int (nI tt)), (0, .ref hm), (1, .int (nI sl))]) C dX12_depthOf_32 rfl rfl ?_
        refine ww_iload C dX12_depthOf_34 0 rfl ?_
        refine ww_iload C dX12_depthOf_36 2 rfl ?_
        refine ww_ci (wr := [(hm, .inr (12, [.ref m_manys, .ref m_reals, .ref m_factsOf, .ref m_possible, .int (nI q_undos), .int (nI q_models), .ref m_tape, .int (nI q_taped), .int q_fault, .int q_wrong, .int q_wrongAt, .int q_spot, .int q_place, .int q_token, .int q_value, .ref m_ends, .ref m_letters, .ref m_actOf, .ref m_whom, .ref m_actMany, .ref m_tokens, .ref m_afters, .ref m_afterOf, .int q_counted, .ref m_pile, .ref m_caseMany, .ref m_happen, .ref m_hasIf, .ref m_becomes, .ref m_goneOf, .ref m_heard, .ref m_pairs, .ref m_heaps, .int q_rounds, .int q_heapMany, .ref m_led, .ref m_newAt, .ref m_knowing, .ref m_firsts, .int (nI q_people), .ref m_secrets, .ref m_tried, .ref m_lanes, .ref m_lengths, .ref m_cells])), (m_actMany, .inl (E.2.1 1, 25, .inl f_actMany)), (m_actOf, .inl (E.2.1 1, 800, .inl f_actOf)), (m_pile, .inl (E.2.1 1, 34, .inl g1))]) (k' := 0) (n' := 0) C (run_S (As := [.int x_6]) (rest := [.int 0]) C (r_wantsOf X.2.1 E ro x_6 x_6.toInt rfl) ms_X12_wantsOf wl_X12_215 rfl rfl rfl rfl dX12_depthOf_38) (roK hro) [] [0, 1, 2, 3] rfl rfl rfl rfl (fun r_7 uz hw => ?_)
        rcases hw with ⟨rfl, rfl, h_8⟩ | ⟨rfl, rfl, h_9⟩ | ⟨rfl, rfl, h_10⟩
        · refine ww_eq (ws' := [(hm, .inr (12, [.ref m_manys, .ref m_reals, .ref m_factsOf, .ref m_possible, .int (nI q_undos), .int (nI q_models), .ref m_tape, .int (nI q_taped), .int q_fault, .int q_wrong, .int q_wrongAt, .int q_spot, .int q_place, .int q_token, .int q_value, .ref m_ends, .ref m_letters, .ref m_actOf, .ref m_whom, .ref m_actMany, .ref m_tokens, .ref m_afters, .ref m_afterOf, .int q_counted, .ref m_pile, .ref m_caseMany, .ref m_happen, .ref m_hasIf, .ref m_becomes, .ref m_goneOf, .ref m_heard, .ref m_pairs, .ref m_heaps, .int q_rounds, .int q_heapMany, .ref m_led, .ref m_newAt, .ref m_knowing, .ref m_firsts, .int (nI q_people), .ref m_secrets, .ref m_tried, .ref m_lanes, .ref m_lengths, .ref m_cells])), (m_actMany, .inl (E.2.1 1, 25, .inl f_actMany)), (m_actOf, .inl (E.2.1 1, 800, .inl f_actOf)), (m_pile, .inl (E.2.1 1, 34, .inl g1))]) ?_ rfl rfl rfl
          refine ww_icmp_ge_t (tgt := 77) C dX12_depthOf_41 (by decide) (by decide) ?_
          refine ww_aload_n C dX12_depthOf_77 5 rfl rfl ?_
          refine ww_get C fg_X12_49 0 rfl rfl dX12_depthOf_78 ?_
          refine ww_iload_n C dX12_depthOf_81 4 rfl rfl ?_
          refine ww_iload C dX12_depthOf_82 2 rfl ?_
          refine ww_bipush (v := 8) C dX12_depthOf_84 rfl ?_
          refine ww_icmp_lt (tgt := 96) C dX12_depthOf_86 (by decide) (fun c_11 => ?_) (fun c_11 => ?_)
          · have zc_11 : x_6.toInt < 8 := i_lt rfl rfl c_11
            refine ww_iload C dX12_depthOf_96 1 rfl ?_
            obtain ⟨f_12, ef_12⟩ : ∃ z : Nat → Int32, upd g1 tt 0 = z := ⟨_, rfl⟩
            refine ww_iast (ws' := [(hm, .inr (12, [.ref m_manys, .ref m_reals, .ref m_factsOf, .ref m_possible, .int (nI q_undos), .int (nI q_models), .ref m_tape, .int (nI q_taped), .int q_fault, .int q_wrong, .int q_wrongAt, .int q_spot, .int q_place, .int q_token, .int q_value, .ref m_ends, .ref m_letters, .ref m_actOf, .ref m_whom, .ref m_actMany, .ref m_tokens, .ref m_afters, .ref m_afterOf, .int q_counted, .ref m_pile, .ref m_caseMany, .ref m_happen, .ref m_hasIf, .ref m_becomes, .ref m_goneOf, .ref m_heard, .ref m_pairs, .ref m_heaps, .int q_rounds, .int q_heapMany, .ref m_led, .ref m_newAt, .ref m_knowing, .ref m_firsts, .int (nI q_people), .ref m_secrets, .ref m_tried, .ref m_lanes, .ref m_lengths, .ref m_cells])), (m_actMany, .inl (E.2.1 1, 25, .inl f_actMany)), (m_actOf, .inl (E.2.1 1, 800, .inl f_actOf)), (m_pile, .inl (E.2.1 1, 34, .inl f_12))]) C 3 rfl (vp_in_nI (by omega) (by omega)) (ldn2 (by omega) ef_12) rfl dX12_depthOf_98 ?_
            refine ww_iinc (j := 4) (v := (nI (tt + 1))) (lv' := [(2, .int (nI (tt + 1))), (6, .int 0), (5, .int 0), (4, .int x_6), (3, .int (nI j_5)), (0, .ref hm), (1, .int (nI sl))]) C dX12_depthOf_99 rfl (nI_add tt 1) rfl rfl ?_
            obtain ⟨x_13, ex_13⟩ : ∃ z : Int32, (nI j_5) + Int32.ofInt (-1) = z := ⟨_, rfl⟩
            have zx_13 : x_13.toInt = ((j_5 : Nat) : Int) - 1 := by rw [← ex_13]; exact i_dec (c := 1) (nI_toInt (n := j_5) (by omega)) rfl (by omega) (by omega)
            refine ww_iinc (j := 4) (v := x_13) (lv' := [(3, .int x_13), (2, .int (nI (tt + 1))), (6, .int 0), (5, .int 0), (4, .int x_6), (0, .ref hm), (1, .int (nI sl))]) C dX12_depthOf_102 rfl ex_13 rfl rfl ?_
            refine ww_goto (tgt := 11) C dX12_depthOf_105 (by decide) ?_
            exact ww_lv [0, 1, 5, 6] rfl (ww_sub [0, 1, 2, 3] rfl rfl (ih_11 x_13 j_5 (tt + 1) f_12 (by omega) (by omega) (by omega) (by omega)))
          · have zc_11 : x_6.toInt ≥ 8 := i_nlt rfl rfl c_11
            omega
        · refine ww_eq (ws' := [(hm, .inr (12, [.ref m_manys, .ref m_reals, .ref m_factsOf, .ref m_possible, .int (nI q_undos), .int (nI q_models), .ref m_tape, .int (nI q_taped), .int q_fault, .int q_wrong, .int q_wrongAt, .int q_spot, .int q_place, .int q_token, .int q_value, .ref m_ends, .ref m_letters, .ref m_actOf, .ref m_whom, .ref m_actMany, .ref m_tokens, .ref m_afters, .ref m_afterOf, .int q_counted, .ref m_pile, .ref m_caseMany, .ref m_happen, .ref m_hasIf, .ref m_becomes, .ref m_goneOf, .ref m_heard, .ref m_pairs, .ref m_heaps, .int q_rounds, .int q_heapMany, .ref m_led, .ref m_newAt, .ref m_knowing, .ref m_firsts, .int (nI q_people), .ref m_secrets, .ref m_tried, .ref m_lanes, .ref m_lengths, .ref m_cells])), (m_actMany, .inl (E.2.1 1, 25, .inl f_actMany)), (m_actOf, .inl (E.2.1 1, 800, .inl f_actOf)), (m_pile, .inl (E.2.1 1, 34, .inl g1))]) ?_ rfl rfl rfl
          refine ww_icmp_ge_f (tgt := 77) C dX12_depthOf_41 (by decide) (by decide) ?_
          refine ww_iinc (j := 4) (v := (nI (tt - 1))) (lv' := [(2, .int (nI (tt - 1))), (6, .int 0), (5, .int 0), (4, .int x_6), (3, .int (nI j_5)), (0, .ref hm), (1, .int (nI sl))]) C dX12_depthOf_44 rfl (nI_subc (a := tt) (c := 1) (by omega) rfl) rfl rfl ?_
          refine ww_aload_n C dX12_depthOf_47 5 rfl rfl ?_
          refine ww_get C fg_X12_49 0 rfl rfl dX12_depthOf_48 ?_
          refine ww_iload_n C dX12_depthOf_51 0 rfl rfl ?_
          obtain ⟨x_14, ex_14⟩ : ∃ z : Int32, g1 (tt - 1) = z := ⟨_, rfl⟩
          refine ww_iald (v := x_14) C 3 rfl (vp_in_nI (by omega) (by omega)) (ldn (by omega) ex_14) dX12_depthOf_52 ?_
          refine ww_iload C dX12_depthOf_53 2 rfl ?_
          refine ww_icmp_le (tgt := 67) C dX12_depthOf_55 (by decide) (fun c_15 => ?_) (fun c_15 => ?_)
          · have zc_15 : x_14.toInt ≤ 0 := i_le rfl rfl c_15
            refine ww_iload C dX12_depthOf_67 2 rfl ?_
            refine ww_istore (lv' := [(5, .int 0), (2, .int (nI (tt - 1))), (6, .int 0), (4, .int x_6), (3, .int (nI j_5)), (0, .ref hm), (1, .int (nI sl))]) C dX12_depthOf_69 rfl rfl ?_
            refine ww_iinc (j := 2) (v := 1) (lv' := [(6, .int 1), (5, .int 0), (2, .int (nI (tt - 1))), (4, .int x_6), (3, .int (nI j_5)), (0, .ref hm), (1, .int (nI sl))]) C dX12_depthOf_71 rfl rfl rfl rfl ?_
            refine ww_goto (tgt := 34) C dX12_depthOf_74 (by decide) ?_
            refine ww_iload C dX12_depthOf_34 0 rfl ?_
            refine ww_iload C dX12_depthOf_36 3 rfl ?_
            refine ww_ci (wr := [(hm, .inr (12, [.ref m_manys, .ref m_reals, .ref m_factsOf, .ref m_possible, .int (nI q_undos), .int (nI q_models), .ref m_tape, .int (nI q_taped), .int q_fault, .int q_wrong, .int q_wrongAt, .int q_spot, .int q_place, .int q_token, .int q_value, .ref m_ends, .ref m_letters, .ref m_actOf, .ref m_whom, .ref m_actMany, .ref m_tokens, .ref m_afters, .ref m_afterOf, .int q_counted, .ref m_pile, .ref m_caseMany, .ref m_happen, .ref m_hasIf, .ref m_becomes, .ref m_goneOf, .ref m_heard, .ref m_pairs, .ref m_heaps, .int q_rounds, .int q_heapMany, .ref m_led, .ref m_newAt, .ref m_knowing, .ref m_firsts, .int (nI q_people), .ref m_secrets, .ref m_tried, .ref m_lanes, .ref m_lengths, .ref m_cells])), (m_actMany, .inl (E.2.1 1, 25, .inl f_actMany)), (m_actOf, .inl (E.2.1 1, 800, .inl f_actOf)), (m_pile, .inl (E.2.1 1, 34, .inl g1))]) (k' := 0) (n' := 0) C (run_S (As := [.int x_6]) (rest := [.int 1]) C (r_wantsOf X.2.1 E ro x_6 x_6.toInt rfl) ms_X12_wantsOf wl_X12_215 rfl rfl rfl rfl dX12_depthOf_38) (roK hro) [] [0, 1, 2, 3] rfl rfl rfl rfl (fun r_16 uz hw => ?_)
            rcases hw with ⟨rfl, rfl, h_17⟩ | ⟨rfl, rfl, h_18⟩ | ⟨rfl, rfl, h_19⟩
            · omega
            · refine ww_eq (ws' := [(hm, .inr (12, [.ref m_manys, .ref m_reals, .ref m_factsOf, .ref m_possible, .int (nI q_undos), .int (nI q_models), .ref m_tape, .int (nI q_taped), .int q_fault, .int q_wrong, .int q_wrongAt, .int q_spot, .int q_place, .int q_token, .int q_value, .ref m_ends, .ref m_letters, .ref m_actOf, .ref m_whom, .ref m_actMany, .ref m_tokens, .ref m_afters, .ref m_afterOf, .int q_counted, .ref m_pile, .ref m_caseMany, .ref m_happen, .ref m_hasIf, .ref m_becomes, .ref m_goneOf, .ref m_heard, .ref m_pairs, .ref m_heaps, .int q_rounds, .int q_heapMany, .ref m_led, .ref m_newAt, .ref m_knowing, .ref m_firsts, .int (nI q_people), .ref m_secrets, .ref m_tried, .ref m_lanes, .ref m_lengths, .ref m_cells])), (m_actMany, .inl (E.2.1 1, 25, .inl f_actMany)), (m_actOf, .inl (E.2.1 1, 800, .inl f_actOf)), (m_pile, .inl (E.2.1 1, 34, .inl g1))]) ?_ rfl rfl rfl
              refine ww_icmp_ge_f (tgt := 77) C dX12_depthOf_41 (by decide) (by decide) ?_
              refine ww_iinc (j := 2) (v := (nI ((tt - 1) - 1))) (lv' := [(2, .int (nI ((tt - 1) - 1))), (6, .int 1), (5, .int 0), (4, .int x_6), (3, .int (nI j_5)), (0, .ref hm), (1, .int (nI sl))]) C dX12_depthOf_44 rfl (nI_subc (a := (tt - 1)) (c := 1) (by omega) rfl) rfl rfl ?_
              refine ww_aload_n C dX12_depthOf_47 5 rfl rfl ?_
              refine ww_get C fg_X12_49 0 rfl rfl dX12_depthOf_48 ?_
              refine ww_iload_n C dX12_depthOf_51 0 rfl rfl ?_
              obtain ⟨x_20, ex_20⟩ : ∃ z : Int32, g1 ((tt - 1) - 1) = z := ⟨_, rfl⟩
              refine ww_iald (v := x_20) C 3 rfl (vp_in_nI (by omega) (by omega)) (ldn (by omega) ex_20) dX12_depthOf_52 ?_
              refine ww_iload C dX12_depthOf_53 2 rfl ?_
              refine ww_icmp_le (tgt := 67) C dX12_depthOf_55 (by decide) (fun c_21 => ?_) (fun c_21 => ?_)
              · have zc_21 : x_20.toInt ≤ 0 := i_le rfl rfl c_21
                refine ww_iload C dX12_depthOf_67 2 rfl ?_
                refine ww_istore (lv' := [(5, .int 0), (2, .int (nI ((tt - 1) - 1))), (6, .int 1), (4, .int x_6), (3, .int (nI j_5)), (0, .ref hm), (1, .int (nI sl))]) C dX12_depthOf_69 rfl rfl ?_
                refine ww_iinc (j := 2) (v := 2) (lv' := [(6, .int 2), (5, .int 0), (2, .int (nI ((tt - 1) - 1))), (4, .int x_6), (3, .int (nI j_5)), (0, .ref hm), (1, .int (nI sl))]) C dX12_depthOf_71 rfl rfl rfl rfl ?_
                refine ww_goto (tgt := 34) C dX12_depthOf_74 (by decide) ?_
                refine ww_iload C dX12_depthOf_34 0 rfl ?_
                refine ww_iload C dX12_depthOf_36 3 rfl ?_
                refine ww_ci (wr := [(hm, .inr (12, [.ref m_manys, .ref m_reals, .ref m_factsOf, .ref m_possible, .int (nI q_undos), .int (nI q_models), .ref m_tape, .int (nI q_taped), .int q_fault, .int q_wrong, .int q_wrongAt, .int q_spot, .int q_place, .int q_token, .int q_value, .ref m_ends, .ref m_letters, .ref m_actOf, .ref m_whom, .ref m_actMany, .ref m_tokens, .ref m_afters, .ref m_afterOf, .int q_counted, .ref m_pile, .ref m_caseMany, .ref m_happen, .ref m_hasIf, .ref m_becomes, .ref m_goneOf, .ref m_heard, .ref m_pairs, .ref m_heaps, .int q_rounds, .int q_heapMany, .ref m_led, .ref m_newAt, .ref m_knowing, .ref m_firsts, .int (nI q_people), .ref m_secrets, .ref m_tried, .ref m_lanes, .ref m_lengths, .ref m_cells])), (m_actMany, .inl (E.2.1 1, 25, .inl f_actMany)), (m_actOf, .inl (E.2.1 1, 800, .inl f_actOf)), (m_pile, .inl (E.2.1 1, 34, .inl g1))]) (k' := 0) (n' := 0) C (run_S (As := [.int x_6]) (rest := [.int 2]) C (r_wantsOf X.2.1 E ro x_6 x_6.toInt rfl) ms_X12_wantsOf wl_X12_215 rfl rfl rfl rfl dX12_depthOf_38) (roK hro) [] [0, 1, 2, 3] rfl rfl rfl rfl (fun r_22 uz hw => ?_)
                rcases hw with ⟨rfl, rfl, h_23⟩ | ⟨rfl, rfl, h_24⟩ | ⟨rfl, rfl, h_25⟩
                · omega
                · refine ww_eq (ws' := [(hm, .inr (12, [.ref m_manys, .ref m_reals, .ref m_factsOf, .ref m_possible, .int (nI q_undos), .int (nI q_models), .ref m_tape, .int (nI q_taped), .int q_fault, .int q_wrong, .int q_wrongAt, .int q_spot, .int q_place, .int q_token, .int q_value, .ref m_ends, .ref m_letters, .ref m_actOf, .ref m_whom, .ref m_actMany, .ref m_tokens, .ref m_afters, .ref m_afterOf, .int q_counted, .ref m_pile, .ref m_caseMany, .ref m_happen, .ref m_hasIf, .ref m_becomes, .ref m_goneOf, .ref m_heard, .ref m_pairs, .ref m_heaps, .int q_rounds, .int q_heapMany, .ref m_led, .ref m_newAt, .ref m_knowing, .ref m_firsts, .int (nI q_people), .ref m_secrets, .ref m_tried, .ref m_lanes, .ref m_lengths, .ref m_cells])), (m_actMany, .inl (E.2.1 1, 25, .inl f_actMany)), (m_actOf, .inl (E.2.1 1, 800, .inl f_actOf)), (m_pile, .inl (E.2.1 1, 34, .inl g1))]) ?_ rfl rfl rfl
                  refine ww_icmp_ge_t (tgt := 77) C dX12_depthOf_41 (by decide) (by decide) ?_
                  refine ww_aload_n C dX12_depthOf_77 5 rfl rfl ?_
                  refine ww_get C fg_X12_49 0 rfl rfl dX12_depthOf_78 ?_
                  refine ww_iload_n C dX12_depthOf_81 2 rfl rfl ?_
                  refine ww_iload C dX12_depthOf_82 3 rfl ?_
                  refine ww_bipush (v := 8) C dX12_depthOf_84 rfl ?_
                  refine ww_icmp_lt (tgt := 96) C dX12_depthOf_86 (by decide) (fun c_26 => ?_) (fun c_26 => ?_)
                  · have zc_26 : x_6.toInt < 8 := i_lt rfl rfl c_26
                    refine ww_iload C dX12_depthOf_96 1 rfl ?_
                    obtain ⟨f_27, ef_27⟩ : ∃ z : Nat → Int32, upd g1 ((tt - 1) - 1) 0 = z := ⟨_, rfl⟩
                    refine ww_iast (ws' := [(hm, .inr (12, [.ref m_manys, .ref m_reals, .ref m_factsOf, .ref m_possible, .int (nI q_undos), .int (nI q_models), .ref m_tape, .int (nI q_taped), .int q_fault, .int q_wrong, .int q_wrongAt, .int q_spot, .int q_place, .int q_token, .int q_value, .ref m_ends, .ref m_letters, .ref m_actOf, .ref m_whom, .ref m_actMany, .ref m_tokens, .ref m_afters, .ref m_afterOf, .int q_counted, .ref m_pile, .ref m_caseMany, .ref m_happen, .ref m_hasIf, .ref m_becomes, .ref m_goneOf, .ref m_heard, .ref m_pairs, .ref m_heaps, .int q_rounds, .int q_heapMany, .ref m_led, .ref m_newAt, .ref m_knowing, .ref m_firsts, .int (nI q_people), .ref m_secrets, .ref m_tried, .ref m_lanes, .ref m_lengths, .ref m_cells])), (m_actMany, .inl (E.2.1 1, 25, .inl f_actMany)), (m_actOf, .inl (E.2.1 1, 800, .inl f_actOf)), (m_pile, .inl (E.2.1 1, 34, .inl f_27))]) C 3 rfl (vp_in_nI (by omega) (by omega)) (ldn2 (by omega) ef_27) rfl dX12_depthOf_98 ?_
                    refine ww_iinc (j := 2) (v := (nI (((tt - 1) - 1) + 1))) (lv' := [(2, .int (nI (((tt - 1) - 1) + 1))), (6, .int 2), (5, .int 0), (4, .int x_6), (3, .int (nI j_5)), (0, .ref hm), (1, .int (nI sl))]) C dX12_depthOf_99 rfl (nI_add ((tt - 1) - 1) 1) rfl rfl ?_
                    obtain ⟨x_28, ex_28⟩ : ∃ z : Int32, (nI j_5) + Int32.ofInt (-1) = z := ⟨_, rfl⟩
                    have zx_28 : x_28.toInt = ((j_5 : Nat) : Int) - 1 := by rw [← ex_28]; exact i_dec (c := 1) (nI_toInt (n := j_5) (by omega)) rfl (by omega) (by omega)
                    refine ww_iinc (j := 4) (v := x_28) (lv' := [(3, .int x_28), (2, .int (nI (((tt - 1) - 1) + 1))), (6, .int 2), (5, .int 0), (4, .int x_6), (0, .ref hm), (1, .int (nI sl))]) C dX12_depthOf_102 rfl ex_28 rfl rfl ?_
                    refine ww_goto (tgt := 11) C dX12_depthOf_105 (by decide) ?_
                    exact ww_lv [0, 1, 5, 6] rfl (ww_sub [0, 1, 2, 3] rfl rfl (ih_11 x_28 j_5 (((tt - 1) - 1) + 1) f_27 (by omega) (by omega) (by omega) (by omega)))
                  · have zc_26 : x_6.toInt ≥ 8 := i_nlt rfl rfl c_26
                    omega
                · refine ww_eq (ws' := [(hm, .inr (12, [.ref m_manys, .ref m_reals, .ref m_factsOf, .ref m_possible, .int (nI q_undos), .int (nI q_models), .ref m_tape, .int (nI q_taped), .int q_fault, .int q_wrong, .int q_wrongAt, .int q_spot, .int q_place, .int q_token, .int q_value, .ref m_ends, .ref m_letters, .ref m_actOf, .ref m_whom, .ref m_actMany, .ref m_tokens, .ref m_afters, .ref m_afterOf, .int q_counted, .ref m_pile, .ref m_caseMany, .ref m_happen, .ref m_hasIf, .ref m_becomes, .ref m_goneOf, .ref m_heard, .ref m_pairs, .ref m_heaps, .int q_rounds, .int q_heapMany, .ref m_led, .ref m_newAt, .ref m_knowing, .ref m_firsts, .int (nI q_people), .ref m_secrets, .ref m_tried, .ref m_lanes, .ref m_lengths, .ref m_cells])), (m_actMany, .inl (E.2.1 1, 25, .inl f_actMany)), (m_actOf, .inl (E.2.1 1, 800, .inl f_actOf)), (m_pile, .inl (E.2.1 1, 34, .inl g1))]) ?_ rfl rfl rfl
                  refine ww_icmp_ge_t (tgt := 77) C dX12_depthOf_41 (by decide) (by decide) ?_
                  refine ww_aload_n C dX12_depthOf_77 5 rfl rfl ?_
                  refine ww_get C fg_X12_49 0 rfl rfl dX12_depthOf_78 ?_
                  refine ww_iload_n C dX12_depthOf_81 2 rfl rfl ?_
                  refine ww_iload C dX12_depthOf_82 3 rfl ?_
                  refine ww_bipush (v := 8) C dX12_depthOf_84 rfl ?_
                  refine ww_icmp_lt (tgt := 96) C dX12_depthOf_86 (by decide) (fun c_29 => ?_) (fun c_29 => ?_)
                  · have zc_29 : x_6.toInt < 8 := i_lt rfl rfl c_29
                    refine ww_iload C dX12_depthOf_96 1 rfl ?_
                    obtain ⟨f_30, ef_30⟩ : ∃ z : Nat → Int32, upd g1 ((tt - 1) - 1) 0 = z := ⟨_, rfl⟩
                    refine ww_iast (ws' := [(hm, .inr (12, [.ref m_manys, .ref m_reals, .ref m_factsOf, .ref m_possible, .int (nI q_undos), .int (nI q_models), .ref m_tape, .int (nI q_taped), .int q_fault, .int q_wrong, .int q_wrongAt, .int q_spot, .int q_place, .int q_token, .int q_value, .ref m_ends, .ref m_letters, .ref m_actOf, .ref m_whom, .ref m_actMany, .ref m_tokens, .ref m_afters, .ref m_afterOf, .int q_counted, .ref m_pile, .ref m_caseMany, .ref m_happen, .ref m_hasIf, .ref m_becomes, .ref m_goneOf, .ref m_heard, .ref m_pairs, .ref m_heaps, .int q_rounds, .int q_heapMany, .ref m_led, .ref m_newAt, .ref m_knowing, .ref m_firsts, .int (nI q_people), .ref m_secrets, .ref m_tried, .ref m_lanes, .ref m_lengths, .ref m_cells])), (m_actMany, .inl (E.2.1 1, 25, .inl f_actMany)), (m_actOf, .inl (E.2.1 1, 800, .inl f_actOf)), (m_pile, .inl (E.2.1 1, 34, .inl f_30))]) C 3 rfl (vp_in_nI (by omega) (by omega)) (ldn2 (by omega) ef_30) rfl dX12_depthOf_98 ?_
                    refine ww_iinc (j := 2) (v := (nI (((tt - 1) - 1) + 1))) (lv' := [(2, .int (nI (((tt - 1) - 1) + 1))), (6, .int 2), (5, .int 0), (4, .int x_6), (3, .int (nI j_5)), (0, .ref hm), (1, .int (nI sl))]) C dX12_depthOf_99 rfl (nI_add ((tt - 1) - 1) 1) rfl rfl ?_
                    obtain ⟨x_31, ex_31⟩ : ∃ z : Int32, (nI j_5) + Int32.ofInt (-1) = z := ⟨_, rfl⟩
                    have zx_31 : x_31.toInt = ((j_5 : Nat) : Int) - 1 := by rw [← ex_31]; exact i_dec (c := 1) (nI_toInt (n := j_5) (by omega)) rfl (by omega) (by omega)
                    refine ww_iinc (j := 4) (v := x_31) (lv' := [(3, .int x_31), (2, .int (nI (((tt - 1) - 1) + 1))), (6, .int 2), (5, .int 0), (4, .int x_6), (0, .ref hm), (1, .int (nI sl))]) C dX12_depthOf_102 rfl ex_31 rfl rfl ?_
                    refine ww_goto (tgt := 11) C dX12_depthOf_105 (by decide) ?_
                    exact ww_lv [0, 1, 5, 6] rfl (ww_sub [0, 1, 2, 3] rfl rfl (ih_11 x_31 j_5 (((tt - 1) - 1) + 1) f_30 (by omega) (by omega) (by omega) (by omega)))
                  · have zc_29 : x_6.toInt ≥ 8 := i_nlt rfl rfl c_29
                    omega
              · have zc_21 : x_20.toInt > 0 := i_nle rfl rfl c_21
                refine ww_aload_n C dX12_depthOf_58 5 rfl rfl ?_
                refine ww_get C fg_X12_49 0 rfl rfl dX12_depthOf_59 ?_
                refine ww_iload_n C dX12_depthOf_62 0 rfl rfl ?_
                obtain ⟨x_32, ex_32⟩ : ∃ z : Int32, g1 ((tt - 1) - 1) = z := ⟨_, rfl⟩
                refine ww_iald (v := x_32) C 3 rfl (vp_in_nI (by omega) (by omega)) (ldn (by omega) ex_32) dX12_depthOf_63 ?_
                refine ww_goto (tgt := 69) C dX12_depthOf_64 (by decide) ?_
                refine ww_istore (lv' := [(5, .int x_32), (2, .int (nI ((tt - 1) - 1))), (6, .int 1), (4, .int x_6), (3, .int (nI j_5)), (0, .ref hm), (1, .int (nI sl))]) C dX12_depthOf_69 rfl rfl ?_
                refine ww_iinc (j := 2) (v := 2) (lv' := [(6, .int 2), (5, .int x_32), (2, .int (nI ((tt - 1) - 1))), (4, .int x_6), (3, .int (nI j_5)), (0, .ref hm), (1, .int (nI sl))]) C dX12_depthOf_71 rfl rfl rfl rfl ?_
                refine ww_goto (tgt := 34) C dX12_depthOf_74 (by decide) ?_
                refine ww_iload C dX12_depthOf_34 0 rfl ?_
                refine ww_iload C dX12_depthOf_36 3 rfl ?_
                refine ww_ci (wr := [(hm, .inr (12, [.ref m_manys, .ref m_reals, .ref m_factsOf, .ref m_possible, .int (nI q_undos), .int (nI q_models), .ref m_tape, .int (nI q_taped), .int q_fault, .int q_wrong, .int q_wrongAt, .int q_spot, .int q_place, .int q_token, .int q_value, .ref m_ends, .ref m_letters, .ref m_actOf, .ref m_whom, .ref m_actMany, .ref m_tokens, .ref m_afters, .ref m_afterOf, .int q_counted, .ref m_pile, .ref m_caseMany, .ref m_happen, .ref m_hasIf, .ref m_becomes, .ref m_goneOf, .ref m_heard, .ref m_pairs, .ref m_heaps, .int q_rounds, .int q_heapMany, .ref m_led, .ref m_newAt, .ref m_knowing, .ref m_firsts, .int (nI q_people), .ref m_secrets, .ref m_tried, .ref m_lanes, .ref m_lengths, .ref m_cells])), (m_actMany, .inl (E.2.1 1, 25, .inl f_actMany)), (m_actOf, .inl (E.2.1 1, 800, .inl f_actOf)), (m_pile, .inl (E.2.1 1, 34, .inl g1))]) (k' := 0) (n' := 0) C (run_S (As := [.int x_6]) (rest := [.int 2]) C (r_wantsOf X.2.1 E ro x_6 x_6.toInt rfl) ms_X12_wantsOf wl_X12_215 rfl rfl rfl rfl dX12_depthOf_38) (roK hro) [] [0, 1, 2, 3] rfl rfl rfl rfl (fun r_33 uz hw => ?_)
                rcases hw with ⟨rfl, rfl, h_34⟩ | ⟨rfl, rfl, h_35⟩ | ⟨rfl, rfl, h_36⟩
                · omega
                · refine ww_eq (ws' := [(hm, .inr (12, [.ref m_manys, .ref m_reals, .ref m_factsOf, .ref m_possible, .int (nI q_undos), .int (nI q_models), .ref m_tape, .int (nI q_taped), .int q_fault, .int q_wrong, .int q_wrongAt, .int q_spot, .int q_place, .int q_token, .int q_value, .ref m_ends, .ref m_letters, .ref m_actOf, .ref m_whom, .ref m_actMany, .ref m_tokens, .ref m_afters, .ref m_afterOf, .int q_counted, .ref m_pile, .ref m_caseMany, .ref m_happen, .ref m_hasIf, .ref m_becomes, .ref m_goneOf, .ref m_heard, .ref m_pairs, .ref m_heaps, .int q_rounds, .int q_heapMany, .ref m_led, .ref m_newAt, .ref m_knowing, .ref m_firsts, .int (nI q_people), .ref m_secrets, .ref m_tried, .ref m_lanes, .ref m_lengths, .ref m_cells])), (m_actMany, .inl (E.2.1 1, 25, .inl f_actMany)), (m_actOf, .inl (E.2.1 1, 800, .inl f_actOf)), (m_pile, .inl (E.2.1 1, 34, .inl g1))]) ?_ rfl rfl rfl
                  refine ww_icmp_ge_t (tgt := 77) C dX12_depthOf_41 (by decide) (by decide) ?_
                  refine ww_aload_n C dX12_depthOf_77 5 rfl rfl ?_
                  refine ww_get C fg_X12_49 0 rfl rfl dX12_depthOf_78 ?_
                  refine ww_iload_n C dX12_depthOf_81 2 rfl rfl ?_
                  refine ww_iload C dX12_depthOf_82 3 rfl ?_
                  refine ww_bipush (v := 8) C dX12_depthOf_84 rfl ?_
                  refine ww_icmp_lt (tgt := 96) C dX12_depthOf_86 (by decide) (fun c_37 => ?_) (fun c_37 => ?_)
                  · have zc_37 : x_6.toInt < 8 := i_lt rfl rfl c_37
                    refine ww_iload C dX12_depthOf_96 1 rfl ?_
                    obtain ⟨f_38, ef_38⟩ : ∃ z : Nat → Int32, upd g1 ((tt - 1) - 1) x_32 = z := ⟨_, rfl⟩
                    refine ww_iast (ws' := [(hm, .inr (12, [.ref m_manys, .ref m_reals, .ref m_factsOf, .ref m_possible, .int (nI q_undos), .int (nI q_models), .ref m_tape, .int (nI q_taped), .int q_fault, .int q_wrong, .int q_wrongAt, .int q_spot, .int q_place, .int q_token, .int q_value, .ref m_ends, .ref m_letters, .ref m_actOf, .ref m_whom, .ref m_actMany, .ref m_tokens, .ref m_afters, .ref m_afterOf, .int q_counted, .ref m_pile, .ref m_caseMany, .ref m_happen, .ref m_hasIf, .ref m_becomes, .ref m_goneOf, .ref m_heard, .ref m_pairs, .ref m_heaps, .int q_rounds, .int q_heapMany, .ref m_led, .ref m_newAt, .ref m_knowing, .ref m_firsts, .int (nI q_people), .ref m_secrets, .ref m_tried, .ref m_lanes, .ref m_lengths, .ref m_cells])), (m_actMany, .inl (E.2.1 1, 25, .inl f_actMany)), (m_actOf, .inl (E.2.1 1, 800, .inl f_actOf)), (m_pile, .inl (E.2.1 1, 34, .inl f_38))]) C 3 rfl (vp_in_nI (by omega) (by omega)) (ldn2 (by omega) ef_38) rfl dX12_depthOf_98 ?_
                    refine ww_iinc (j := 2) (v := (nI (((tt - 1) - 1) + 1))) (lv' := [(2, .int (nI (((tt - 1) - 1) + 1))), (6, .int 2), (5, .int x_32), (4, .int x_6), (3, .int (nI j_5)), (0, .ref hm), (1, .int (nI sl))]) C dX12_depthOf_99 rfl (nI_add ((tt - 1) - 1) 1) rfl rfl ?_
                    obtain ⟨x_39, ex_39⟩ : ∃ z : Int32, (nI j_5) + Int32.ofInt (-1) = z := ⟨_, rfl⟩
                    have zx_39 : x_39.toInt = ((j_5 : Nat) : Int) - 1 := by rw [← ex_39]; exact i_dec (c := 1) (nI_toInt (n := j_5) (by omega)) rfl (by omega) (by omega)
                    refine ww_iinc (j := 4) (v := x_39) (lv' := [(3, .int x_39), (2, .int (nI (((tt - 1) - 1) + 1))), (6, .int 2), (5, .int x_32), (4, .int x_6), (0, .ref hm), (1, .int (nI sl))]) C dX12_depthOf_102 rfl ex_39 rfl rfl ?_
                    refine ww_goto (tgt := 11) C dX12_depthOf_105 (by decide) ?_
                    exact ww_lv [0, 1, 5, 6] rfl (ww_sub [0, 1, 2, 3] rfl rfl (ih_11 x_39 j_5 (((tt - 1) - 1) + 1) f_38 (by omega) (by omega) (by omega) (by omega)))
                  · have zc_37 : x_6.toInt ≥ 8 := i_nlt rfl rfl c_37
                    omega
                · refine ww_eq (ws' := [(hm, .inr (12, [.ref m_manys, .ref m_reals, .ref m_factsOf, .ref m_possible, .int (nI q_undos), .int (nI q_models), .ref m_tape, .int (nI q_taped), .int q_fault, .int q_wrong, .int q_wrongAt, .int q_spot, .int q_place, .int q_token, .int q_value, .ref m_ends, .ref m_letters, .ref m_actOf, .ref m_whom, .ref m_actMany, .ref m_tokens, .ref m_afters, .ref m_afterOf, .int q_counted, .ref m_pile, .ref m_caseMany, .ref m_happen, .ref m_hasIf, .ref m_becomes, .ref m_goneOf, .ref m_heard, .ref m_pairs, .ref m_heaps, .int q_rounds, .int q_heapMany, .ref m_led, .ref m_newAt, .ref m_knowing, .ref m_firsts, .int (nI q_people), .ref m_secrets, .ref m_tried, .ref m_lanes, .ref m_lengths, .ref m_cells])), (m_actMany, .inl (E.2.1 1, 25, .inl f_actMany)), (m_actOf, .inl (E.2.1 1, 800, .inl f_actOf)), (m_pile, .inl (E.2.1 1, 34, .inl g1))]) ?_ rfl rfl rfl
                  refine ww_icmp_ge_t (tgt := 77) C dX12_depthOf_41 (by decide) (by decide) ?_
                  refine ww_aload_n C dX12_depthOf_77 5 rfl rfl ?_
                  refine ww_get C fg_X12_49 0 rfl rfl dX12_depthOf_78 ?_
                  refine ww_iload_n C dX12_depthOf_81 2 rfl rfl ?_
                  refine ww_iload C dX12_depthOf_82 3 rfl ?_
                  refine ww_bipush (v := 8) C dX12_depthOf_84 rfl ?_
                  refine ww_icmp_lt (tgt := 96) C dX12_depthOf_86 (by decide) (fun c_40 => ?_) (fun c_40 => ?_)
                  · have zc_40 : x_6.toInt < 8 := i_lt rfl rfl c_40
                    refine ww_iload C dX12_depthOf_96 1 rfl ?_
                    obtain ⟨f_41, ef_41⟩ : ∃ z : Nat → Int32, upd g1 ((tt - 1) - 1) x_32 = z := ⟨_, rfl⟩
                    refine ww_iast (ws' := [(hm, .inr (12, [.ref m_manys, .ref m_reals, .ref m_factsOf, .ref m_possible, .int (nI q_undos), .int (nI q_models), .ref m_tape, .int (nI q_taped), .int q_fault, .int q_wrong, .int q_wrongAt, .int q_spot, .int q_place, .int q_token, .int q_value, .ref m_ends, .ref m_letters, .ref m_actOf, .ref m_whom, .ref m_actMany, .ref m_tokens, .ref m_afters, .ref m_afterOf, .int q_counted, .ref m_pile, .ref m_caseMany, .ref m_happen, .ref m_hasIf, .ref m_becomes, .ref m_goneOf, .ref m_heard, .ref m_pairs, .ref m_heaps, .int q_rounds, .int q_heapMany, .ref m_led, .ref m_newAt, .ref m_knowing, .ref m_firsts, .int (nI q_people), .ref m_secrets, .ref m_tried, .ref m_lanes, .ref m_lengths, .ref m_cells])), (m_actMany, .inl (E.2.1 1, 25, .inl f_actMany)), (m_actOf, .inl (E.2.1 1, 800, .inl f_actOf)), (m_pile, .inl (E.2.1 1, 34, .inl f_41))]) C 3 rfl (vp_in_nI (by omega) (by omega)) (ldn2 (by omega) ef_41) rfl dX12_depthOf_98 ?_
                    refine ww_iinc (j := 2) (v := (nI (((tt - 1) - 1) + 1))) (lv' := [(2, .int (nI (((tt - 1) - 1) + 1))), (6, .int 2), (5, .int x_32), (4, .int x_6), (3, .int (nI j_5)), (0, .ref hm), (1, .int (nI sl))]) C dX12_depthOf_99 rfl (nI_add ((tt - 1) - 1) 1) rfl rfl ?_
                    obtain ⟨x_42, ex_42⟩ : ∃ z : Int32, (nI j_5) + Int32.ofInt (-1) = z := ⟨_, rfl⟩
                    have zx_42 : x_42.toInt = ((j_5 : Nat) : Int) - 1 := by rw [← ex_42]; exact i_dec (c := 1) (nI_toInt (n := j_5) (by omega)) rfl (by omega) (by omega)
                    refine ww_iinc (j := 4) (v := x_42) (lv' := [(3, .int x_42), (2, .int (nI (((tt - 1) - 1) + 1))), (6, .int 2), (5, .int x_32), (4, .int x_6), (0, .ref hm), (1, .int (nI sl))]) C dX12_depthOf_102 rfl ex_42 rfl rfl ?_
                    refine ww_goto (tgt := 11) C dX12_depthOf_105 (by decide) ?_
                    exact ww_lv [0, 1, 5, 6] rfl (ww_sub [0, 1, 2, 3] rfl rfl (ih_11 x_42 j_5 (((tt - 1) - 1) + 1) f_41 (by omega) (by omega) (by omega) (by omega)))
                  · have zc_40 : x_6.toInt ≥ 8 := i_nlt rfl rfl c_40
                    omega
            · refine ww_eq (ws' := [(hm, .inr (12, [.ref m_manys, .ref m_reals, .ref m_factsOf, .ref m_possible, .int (nI q_undos), .int (nI q_models), .ref m_tape, .int (nI q_taped), .int q_fault, .int q_wrong, .int q_wrongAt, .int q_spot, .int q_place, .int q_token, .int q_value, .ref m_ends, .ref m_letters, .ref m_actOf, .ref m_whom, .ref m_actMany, .ref m_tokens, .ref m_afters, .ref m_afterOf, .int q_counted, .ref m_pile, .ref m_caseMany, .ref m_happen, .ref m_hasIf, .ref m_becomes, .ref m_goneOf, .ref m_heard, .ref m_pairs, .ref m_heaps, .int q_rounds, .int q_heapMany, .ref m_led, .ref m_newAt, .ref m_knowing, .ref m_firsts, .int (nI q_people), .ref m_secrets, .ref m_tried, .ref m_lanes, .ref m_lengths, .ref m_cells])), (m_actMany, .inl (E.2.1 1, 25, .inl f_actMany)), (m_actOf, .inl (E.2.1 1, 800, .inl f_actOf)), (m_pile, .inl (E.2.1 1, 34, .inl g1))]) ?_ rfl rfl rfl
              refine ww_icmp_ge_t (tgt := 77) C dX12_depthOf_41 (by decide) (by decide) ?_
              refine ww_aload_n C dX12_depthOf_77 5 rfl rfl ?_
              refine ww_get C fg_X12_49 0 rfl rfl dX12_depthOf_78 ?_
              refine ww_iload_n C dX12_depthOf_81 2 rfl rfl ?_
              refine ww_iload C dX12_depthOf_82 3 rfl ?_
              refine ww_bipush (v := 8) C dX12_depthOf_84 rfl ?_
              refine ww_icmp_lt (tgt := 96) C dX12_depthOf_86 (by decide) (fun c_43 => ?_) (fun c_43 => ?_)
              · have zc_43 : x_6.toInt < 8 := i_lt rfl rfl c_43
                refine ww_iload C dX12_depthOf_96 1 rfl ?_
                obtain ⟨f_44, ef_44⟩ : ∃ z : Nat → Int32, upd g1 (tt - 1) 0 = z := ⟨_, rfl⟩
                refine ww_iast (ws' := [(hm, .inr (12, [.ref m_manys, .ref m_reals, .ref m_factsOf, .ref m_possible, .int (nI q_undos), .int (nI q_models), .ref m_tape, .int (nI q_taped), .int q_fault, .int q_wrong, .int q_wrongAt, .int q_spot, .int q_place, .int q_token, .int q_value, .ref m_ends, .ref m_letters, .ref m_actOf, .ref m_whom, .ref m_actMany, .ref m_tokens, .ref m_afters, .ref m_afterOf, .int q_counted, .ref m_pile, .ref m_caseMany, .ref m_happen, .ref m_hasIf, .ref m_becomes, .ref m_goneOf, .ref m_heard, .ref m_pairs, .ref m_heaps, .int q_rounds, .int q_heapMany, .ref m_led, .ref m_newAt, .ref m_knowing, .ref m_firsts, .int (nI q_people), .ref m_secrets, .ref m_tried, .ref m_lanes, .ref m_lengths, .ref m_cells])), (m_actMany, .inl (E.2.1 1, 25, .inl f_actMany)), (m_actOf, .inl (E.2.1 1, 800, .inl f_actOf)), (m_pile, .inl (E.2.1 1, 34, .inl f_44))]) C 3 rfl (vp_in_nI (by omega) (by omega)) (ldn2 (by omega) ef_44) rfl dX12_depthOf_98 ?_
                refine ww_iinc (j := 2) (v := (nI ((tt - 1) + 1))) (lv' := [(2, .int (nI ((tt - 1) + 1))), (6, .int 1), (5, .int 0), (4, .int x_6), (3, .int (nI j_5)), (0, .ref hm), (1, .int (nI sl))]) C dX12_depthOf_99 rfl (nI_add (tt - 1) 1) rfl rfl ?_
                obtain ⟨x_45, ex_45⟩ : ∃ z : Int32, (nI j_5) + Int32.ofInt (-1) = z := ⟨_, rfl⟩
                have zx_45 : x_45.toInt = ((j_5 : Nat) : Int) - 1 := by rw [← ex_45]; exact i_dec (c := 1) (nI_toInt (n := j_5) (by omega)) rfl (by omega) (by omega)
                refine ww_iinc (j := 4) (v := x_45) (lv' := [(3, .int x_45), (2, .int (nI ((tt - 1) + 1))), (6, .int 1), (5, .int 0), (4, .int x_6), (0, .ref hm), (1, .int (nI sl))]) C dX12_depthOf_102 rfl ex_45 rfl rfl ?_
                refine ww_goto (tgt := 11) C dX12_depthOf_105 (by decide) ?_
                exact ww_lv [0, 1, 5, 6] rfl (ww_sub [0, 1, 2, 3] rfl rfl (ih_11 x_45 j_5 ((tt - 1) + 1) f_44 (by omega) (by omega) (by omega) (by omega)))
              · have zc_43 : x_6.toInt ≥ 8 := i_nlt rfl rfl c_43
                omega
          · have zc_15 : x_14.toInt > 0 := i_nle rfl rfl c_15
            refine ww_aload_n C dX12_depthOf_58 5 rfl rfl ?_
            refine ww_get C fg_X12_49 0 rfl rfl dX12_depthOf_59 ?_
            refine ww_iload_n C dX12_depthOf_62 0 rfl rfl ?_
            obtain ⟨x_46, ex_46⟩ : ∃ z : Int32, g1 (tt - 1) = z := ⟨_, rfl⟩
            refine ww_iald (v := x_46) C 3 rfl (vp_in_nI (by omega) (by omega)) (ldn (by omega) ex_46) dX12_depthOf_63 ?_
            refine ww_goto (tgt := 69) C dX12_depthOf_64 (by decide) ?_
            refine ww_istore (lv' := [(5, .int x_46), (2, .int (nI (tt - 1))), (6, .int 0), (4, .int x_6), (3, .int (nI j_5)), (0, .ref hm), (1, .int (nI sl))]) C dX12_depthOf_69 rfl rfl ?_
            refine ww_iinc (j := 2) (v := 1) (lv' := [(6, .int 1), (5, .int x_46), (2, .int (nI (tt - 1))), (4, .int x_6), (3, .int (nI j_5)), (0, .ref hm), (1, .int (nI sl))]) C dX12_depthOf_71 rfl rfl rfl rfl ?_
            refine ww_goto (tgt := 34) C dX12_depthOf_74 (by decide) ?_
            refine ww_iload C dX12_depthOf_34 0 rfl ?_
            refine ww_iload C dX12_depthOf_36 3 rfl ?_
            refine ww_ci (wr := [(hm, .inr (12, [.ref m_manys, .ref m_reals, .ref m_factsOf, .ref m_possible, .int (nI q_undos), .int (nI q_models), .ref m_tape, .int (nI q_taped), .int q_fault, .int q_wrong, .int q_wrongAt, .int q_spot, .int q_place, .int q_token, .int q_value, .ref m_ends, .ref m_letters, .ref m_actOf, .ref m_whom, .ref m_actMany, .ref m_tokens, .ref m_afters, .ref m_afterOf, .int q_counted, .ref m_pile, .ref m_caseMany, .ref m_happen, .ref m_hasIf, .ref m_becomes, .ref m_goneOf, .ref m_heard, .ref m_pairs, .ref m_heaps, .int q_rounds, .int q_heapMany, .ref m_led, .ref m_newAt, .ref m_knowing, .ref m_firsts, .int (nI q_people), .ref m_secrets, .ref m_tried, .ref m_lanes, .ref m_lengths, .ref m_cells])), (m_actMany, .inl (E.2.1 1, 25, .inl f_actMany)), (m_actOf, .inl (E.2.1 1, 800, .inl f_actOf)), (m_pile, .inl (E.2.1 1, 34, .inl g1))]) (k' := 0) (n' := 0) C (run_S (As := [.int x_6]) (rest := [.int 1]) C (r_wantsOf X.2.1 E ro x_6 x_6.toInt rfl) ms_X12_wantsOf wl_X12_215 rfl rfl rfl rfl dX12_depthOf_38) (roK hro) [] [0, 1, 2, 3] rfl rfl rfl rfl (fun r_47 uz hw => ?_)
            rcases hw with ⟨rfl, rfl, h_48⟩ | ⟨rfl, rfl, h_49⟩ | ⟨rfl, rfl, h_50⟩
            · omega
            · refine ww_eq (ws' := [(hm, .inr (12, [.ref m_manys, .ref m_reals, .ref m_factsOf, .ref m_possible, .int (nI q_undos), .int (nI q_models), .ref m_tape, .int (nI q_taped), .int q_fault, .int q_wrong, .int q_wrongAt, .int q_spot, .int q_place, .int q_token, .int q_value, .ref m_ends, .ref m_letters, .ref m_actOf, .ref m_whom, .ref m_actMany, .ref m_tokens, .ref m_afters, .ref m_afterOf, .int q_counted, .ref m_pile, .ref m_caseMany, .ref m_happen, .ref m_hasIf, .ref m_becomes, .ref m_goneOf, .ref m_heard, .ref m_pairs, .ref m_heaps, .int q_rounds, .int q_heapMany, .ref m_led, .ref m_newAt, .ref m_knowing, .ref m_firsts, .int (nI q_people), .ref m_secrets, .ref m_tried, .ref m_lanes, .ref m_lengths, .ref m_cells])), (m_actMany, .inl (E.2.1 1, 25, .inl f_actMany)), (m_actOf, .inl (E.2.1 1, 800, .inl f_actOf)), (m_pile, .inl (E.2.1 1, 34, .inl g1))]) ?_ rfl rfl rfl
              refine ww_icmp_ge_f (tgt := 77) C dX12_depthOf_41 (by decide) (by decide) ?_
              refine ww_iinc (j := 2) (v := (nI ((tt - 1) - 1))) (lv' := [(2, .int (nI ((tt - 1) - 1))), (6, .int 1), (5, .int x_46), (4, .int x_6), (3, .int (nI j_5)), (0, .ref hm), (1, .int (nI sl))]) C dX12_depthOf_44 rfl (nI_subc (a := (tt - 1)) (c := 1) (by omega) rfl) rfl rfl ?_
              refine ww_aload_n C dX12_depthOf_47 5 rfl rfl ?_
              refine ww_get C fg_X12_49 0 rfl rfl dX12_depthOf_48 ?_
              refine ww_iload_n C dX12_depthOf_51 0 rfl rfl ?_
              obtain ⟨x_51, ex_51⟩ : ∃ z : Int32, g1 ((tt - 1) - 1) = z := ⟨_, rfl⟩
              refine ww_iald (v := x_51) C 3 rfl (vp_in_nI (by omega) (by omega)) (ldn (by omega) ex_51) dX12_depthOf_52 ?_
              refine ww_iload C dX12_depthOf_53 2 rfl ?_
              refine ww_icmp_le (tgt := 67) C dX12_depthOf_55 (by decide) (fun c_52 => ?_) (fun c_52 => ?_)
              · have zc_52 : x_51.toInt ≤ x_46.toInt := i_le rfl rfl c_52
                refine ww_iload C dX12_depthOf_67 2 rfl ?_
                refine ww_istore (lv' := [(5, .int x_46), (2, .int (nI ((tt - 1) - 1))), (6, .int 1), (4, .int x_6), (3, .int (nI j_5)), (0, .ref hm), (1, .int (nI sl))]) C dX12_depthOf_69 rfl rfl ?_
                refine ww_iinc (j := 2) (v := 2) (lv' := [(6, .int 2), (5, .int x_46), (2, .int (nI ((tt - 1) - 1))), (4, .int x_6), (3, .int (nI j_5)), (0, .ref hm), (1, .int (nI sl))]) C dX12_depthOf_71 rfl rfl rfl rfl ?_
                refine ww_goto (tgt := 34) C dX12_depthOf_74 (by decide) ?_
                refine ww_iload C dX12_depthOf_34 0 rfl ?_
                refine ww_iload C dX12_depthOf_36 3 rfl ?_
                refine ww_ci (wr := [(hm, .inr (12, [.ref m_manys, .ref m_reals, .ref m_factsOf, .ref m_possible, .int (nI q_undos), .int (nI q_models), .ref m_tape, .int (nI q_taped), .int q_fault, .int q_wrong, .int q_wrongAt, .int q_spot, .int q_place, .int q_token, .int q_value, .ref m_ends, .ref m_letters, .ref m_actOf, .ref m_whom, .ref m_actMany, .ref m_tokens, .ref m_afters, .ref m_afterOf, .int q_counted, .ref m_pile, .ref m_caseMany, .ref m_happen, .ref m_hasIf, .ref m_becomes, .ref m_goneOf, .ref m_heard, .ref m_pairs, .ref m_heaps, .int q_rounds, .int q_heapMany, .ref m_led, .ref m_newAt, .ref m_knowing, .ref m_firsts, .int (nI q_people), .ref m_secrets, .ref m_tried, .ref m_lanes, .ref m_lengths, .ref m_cells])), (m_actMany, .inl (E.2.1 1, 25, .inl f_actMany)), (m_actOf, .inl (E.2.1 1, 800, .inl f_actOf)), (m_pile, .inl (E.2.1 1, 34, .inl g1))]) (k' := 0) (n' := 0) C (run_S (As := [.int x_6]) (rest := [.int 2]) C (r_wantsOf X.2.1 E ro x_6 x_6.toInt rfl) ms_X12_wantsOf wl_X12_215 rfl rfl rfl rfl dX12_depthOf_38) (roK hro) [] [0, 1, 2, 3] rfl rfl rfl rfl (fun r_53 uz hw => ?_)
                rcases hw with ⟨rfl, rfl, h_54⟩ | ⟨rfl, rfl, h_55⟩ | ⟨rfl, rfl, h_56⟩
                · omega
                · refine ww_eq (ws' := [(hm, .inr (12, [.ref m_manys, .ref m_reals, .ref m_factsOf, .ref m_possible, .int (nI q_undos), .int (nI q_models), .ref m_tape, .int (nI q_taped), .int q_fault, .int q_wrong, .int q_wrongAt, .int q_spot, .int q_place, .int q_token, .int q_value, .ref m_ends, .ref m_letters, .ref m_actOf, .ref m_whom, .ref m_actMany, .ref m_tokens, .ref m_afters, .ref m_afterOf, .int q_counted, .ref m_pile, .ref m_caseMany, .ref m_happen, .ref m_hasIf, .ref m_becomes, .ref m_goneOf, .ref m_heard, .ref m_pairs, .ref m_heaps, .int q_rounds, .int q_heapMany, .ref m_led, .ref m_newAt, .ref m_knowing, .ref m_firsts, .int (nI q_people), .ref m_secrets, .ref m_tried, .ref m_lanes, .ref m_lengths, .ref m_cells])), (m_actMany, .inl (E.2.1 1, 25, .inl f_actMany)), (m_actOf, .inl (E.2.1 1, 800, .inl f_actOf)), (m_pile, .inl (E.2.1 1, 34, .inl g1))]) ?_ rfl rfl rfl
                  refine ww_icmp_ge_t (tgt := 77) C dX12_depthOf_41 (by decide) (by decide) ?_
                  refine ww_aload_n C dX12_depthOf_77 5 rfl rfl ?_
                  refine ww_get C fg_X12_49 0 rfl rfl dX12_depthOf_78 ?_
                  refine ww_iload_n C dX12_depthOf_81 2 rfl rfl ?_
                  refine ww_iload C dX12_depthOf_82 3 rfl ?_
                  refine ww_bipush (v := 8) C dX12_depthOf_84 rfl ?_
                  refine ww_icmp_lt (tgt := 96) C dX12_depthOf_86 (by decide) (fun c_57 => ?_) (fun c_57 => ?_)
                  · have zc_57 : x_6.toInt < 8 := i_lt rfl rfl c_57
                    refine ww_iload C dX12_depthOf_96 1 rfl ?_
                    obtain ⟨f_58, ef_58⟩ : ∃ z : Nat → Int32, upd g1 ((tt - 1) - 1) x_46 = z := ⟨_, rfl⟩
                    refine ww_iast (ws' := [(hm, .inr (12, [.ref m_manys, .ref m_reals, .ref m_factsOf, .ref m_possible, .int (nI q_undos), .int (nI q_models), .ref m_tape, .int (nI q_taped), .int q_fault, .int q_wrong, .int q_wrongAt, .int q_spot, .int q_place, .int q_token, .int q_value, .ref m_ends, .ref m_letters, .ref m_actOf, .ref m_whom, .ref m_actMany, .ref m_tokens, .ref m_afters, .ref m_afterOf, .int q_counted, .ref m_pile, .ref m_caseMany, .ref m_happen, .ref m_hasIf, .ref m_becomes, .ref m_goneOf, .ref m_heard, .ref m_pairs, .ref m_heaps, .int q_rounds, .int q_heapMany, .ref m_led, .ref m_newAt, .ref m_knowing, .ref m_firsts, .int (nI q_people), .ref m_secrets, .ref m_tried, .ref m_lanes, .ref m_lengths, .ref m_cells])), (m_actMany, .inl (E.2.1 1, 25, .inl f_actMany)), (m_actOf, .inl (E.2.1 1, 800, .inl f_actOf)), (m_pile, .inl (E.2.1 1, 34, .inl f_58))]) C 3 rfl (vp_in_nI (by omega) (by omega)) (ldn2 (by omega) ef_58) rfl dX12_depthOf_98 ?_
                    refine ww_iinc (j := 2) (v := (nI (((tt - 1) - 1) + 1))) (lv' := [(2, .int (nI (((tt - 1) - 1) + 1))), (6, .int 2), (5, .int x_46), (4, .int x_6), (3, .int (nI j_5)), (0, .ref hm), (1, .int (nI sl))]) C dX12_depthOf_99 rfl (nI_add ((tt - 1) - 1) 1) rfl rfl ?_
                    obtain ⟨x_59, ex_59⟩ : ∃ z : Int32, (nI j_5) + Int32.ofInt (-1) = z := ⟨_, rfl⟩
                    have zx_59 : x_59.toInt = ((j_5 : Nat) : Int) - 1 := by rw [← ex_59]; exact i_dec (c := 1) (nI_toInt (n := j_5) (by omega)) rfl (by omega) (by omega)
                    refine ww_iinc (j := 4) (v := x_59) (lv' := [(3, .int x_59), (2, .int (nI (((tt - 1) - 1) + 1))), (6, .int 2), (5, .int x_46), (4, .int x_6), (0, .ref hm), (1, .int (nI sl))]) C dX12_depthOf_102 rfl ex_59 rfl rfl ?_
                    refine ww_goto (tgt := 11) C dX12_depthOf_105 (by decide) ?_
                    exact ww_lv [0, 1, 5, 6] rfl (ww_sub [0, 1, 2, 3] rfl rfl (ih_11 x_59 j_5 (((tt - 1) - 1) + 1) f_58 (by omega) (by omega) (by omega) (by omega)))
                  · have zc_57 : x_6.toInt ≥ 8 := i_nlt rfl rfl c_57
                    omega
                · refine ww_eq (ws' := [(hm, .inr (12, [.ref m_manys, .ref m_reals, .ref m_factsOf, .ref m_possible, .int (nI q_undos), .int (nI q_models), .ref m_tape, .int (nI q_taped), .int q_fault, .int q_wrong, .int q_wrongAt, .int q_spot, .int q_place, .int q_token, .int q_value, .ref m_ends, .ref m_letters, .ref m_actOf, .ref m_whom, .ref m_actMany, .ref m_tokens, .ref m_afters, .ref m_afterOf, .int q_counted, .ref m_pile, .ref m_caseMany, .ref m_happen, .ref m_hasIf, .ref m_becomes, .ref m_goneOf, .ref m_heard, .ref m_pairs, .ref m_heaps, .int q_rounds, .int q_heapMany, .ref m_led, .ref m_newAt, .ref m_knowing, .ref m_firsts, .int (nI q_people), .ref m_secrets, .ref m_tried, .ref m_lanes, .ref m_lengths, .ref m_cells])), (m_actMany, .inl (E.2.1 1, 25, .inl f_actMany)), (m_actOf, .inl (E.2.1 1, 800, .inl f_actOf)), (m_pile, .inl (E.2.1 1, 34, .inl g1))]) ?_ rfl rfl rfl
                  refine ww_icmp_ge_t (tgt := 77) C dX12_depthOf_41 (by decide) (by decide) ?_
                  refine ww_aload_n C dX12_depthOf_77 5 rfl rfl ?_
                  refine ww_get C fg_X12_49 0 rfl rfl dX12_depthOf_78 ?_
                  refine ww_iload_n C dX12_depthOf_81 2 rfl rfl ?_
                  refine ww_iload C dX12_depthOf_82 3 rfl ?_
                  refine ww_bipush (v := 8) C dX12_depthOf_84 rfl ?_
                  refine ww_icmp_lt (tgt := 96) C dX12_depthOf_86 (by decide) (fun c_60 => ?_) (fun c_60 => ?_)
                  · have zc_60 : x_6.toInt < 8 := i_lt rfl rfl c_60
                    refine ww_iload C dX12_depthOf_96 1 rfl ?_
                    obtain ⟨f_61, ef_61⟩ : ∃ z : Nat → Int32, upd g1 ((tt - 1) - 1) x_46 = z := ⟨_, rfl⟩
                    refine ww_iast (ws' := [(hm, .inr (12, [.ref m_manys, .ref m_reals, .ref m_factsOf, .ref m_possible, .int (nI q_undos), .int (nI q_models), .ref m_tape, .int (nI q_taped), .int q_fault, .int q_wrong, .int q_wrongAt, .int q_spot, .int q_place, .int q_token, .int q_value, .ref m_ends, .ref m_letters, .ref m_actOf, .ref m_whom, .ref m_actMany, .ref m_tokens, .ref m_afters, .ref m_afterOf, .int q_counted, .ref m_pile, .ref m_caseMany, .ref m_happen, .ref m_hasIf, .ref m_becomes, .ref m_goneOf, .ref m_heard, .ref m_pairs, .ref m_heaps, .int q_rounds, .int q_heapMany, .ref m_led, .ref m_newAt, .ref m_knowing, .ref m_firsts, .int (nI q_people), .ref m_secrets, .ref m_tried, .ref m_lanes, .ref m_lengths, .ref m_cells])), (m_actMany, .inl (E.2.1 1, 25, .inl f_actMany)), (m_actOf, .inl (E.2.1 1, 800, .inl f_actOf)), (m_pile, .inl (E.2.1 1, 34, .inl f_61))]) C 3 rfl (vp_in_nI (by omega) (by omega)) (ldn2 (by omega) ef_61) rfl dX12_depthOf_98 ?_
                    refine ww_iinc (j := 2) (v := (nI (((tt - 1) - 1) + 1))) (lv' := [(2, .int (nI (((tt - 1) - 1) + 1))), (6, .int 2), (5, .int x_46), (4, .int x_6), (3, .int (nI j_5)), (0, .ref hm), (1, .int (nI sl))]) C dX12_depthOf_99 rfl (nI_add ((tt - 1) - 1) 1) rfl rfl ?_
                    obtain ⟨x_62, ex_62⟩ : ∃ z : Int32, (nI j_5) + Int32.ofInt (-1) = z := ⟨_, rfl⟩
                    have zx_62 : x_62.toInt = ((j_5 : Nat) : Int) - 1 := by rw [← ex_62]; exact i_dec (c := 1) (nI_toInt (n := j_5) (by omega)) rfl (by omega) (by omega)
                    refine ww_iinc (j := 4) (v := x_62) (lv' := [(3, .int x_62), (2, .int (nI (((tt - 1) - 1) + 1))), (6, .int 2), (5, .int x_46), (4, .int x_6), (0, .ref hm), (1, .int (nI sl))]) C dX12_depthOf_102 rfl ex_62 rfl rfl ?_
                    refine ww_goto (tgt := 11) C dX12_depthOf_105 (by decide) ?_
                    exact ww_lv [0, 1, 5, 6] rfl (ww_sub [0, 1, 2, 3] rfl rfl (ih_11 x_62 j_5 (((tt - 1) - 1) + 1) f_61 (by omega) (by omega) (by omega) (by omega)))
                  · have zc_60 : x_6.toInt ≥ 8 := i_nlt rfl rfl c_60
                    omega
              · have zc_52 : x_51.toInt > x_46.toInt := i_nle rfl rfl c_52
                refine ww_aload_n C dX12_depthOf_58 5 rfl rfl ?_
                refine ww_get C fg_X12_49 0 rfl rfl dX12_depthOf_59 ?_
                refine ww_iload_n C dX12_depthOf_62 0 rfl rfl ?_
                obtain ⟨x_63, ex_63⟩ : ∃ z : Int32, g1 ((tt - 1) - 1) = z := ⟨_, rfl⟩
                refine ww_iald (v := x_63) C 3 rfl (vp_in_nI (by omega) (by omega)) (ldn (by omega) ex_63) dX12_depthOf_63 ?_
                refine ww_goto (tgt := 69) C dX12_depthOf_64 (by decide) ?_
                refine ww_istore (lv' := [(5, .int x_63), (2, .int (nI ((tt - 1) - 1))), (6, .int 1), (4, .int x_6), (3, .int (nI j_5)), (0, .ref hm), (1, .int (nI sl))]) C dX12_depthOf_69 rfl rfl ?_
                refine ww_iinc (j := 2) (v := 2) (lv' := [(6, .int 2), (5, .int x_63), (2, .int (nI ((tt - 1) - 1))), (4, .int x_6), (3, .int (nI j_5)), (0, .ref hm), (1, .int (nI sl))]) C dX12_depthOf_71 rfl rfl rfl rfl ?_
                refine ww_goto (tgt := 34) C dX12_depthOf_74 (by decide) ?_
                refine ww_iload C dX12_depthOf_34 0 rfl ?_
                refine ww_iload C dX12_depthOf_36 3 rfl ?_
                refine ww_ci (wr := [(hm, .inr (12, [.ref m_manys, .ref m_reals, .ref m_factsOf, .ref m_possible, .int (nI q_undos), .int (nI q_models), .ref m_tape, .int (nI q_taped), .int q_fault, .int q_wrong, .int q_wrongAt, .int q_spot, .int q_place, .int q_token, .int q_value, .ref m_ends, .ref m_letters, .ref m_actOf, .ref m_whom, .ref m_actMany, .ref m_tokens, .ref m_afters, .ref m_afterOf, .int q_counted, .ref m_pile, .ref m_caseMany, .ref m_happen, .ref m_hasIf, .ref m_becomes, .ref m_goneOf, .ref m_heard, .ref m_pairs, .ref m_heaps, .int q_rounds, .int q_heapMany, .ref m_led, .ref m_newAt, .ref m_knowing, .ref m_firsts, .int (nI q_people), .ref m_secrets, .ref m_tried, .ref m_lanes, .ref m_lengths, .ref m_cells])), (m_actMany, .inl (E.2.1 1, 25, .inl f_actMany)), (m_actOf, .inl (E.2.1 1, 800, .inl f_actOf)), (m_pile, .inl (E.2.1 1, 34, .inl g1))]) (k' := 0) (n' := 0) C (run_S (As := [.int x_6]) (rest := [.int 2]) C (r_wantsOf X.2.1 E ro x_6 x_6.toInt rfl) ms_X12_wantsOf wl_X12_215 rfl rfl rfl rfl dX12_depthOf_38) (roK hro) [] [0, 1, 2, 3] rfl rfl rfl rfl (fun r_64 uz hw => ?_)
                rcases hw with ⟨rfl, rfl, h_65⟩ | ⟨rfl, rfl, h_66⟩ | ⟨rfl, rfl, h_67⟩
                · omega
                · refine ww_eq (ws' := [(hm, .inr (12, [.ref m_manys, .ref m_reals, .ref m_factsOf, .ref m_possible, .int (nI q_undos), .int (nI q_models), .ref m_tape, .int (nI q_taped), .int q_fault, .int q_wrong, .int q_wrongAt, .int q_spot, .int q_place, .int q_token, .int q_value, .ref m_ends, .ref m_letters, .ref m_actOf, .ref m_whom, .ref m_actMany, .ref m_tokens, .ref m_afters, .ref m_afterOf, .int q_counted, .ref m_pile, .ref m_caseMany, .ref m_happen, .ref m_hasIf, .ref m_becomes, .ref m_goneOf, .ref m_heard, .ref m_pairs, .ref m_heaps, .int q_rounds, .int q_heapMany, .ref m_led, .ref m_newAt, .ref m_knowing, .ref m_firsts, .int (nI q_people), .ref m_secrets, .ref m_tried, .ref m_lanes, .ref m_lengths, .ref m_cells])), (m_actMany, .inl (E.2.1 1, 25, .inl f_actMany)), (m_actOf, .inl (E.2.1 1, 800, .inl f_actOf)), (m_pile, .inl (E.2.1 1, 34, .inl g1))]) ?_ rfl rfl rfl
                  refine ww_icmp_ge_t (tgt := 77) C dX12_depthOf_41 (by decide) (by decide) ?_
                  refine ww_aload_n C dX12_depthOf_77 5 rfl rfl ?_
                  refine ww_get C fg_X12_49 0 rfl rfl dX12_depthOf_78 ?_
                  refine ww_iload_n C dX12_depthOf_81 2 rfl rfl ?_
                  refine ww_iload C dX12_depthOf_82 3 rfl ?_
                  refine ww_bipush (v := 8) C dX12_depthOf_84 rfl ?_
                  refine ww_icmp_lt (tgt := 96) C dX12_depthOf_86 (by decide) (fun c_68 => ?_) (fun c_68 => ?_)
                  · have zc_68 : x_6.toInt < 8 := i_lt rfl rfl c_68
                    refine ww_iload C dX12_depthOf_96 1 rfl ?_
                    obtain ⟨f_69, ef_69⟩ : ∃ z : Nat → Int32, upd g1 ((tt - 1) - 1) x_63 = z := ⟨_, rfl⟩
                    refine ww_iast (ws' := [(hm, .inr (12, [.ref m_manys, .ref m_reals, .ref m_factsOf, .ref m_possible, .int (nI q_undos), .int (nI q_models), .ref m_tape, .int (nI q_taped), .int q_fault, .int q_wrong, .int q_wrongAt, .int q_spot, .int q_place, .int q_token, .int q_value, .ref m_ends, .ref m_letters, .ref m_actOf, .ref m_whom, .ref m_actMany, .ref m_tokens, .ref m_afters, .ref m_afterOf, .int q_counted, .ref m_pile, .ref m_caseMany, .ref m_happen, .ref m_hasIf, .ref m_becomes, .ref m_goneOf, .ref m_heard, .ref m_pairs, .ref m_heaps, .int q_rounds, .int q_heapMany, .ref m_led, .ref m_newAt, .ref m_knowing, .ref m_firsts, .int (nI q_people), .ref m_secrets, .ref m_tried, .ref m_lanes, .ref m_lengths, .ref m_cells])), (m_actMany, .inl (E.2.1 1, 25, .inl f_actMany)), (m_actOf, .inl (E.2.1 1, 800, .inl f_actOf)), (m_pile, .inl (E.2.1 1, 34, .inl f_69))]) C 3 rfl (vp_in_nI (by omega) (by omega)) (ldn2 (by omega) ef_69) rfl dX12_depthOf_98 ?_
                    refine ww_iinc (j := 2) (v := (nI (((tt - 1) - 1) + 1))) (lv' := [(2, .int (nI (((tt - 1) - 1) + 1))), (6, .int 2), (5, .int x_63), (4, .int x_6), (3, .int (nI j_5)), (0, .ref hm), (1, .int (nI sl))]) C dX12_depthOf_99 rfl (nI_add ((tt - 1) - 1) 1) rfl rfl ?_
                    obtain ⟨x_70, ex_70⟩ : ∃ z : Int32, (nI j_5) + Int32.ofInt (-1) = z := ⟨_, rfl⟩
                    have zx_70 : x_70.toInt = ((j_5 : Nat) : Int) - 1 := by rw [← ex_70]; exact i_dec (c := 1) (nI_toInt (n := j_5) (by omega)) rfl (by omega) (by omega)
                    refine ww_iinc (j := 4) (v := x_70) (lv' := [(3, .int x_70), (2, .int (nI (((tt - 1) - 1) + 1))), (6, .int 2), (5, .int x_63), (4, .int x_6), (0, .ref hm), (1, .int (nI sl))]) C dX12_depthOf_102 rfl ex_70 rfl rfl ?_
                    refine ww_goto (tgt := 11) C dX12_depthOf_105 (by decide) ?_
                    exact ww_lv [0, 1, 5, 6] rfl (ww_sub [0, 1, 2, 3] rfl rfl (ih_11 x_70 j_5 (((tt - 1) - 1) + 1) f_69 (by omega) (by omega) (by omega) (by omega)))
                  · have zc_68 : x_6.toInt ≥ 8 := i_nlt rfl rfl c_68
                    omega
                · refine ww_eq (ws' := [(hm, .inr (12, [.ref m_manys, .ref m_reals, .ref m_factsOf, .ref m_possible, .int (nI q_undos), .int (nI q_models), .ref m_tape, .int (nI q_taped), .int q_fault, .int q_wrong, .int q_wrongAt, .int q_spot, .int q_place, .int q_token, .int q_value, .ref m_ends, .ref m_letters, .ref m_actOf, .ref m_whom, .ref m_actMany, .ref m_tokens, .ref m_afters, .ref m_afterOf, .int q_counted, .ref m_pile, .ref m_caseMany, .ref m_happen, .ref m_hasIf, .ref m_becomes, .ref m_goneOf, .ref m_heard, .ref m_pairs, .ref m_heaps, .int q_rounds, .int q_heapMany, .ref m_led, .ref m_newAt, .ref m_knowing, .ref m_firsts, .int (nI q_people), .ref m_secrets, .ref m_tried, .ref m_lanes, .ref m_lengths, .ref m_cells])), (m_actMany, .inl (E.2.1 1, 25, .inl f_actMany)), (m_actOf, .inl (E.2.1 1, 800, .inl f_actOf)), (m_pile, .inl (E.2.1 1, 34, .inl g1))]) ?_ rfl rfl rfl
                  refine ww_icmp_ge_t (tgt := 77) C dX12_depthOf_41 (by decide) (by decide) ?_
                  refine ww_aload_n C dX12_depthOf_77 5 rfl rfl ?_
                  refine ww_get C fg_X12_49 0 rfl rfl dX12_depthOf_78 ?_
                  refine ww_iload_n C dX12_depthOf_81 2 rfl rfl ?_
                  refine ww_iload C dX12_depthOf_82 3 rfl ?_
                  refine ww_bipush (v := 8) C dX12_depthOf_84 rfl ?_
                  refine ww_icmp_lt (tgt := 96) C dX12_depthOf_86 (by decide) (fun c_71 => ?_) (fun c_71 => ?_)
                  · have zc_71 : x_6.toInt < 8 := i_lt rfl rfl c_71
                    refine ww_iload C dX12_depthOf_96 1 rfl ?_
                    obtain ⟨f_72, ef_72⟩ : ∃ z : Nat → Int32, upd g1 ((tt - 1) - 1) x_63 = z := ⟨_, rfl⟩
                    refine ww_iast (ws' := [(hm, .inr (12, [.ref m_manys, .ref m_reals, .ref m_factsOf, .ref m_possible, .int (nI q_undos), .int (nI q_models), .ref m_tape, .int (nI q_taped), .int q_fault, .int q_wrong, .int q_wrongAt, .int q_spot, .int q_place, .int q_token, .int q_value, .ref m_ends, .ref m_letters, .ref m_actOf, .ref m_whom, .ref m_actMany, .ref m_tokens, .ref m_afters, .ref m_afterOf, .int q_counted, .ref m_pile, .ref m_caseMany, .ref m_happen, .ref m_hasIf, .ref m_becomes, .ref m_goneOf, .ref m_heard, .ref m_pairs, .ref m_heaps, .int q_rounds, .int q_heapMany, .ref m_led, .ref m_newAt, .ref m_knowing, .ref m_firsts, .int (nI q_people), .ref m_secrets, .ref m_tried, .ref m_lanes, .ref m_lengths, .ref m_cells])), (m_actMany, .inl (E.2.1 1, 25, .inl f_actMany)), (m_actOf, .inl (E.2.1 1, 800, .inl f_actOf)), (m_pile, .inl (E.2.1 1, 34, .inl f_72))]) C 3 rfl (vp_in_nI (by omega) (by omega)) (ldn2 (by omega) ef_72) rfl dX12_depthOf_98 ?_
                    refine ww_iinc (j := 2) (v := (nI (((tt - 1) - 1) + 1))) (lv' := [(2, .int (nI (((tt - 1) - 1) + 1))), (6, .int 2), (5, .int x_63), (4, .int x_6), (3, .int (nI j_5)), (0, .ref hm), (1, .int (nI sl))]) C dX12_depthOf_99 rfl (nI_add ((tt - 1) - 1) 1) rfl rfl ?_
                    obtain ⟨x_73, ex_73⟩ : ∃ z : Int32, (nI j_5) + Int32.ofInt (-1) = z := ⟨_, rfl⟩
                    have zx_73 : x_73.toInt = ((j_5 : Nat) : Int) - 1 := by rw [← ex_73]; exact i_dec (c := 1) (nI_toInt (n := j_5) (by omega)) rfl (by omega) (by omega)
                    refine ww_iinc (j := 4) (v := x_73) (lv' := [(3, .int x_73), (2, .int (nI (((tt - 1) - 1) + 1))), (6, .int 2), (5, .int x_63), (4, .int x_6), (0, .ref hm), (1, .int (nI sl))]) C dX12_depthOf_102 rfl ex_73 rfl rfl ?_
                    refine ww_goto (tgt := 11) C dX12_depthOf_105 (by decide) ?_
                    exact ww_lv [0, 1, 5, 6] rfl (ww_sub [0, 1, 2, 3] rfl rfl (ih_11 x_73 j_5 (((tt - 1) - 1) + 1) f_72 (by omega) (by omega) (by omega) (by omega)))
                  · have zc_71 : x_6.toInt ≥ 8 := i_nlt rfl rfl c_71
                    omega
            · refine ww_eq (ws' := [(hm, .inr (12, [.ref m_manys, .ref m_reals, .ref m_factsOf, .ref m_possible, .int (nI q_undos), .int (nI q_models), .ref m_tape, .int (nI q_taped), .int q_fault, .int q_wrong, .int q_wrongAt, .int q_spot, .int q_place, .int q_token, .int q_value, .ref m_ends, .ref m_letters, .ref m_actOf, .ref m_whom, .ref m_actMany, .ref m_tokens, .ref m_afters, .ref m_afterOf, .int q_counted, .ref m_pile, .ref m_caseMany, .ref m_happen, .ref m_hasIf, .ref m_becomes, .ref m_goneOf, .ref m_heard, .ref m_pairs, .ref m_heaps, .int q_rounds, .int q_heapMany, .ref m_led, .ref m_newAt, .ref m_knowing, .ref m_firsts, .int (nI q_people), .ref m_secrets, .ref m_tried, .ref m_lanes, .ref m_lengths, .ref m_cells])), (m_actMany, .inl (E.2.1 1, 25, .inl f_actMany)), (m_actOf, .inl (E.2.1 1, 800, .inl f_actOf)), (m_pile, .inl (E.2.1 1, 34, .inl g1))]) ?_ rfl rfl rfl
              refine ww_icmp_ge_t (tgt := 77) C dX12_depthOf_41 (by decide) (by decide) ?_
              refine ww_aload_n C dX12_depthOf_77 5 rfl rfl ?_
              refine ww_get C fg_X12_49 0 rfl rfl dX12_depthOf_78 ?_
              refine ww_iload_n C dX12_depthOf_81 2 rfl rfl ?_
              refine ww_iload C dX12_depthOf_82 3 rfl ?_
              refine ww_bipush (v := 8) C dX12_depthOf_84 rfl ?_
              refine ww_icmp_lt (tgt := 96) C dX12_depthOf_86 (by decide) (fun c_74 => ?_) (fun c_74 => ?_)
              · have zc_74 : x_6.toInt < 8 := i_lt rfl rfl c_74
                refine ww_iload C dX12_depthOf_96 1 rfl ?_
                obtain ⟨f_75, ef_75⟩ : ∃ z : Nat → Int32, upd g1 (tt - 1) x_46 = z := ⟨_, rfl⟩
                refine ww_iast (ws' := [(hm, .inr (12, [.ref m_manys, .ref m_reals, .ref m_factsOf, .ref m_possible, .int (nI q_undos), .int (nI q_models), .ref m_tape, .int (nI q_taped), .int q_fault, .int q_wrong, .int q_wrongAt, .int q_spot, .int q_place, .int q_token, .int q_value, .ref m_ends, .ref m_letters, .ref m_actOf, .ref m_whom, .ref m_actMany, .ref m_tokens, .ref m_afters, .ref m_afterOf, .int q_counted, .ref m_pile, .ref m_caseMany, .ref m_happen, .ref m_hasIf, .ref m_becomes, .ref m_goneOf, .ref m_heard, .ref m_pairs, .ref m_heaps, .int q_rounds, .int q_heapMany, .ref m_led, .ref m_newAt, .ref m_knowing, .ref m_firsts, .int (nI q_people), .ref m_secrets, .ref m_tried, .ref m_lanes, .ref m_lengths, .ref m_cells])), (m_actMany, .inl (E.2.1 1, 25, .inl f_actMany)), (m_actOf, .inl (E.2.1 1, 800, .inl f_actOf)), (m_pile, .inl (E.2.1 1, 34, .inl f_75))]) C 3 rfl (vp_in_nI (by omega) (by omega)) (ldn2 (by omega) ef_75) rfl dX12_depthOf_98 ?_
                refine ww_iinc (j := 2) (v := (nI ((tt - 1) + 1))) (lv' := [(2, .int (nI ((tt - 1) + 1))), (6, .int 1), (5, .int x_46), (4, .int x_6), (3, .int (nI j_5)), (0, .ref hm), (1, .int (nI sl))]) C dX12_depthOf_99 rfl (nI_add (tt - 1) 1) rfl rfl ?_
                obtain ⟨x_76, ex_76⟩ : ∃ z : Int32, (nI j_5) + Int32.ofInt (-1) = z := ⟨_, rfl⟩
                have zx_76 : x_76.toInt = ((j_5 : Nat) : Int) - 1 := by rw [← ex_76]; exact i_dec (c := 1) (nI_toInt (n := j_5) (by omega)) rfl (by omega) (by omega)
                refine ww_iinc (j := 4) (v := x_76) (lv' := [(3, .int x_76), (2, .int (nI ((tt - 1) + 1))), (6, .int 1), (5, .int x_46), (4, .int x_6), (0, .ref hm), (1, .int (nI sl))]) C dX12_depthOf_102 rfl ex_76 rfl rfl ?_
                refine ww_goto (tgt := 11) C dX12_depthOf_105 (by decide) ?_
                exact ww_lv [0, 1, 5, 6] rfl (ww_sub [0, 1, 2, 3] rfl rfl (ih_11 x_76 j_5 ((tt - 1) + 1) f_75 (by omega) (by omega) (by omega) (by omega)))
              · have zc_74 : x_6.toInt ≥ 8 := i_nlt rfl rfl c_74
                omega
        · refine ww_eq (ws' := [(hm, .inr (12, [.ref m_manys, .ref m_reals, .ref m_factsOf, .ref m_possible, .int (nI q_undos), .int (nI q_models), .ref m_tape, .int (nI q_taped), .int q_fault, .int q_wrong, .int q_wrongAt, .int q_spot, .int q_place, .int q_token, .int q_value, .ref m_ends, .ref m_letters, .ref m_actOf, .ref m_whom, .ref m_actMany, .ref m_tokens, .ref m_afters, .ref m_afterOf, .int q_counted, .ref m_pile, .ref m_caseMany, .ref m_happen, .ref m_hasIf, .ref m_becomes, .ref m_goneOf, .ref m_heard, .ref m_pairs, .ref m_heaps, .int q_rounds, .int q_heapMany, .ref m_led, .ref m_newAt, .ref m_knowing, .ref m_firsts, .int (nI q_people), .ref m_secrets, .ref m_tried, .ref m_lanes, .ref m_lengths, .ref m_cells])), (m_actMany, .inl (E.2.1 1, 25, .inl f_actMany)), (m_actOf, .inl (E.2.1 1, 800, .inl f_actOf)), (m_pile, .inl (E.2.1 1, 34, .inl g1))]) ?_ rfl rfl rfl
          refine ww_icmp_ge_f (tgt := 77) C dX12_depthOf_41 (by decide) (by decide) ?_
          refine ww_iinc (j := 4) (v := (nI (tt - 1))) (lv' := [(2, .int (nI (tt - 1))), (6, .int 0), (5, .int 0), (4, .int x_6), (3, .int (nI j_5)), (0, .ref hm), (1, .int (nI sl))]) C dX12_depthOf_44 rfl (nI_subc (a := tt) (c := 1) (by omega) rfl) rfl rfl ?_
          refine ww_aload_n C dX12_depthOf_47 5 rfl rfl ?_
          refine ww_get C fg_X12_49 0 rfl rfl dX12_depthOf_48 ?_
          refine ww_iload_n C dX12_depthOf_51 0 rfl rfl ?_
          obtain ⟨x_77, ex_77⟩ : ∃ z : Int32, g1 (tt - 1) = z := ⟨_, rfl⟩
          refine ww_iald (v := x_77) C 3 rfl (vp_in_nI (by omega) (by omega)) (ldn (by omega) ex_77) dX12_depthOf_52 ?_
          refine ww_iload C dX12_depthOf_53 2 rfl ?_
          refine ww_icmp_le (tgt := 67) C dX12_depthOf_55 (by decide) (fun c_78 => ?_) (fun c_78 => ?_)
          · have zc_78 : x_77.toInt ≤ 0 := i_le rfl rfl c_78
            refine ww_iload C dX12_depthOf_67 2 rfl ?_
            refine ww_istore (lv' := [(5, .int 0), (2, .int (nI (tt - 1))), (6, .int 0), (4, .int x_6), (3, .int (nI j_5)), (0, .ref hm), (1, .int (nI sl))]) C dX12_depthOf_69 rfl rfl ?_
            refine ww_iinc (j := 2) (v := 1) (lv' := [(6, .int 1), (5, .int 0), (2, .int (nI (tt - 1))), (4, .int x_6), (3, .int (nI j_5)), (0, .ref hm), (1, .int (nI sl))]) C dX12_depthOf_71 rfl rfl rfl rfl ?_
            refine ww_goto (tgt := 34) C dX12_depthOf_74 (by decide) ?_
            refine ww_iload C dX12_depthOf_34 0 rfl ?_
            refine ww_iload C dX12_depthOf_36 3 rfl ?_
            refine ww_ci (wr := [(hm, .inr (12, [.ref m_manys, .ref m_reals, .ref m_factsOf, .ref m_possible, .int (nI q_undos), .int (nI q_models), .ref m_tape, .int (nI q_taped), .int q_fault, .int q_wrong, .int q_wrongAt, .int q_spot, .int q_place, .int q_token, .int q_value, .ref m_ends, .ref m_letters, .ref m_actOf, .ref m_whom, .ref m_actMany, .ref m_tokens, .ref m_afters, .ref m_afterOf, .int q_counted, .ref m_pile, .ref m_caseMany, .ref m_happen, .ref m_hasIf, .ref m_becomes, .ref m_goneOf, .ref m_heard, .ref m_pairs, .ref m_heaps, .int q_rounds, .int q_heapMany, .ref m_led, .ref m_newAt, .ref m_knowing, .ref m_firsts, .int (nI q_people), .ref m_secrets, .ref m_tried, .ref m_lanes, .ref m_lengths, .ref m_cells])), (m_actMany, .inl (E.2.1 1, 25, .inl f_actMany)), (m_actOf, .inl (E.2.1 1, 800, .inl f_actOf)), (m_pile, .inl (E.2.1 1, 34, .inl g1))]) (k' := 0) (n' := 0) C (run_S (As := [.int x_6]) (rest := [.int 1]) C (r_wantsOf X.2.1 E ro x_6 x_6.toInt rfl) ms_X12_wantsOf wl_X12_215 rfl rfl rfl rfl dX12_depthOf_38) (roK hro) [] [0, 1, 2, 3] rfl rfl rfl rfl (fun r_79 uz hw => ?_)
            rcases hw with ⟨rfl, rfl, h_80⟩ | ⟨rfl, rfl, h_81⟩ | ⟨rfl, rfl, h_82⟩
            · omega
            · refine ww_eq (ws' := [(hm, .inr (12, [.ref m_manys, .ref m_reals, .ref m_factsOf, .ref m_possible, .int (nI q_undos), .int (nI q_models), .ref m_tape, .int (nI q_taped), .int q_fault, .int q_wrong, .int q_wrongAt, .int q_spot, .int q_place, .int q_token, .int q_value, .ref m_ends, .ref m_letters, .ref m_actOf, .ref m_whom, .ref m_actMany, .ref m_tokens, .ref m_afters, .ref m_afterOf, .int q_counted, .ref m_pile, .ref m_caseMany, .ref m_happen, .ref m_hasIf, .ref m_becomes, .ref m_goneOf, .ref m_heard, .ref m_pairs, .ref m_heaps, .int q_rounds, .int q_heapMany, .ref m_led, .ref m_newAt, .ref m_knowing, .ref m_firsts, .int (nI q_people), .ref m_secrets, .ref m_tried, .ref m_lanes, .ref m_lengths, .ref m_cells])), (m_actMany, .inl (E.2.1 1, 25, .inl f_actMany)), (m_actOf, .inl (E.2.1 1, 800, .inl f_actOf)), (m_pile, .inl (E.2.1 1, 34, .inl g1))]) ?_ rfl rfl rfl
              refine ww_icmp_ge_f (tgt := 77) C dX12_depthOf_41 (by decide) (by decide) ?_
              refine ww_iinc (j := 2) (v := (nI ((tt - 1) - 1))) (lv' := [(2, .int (nI ((tt - 1) - 1))), (6, .int 1), (5, .int 0), (4, .int x_6), (3, .int (nI j_5)), (0, .ref hm), (1, .int (nI sl))]) C dX12_depthOf_44 rfl (nI_subc (a := (tt - 1)) (c := 1) (by omega) rfl) rfl rfl ?_
              refine ww_aload_n C dX12_depthOf_47 5 rfl rfl ?_
              refine ww_get C fg_X12_49 0 rfl rfl dX12_depthOf_48 ?_
              refine ww_iload_n C dX12_depthOf_51 0 rfl rfl ?_
              obtain ⟨x_83, ex_83⟩ : ∃ z : Int32, g1 ((tt - 1) - 1) = z := ⟨_, rfl⟩
              refine ww_iald (v := x_83) C 3 rfl (vp_in_nI (by omega) (by omega)) (ldn (by omega) ex_83) dX12_depthOf_52 ?_
              refine ww_iload C dX12_depthOf_53 2 rfl ?_
              refine ww_icmp_le (tgt := 67) C dX12_depthOf_55 (by decide) (fun c_84 => ?_) (fun c_84 => ?_)
              · have zc_84 : x_83.toInt ≤ 0 := i_le rfl rfl c_84
                refine ww_iload C dX12_depthOf_67 2 rfl ?_
                refine ww_istore (lv' := [(5, .int 0), (2, .int (nI ((tt - 1) - 1))), (6, .int 1), (4, .int x_6), (3, .int (nI j_5)), (0, .ref hm), (1, .int (nI sl))]) C dX12_depthOf_69 rfl rfl ?_
                refine ww_iinc (j := 2) (v := 2) (lv' := [(6, .int 2), (5, .int 0), (2, .int (nI ((tt - 1) - 1))), (4, .int x_6), (3, .int (nI j_5)), (0, .ref hm), (1, .int (nI sl))]) C dX12_depthOf_71 rfl rfl rfl rfl ?_
                refine ww_goto (tgt := 34) C dX12_depthOf_74 (by decide) ?_
                refine ww_iload C dX12_depthOf_34 0 rfl ?_
                refine ww_iload C dX12_depthOf_36 3 rfl ?_
                refine ww_ci (wr := [(hm, .inr (12, [.ref m_manys, .ref m_reals, .ref m_factsOf, .ref m_possible, .int (nI q_undos), .int (nI q_models), .ref m_tape, .int (nI q_taped), .int q_fault, .int q_wrong, .int q_wrongAt, .int q_spot, .int q_place, .int q_token, .int q_value, .ref m_ends, .ref m_letters, .ref m_actOf, .ref m_whom, .ref m_actMany, .ref m_tokens, .ref m_afters, .ref m_afterOf, .int q_counted, .ref m_pile, .ref m_caseMany, .ref m_happen, .ref m_hasIf, .ref m_becomes, .ref m_goneOf, .ref m_heard, .ref m_pairs, .ref m_heaps, .int q_rounds, .int q_heapMany, .ref m_led, .ref m_newAt, .ref m_knowing, .ref m_firsts, .int (nI q_people), .ref m_secrets, .ref m_tried, .ref m_lanes, .ref m_lengths, .ref m_cells])), (m_actMany, .inl (E.2.1 1, 25, .inl f_actMany)), (m_actOf, .inl (E.2.1 1, 800, .inl f_actOf)), (m_pile, .inl (E.2.1 1, 34, .inl g1))]) (k' := 0) (n' := 0) C (run_S (As := [.int x_6]) (rest := [.int 2]) C (r_wantsOf X.2.1 E ro x_6 x_6.toInt rfl) ms_X12_wantsOf wl_X12_215 rfl rfl rfl rfl dX12_depthOf_38) (roK hro) [] [0, 1, 2, 3] rfl rfl rfl rfl (fun r_85 uz hw => ?_)
                rcases hw with ⟨rfl, rfl, h_86⟩ | ⟨rfl, rfl, h_87⟩ | ⟨rfl, rfl, h_88⟩
                · omega
                · refine ww_eq (ws' := [(hm, .inr (12, [.ref m_manys, .ref m_reals, .ref m_factsOf, .ref m_possible, .int (nI q_undos), .int (nI q_models), .ref m_tape, .int (nI q_taped), .int q_fault, .int q_wrong, .int q_wrongAt, .int q_spot, .int q_place, .int q_token, .int q_value, .ref m_ends, .ref m_letters, .ref m_actOf, .ref m_whom, .ref m_actMany, .ref m_tokens, .ref m_afters, .ref m_afterOf, .int q_counted, .ref m_pile, .ref m_caseMany, .ref m_happen, .ref m_hasIf, .ref m_becomes, .ref m_goneOf, .ref m_heard, .ref m_pairs, .ref m_heaps, .int q_rounds, .int q_heapMany, .ref m_led, .ref m_newAt, .ref m_knowing, .ref m_firsts, .int (nI q_people), .ref m_secrets, .ref m_tried, .ref m_lanes, .ref m_lengths, .ref m_cells])), (m_actMany, .inl (E.2.1 1, 25, .inl f_actMany)), (m_actOf, .inl (E.2.1 1, 800, .inl f_actOf)), (m_pile, .inl (E.2.1 1, 34, .inl g1))]) ?_ rfl rfl rfl
                  refine ww_icmp_ge_t (tgt := 77) C dX12_depthOf_41 (by decide) (by decide) ?_
                  refine ww_aload_n C dX12_depthOf_77 5 rfl rfl ?_
                  refine ww_get C fg_X12_49 0 rfl rfl dX12_depthOf_78 ?_
                  refine ww_iload_n C dX12_depthOf_81 2 rfl rfl ?_
                  refine ww_iload C dX12_depthOf_82 3 rfl ?_
                  refine ww_bipush (v := 8) C dX12_depthOf_84 rfl ?_
                  refine ww_icmp_lt (tgt := 96) C dX12_depthOf_86 (by decide) (fun c_89 => ?_) (fun c_89 => ?_)
                  · have zc_89 : x_6.toInt < 8 := i_lt rfl rfl c_89
                    refine ww_iload C dX12_depthOf_96 1 rfl ?_
                    obtain ⟨f_90, ef_90⟩ : ∃ z : Nat → Int32, upd g1 ((tt - 1) - 1) 0 = z := ⟨_, rfl⟩
                    refine ww_iast (ws' := [(hm, .inr (12, [.ref m_manys, .ref m_reals, .ref m_factsOf, .ref m_possible, .int (nI q_undos), .int (nI q_models), .ref m_tape, .int (nI q_taped), .int q_fault, .int q_wrong, .int q_wrongAt, .int q_spot, .int q_place, .int q_token, .int q_value, .ref m_ends, .ref m_letters, .ref m_actOf, .ref m_whom, .ref m_actMany, .ref m_tokens, .ref m_afters, .ref m_afterOf, .int q_counted, .ref m_pile, .ref m_caseMany, .ref m_happen, .ref m_hasIf, .ref m_becomes, .ref m_goneOf, .ref m_heard, .ref m_pairs, .ref m_heaps, .int q_rounds, .int q_heapMany, .ref m_led, .ref m_newAt, .ref m_knowing, .ref m_firsts, .int (nI q_people), .ref m_secrets, .ref m_tried, .ref m_lanes, .ref m_lengths, .ref m_cells])), (m_actMany, .inl (E.2.1 1, 25, .inl f_actMany)), (m_actOf, .inl (E.2.1 1, 800, .inl f_actOf)), (m_pile, .inl (E.2.1 1, 34, .inl f_90))]) C 3 rfl (vp_in_nI (by omega) (by omega)) (ldn2 (by omega) ef_90) rfl dX12_depthOf_98 ?_
                    refine ww_iinc (j := 2) (v := (nI (((tt - 1) - 1) + 1))) (lv' := [(2, .int (nI (((tt - 1) - 1) + 1))), (6, .int 2), (5, .int 0), (4, .int x_6), (3, .int (nI j_5)), (0, .ref hm), (1, .int (nI sl))]) C dX12_depthOf_99 rfl (nI_add ((tt - 1) - 1) 1) rfl rfl ?_
                    obtain ⟨x_91, ex_91⟩ : ∃ z : Int32, (nI j_5) + Int32.ofInt (-1) = z := ⟨_, rfl⟩
                    have zx_91 : x_91.toInt = ((j_5 : Nat) : Int) - 1 := by rw [← ex_91]; exact i_dec (c := 1) (nI_toInt (n := j_5) (by omega)) rfl (by omega) (by omega)
                    refine ww_iinc (j := 4) (v := x_91) (lv' := [(3, .int x_91), (2, .int (nI (((tt - 1) - 1) + 1))), (6, .int 2), (5, .int 0), (4, .int x_6), (0, .ref hm), (1, .int (nI sl))]) C dX12_depthOf_102 rfl ex_91 rfl rfl ?_
                    refine ww_goto (tgt := 11) C dX12_depthOf_105 (by decide) ?_
                    exact ww_lv [0, 1, 5, 6] rfl (ww_sub [0, 1, 2, 3] rfl rfl (ih_11 x_91 j_5 (((tt - 1) - 1) + 1) f_90 (by omega) (by omega) (by omega) (by omega)))
                  · have zc_89 : x_6.toInt ≥ 8 := i_nlt rfl rfl c_89
                    omega
                · refine ww_eq (ws' := [(hm, .inr (12, [.ref m_manys, .ref m_reals, .ref m_factsOf, .ref m_possible, .int (nI q_undos), .int (nI q_models), .ref m_tape, .int (nI q_taped), .int q_fault, .int q_wrong, .int q_wrongAt, .int q_spot, .int q_place, .int q_token, .int q_value, .ref m_ends, .ref m_letters, .ref m_actOf, .ref m_whom, .ref m_actMany, .ref m_tokens, .ref m_afters, .ref m_afterOf, .int q_counted, .ref m_pile, .ref m_caseMany, .ref m_happen, .ref m_hasIf, .ref m_becomes, .ref m_goneOf, .ref m_heard, .ref m_pairs, .ref m_heaps, .int q_rounds, .int q_heapMany, .ref m_led, .ref m_newAt, .ref m_knowing, .ref m_firsts, .int (nI q_people), .ref m_secrets, .ref m_tried, .ref m_lanes, .ref m_lengths, .ref m_cells])), (m_actMany, .inl (E.2.1 1, 25, .inl f_actMany)), (m_actOf, .inl (E.2.1 1, 800, .inl f_actOf)), (m_pile, .inl (E.2.1 1, 34, .inl g1))]) ?_ rfl rfl rfl
                  refine ww_icmp_ge_t (tgt := 77) C dX12_depthOf_41 (by decide) (by decide) ?_
                  refine ww_aload_n C dX12_depthOf_77 5 rfl rfl ?_
                  refine ww_get C fg_X12_49 0 rfl rfl dX12_depthOf_78 ?_
                  refine ww_iload_n C dX12_depthOf_81 2 rfl rfl ?_
                  refine ww_iload C dX12_depthOf_82 3 rfl ?_
                  refine ww_bipush (v := 8) C dX12_depthOf_84 rfl ?_
                  refine ww_icmp_lt (tgt := 96) C dX12_depthOf_86 (by decide) (fun c_92 => ?_) (fun c_92 => ?_)
                  · have zc_92 : x_6.toInt < 8 := i_lt rfl rfl c_92
                    refine ww_iload C dX12_depthOf_96 1 rfl ?_
                    obtain ⟨f_93, ef_93⟩ : ∃ z : Nat → Int32, upd g1 ((tt - 1) - 1) 0 = z := ⟨_, rfl⟩
                    refine ww_iast (ws' := [(hm, .inr (12, [.ref m_manys, .ref m_reals, .ref m_factsOf, .ref m_possible, .int (nI q_undos), .int (nI q_models), .ref m_tape, .int (nI q_taped), .int q_fault, .int q_wrong, .int q_wrongAt, .int q_spot, .int q_place, .int q_token, .int q_value, .ref m_ends, .ref m_letters, .ref m_actOf, .ref m_whom, .ref m_actMany, .ref m_tokens, .ref m_afters, .ref m_afterOf, .int q_counted, .ref m_pile, .ref m_caseMany, .ref m_happen, .ref m_hasIf, .ref m_becomes, .ref m_goneOf, .ref m_heard, .ref m_pairs, .ref m_heaps, .int q_rounds, .int q_heapMany, .ref m_led, .ref m_newAt, .ref m_knowing, .ref m_firsts, .int (nI q_people), .ref m_secrets, .ref m_tried, .ref m_lanes, .ref m_lengths, .ref m_cells])), (m_actMany, .inl (E.2.1 1, 25, .inl f_actMany)), (m_actOf, .inl (E.2.1 1, 800, .inl f_actOf)), (m_pile, .inl (E.2.1 1, 34, .inl f_93))]) C 3 rfl (vp_in_nI (by omega) (by omega)) (ldn2 (by omega) ef_93) rfl dX12_depthOf_98 ?_
                    refine ww_iinc (j := 2) (v := (nI (((tt - 1) - 1) + 1))) (lv' := [(2, .int (nI (((tt - 1) - 1) + 1))), (6, .int 2), (5, .int 0), (4, .int x_6), (3, .int (nI j_5)), (0, .ref hm), (1, .int (nI sl))]) C dX12_depthOf_99 rfl (nI_add ((tt - 1) - 1) 1) rfl rfl ?_
                    obtain ⟨x_94, ex_94⟩ : ∃ z : Int32, (nI j_5) + Int32.ofInt (-1) = z := ⟨_, rfl⟩
                    have zx_94 : x_94.toInt = ((j_5 : Nat) : Int) - 1 := by rw [← ex_94]; exact i_dec (c := 1) (nI_toInt (n := j_5) (by omega)) rfl (by omega) (by omega)
                    refine ww_iinc (j := 4) (v := x_94) (lv' := [(3, .int x_94), (2, .int (nI (((tt - 1) - 1) + 1))), (6, .int 2), (5, .int 0), (4, .int x_6), (0, .ref hm), (1, .int (nI sl))]) C dX12_depthOf_102 rfl ex_94 rfl rfl ?_
                    refine ww_goto (tgt := 11) C dX12_depthOf_105 (by decide) ?_
                    exact ww_lv [0, 1, 5, 6] rfl (ww_sub [0, 1, 2, 3] rfl rfl (ih_11 x_94 j_5 (((tt - 1) - 1) + 1) f_93 (by omega) (by omega) (by omega) (by omega)))
                  · have zc_92 : x_6.toInt ≥ 8 := i_nlt rfl rfl c_92
                    omega
              · have zc_84 : x_83.toInt > 0 := i_nle rfl rfl c_84
                refine ww_aload_n C dX12_depthOf_58 5 rfl rfl ?_
                refine ww_get C fg_X12_49 0 rfl rfl dX12_depthOf_59 ?_
                refine ww_iload_n C dX12_depthOf_62 0 rfl rfl ?_
                obtain ⟨x_95, ex_95⟩ : ∃ z : Int32, g1 ((tt - 1) - 1) = z := ⟨_, rfl⟩
                refine ww_iald (v := x_95) C 3 rfl (vp_in_nI (by omega) (by omega)) (ldn (by omega) ex_95) dX12_depthOf_63 ?_
                refine ww_goto (tgt := 69) C dX12_depthOf_64 (by decide) ?_
                refine ww_istore (lv' := [(5, .int x_95), (2, .int (nI ((tt - 1) - 1))), (6, .int 1), (4, .int x_6), (3, .int (nI j_5)), (0, .ref hm), (1, .int (nI sl))]) C dX12_depthOf_69 rfl rfl ?_
                refine ww_iinc (j := 2) (v := 2) (lv' := [(6, .int 2), (5, .int x_95), (2, .int (nI ((tt - 1) - 1))), (4, .int x_6), (3, .int (nI j_5)), (0, .ref hm), (1, .int (nI sl))]) C dX12_depthOf_71 rfl rfl rfl rfl ?_
                refine ww_goto (tgt := 34) C dX12_depthOf_74 (by decide) ?_
                refine ww_iload C dX12_depthOf_34 0 rfl ?_
                refine ww_iload C dX12_depthOf_36 3 rfl ?_
                refine ww_ci (wr := [(hm, .inr (12, [.ref m_manys, .ref m_reals, .ref m_factsOf, .ref m_possible, .int (nI q_undos), .int (nI q_models), .ref m_tape, .int (nI q_taped), .int q_fault, .int q_wrong, .int q_wrongAt, .int q_spot, .int q_place, .int q_token, .int q_value, .ref m_ends, .ref m_letters, .ref m_actOf, .ref m_whom, .ref m_actMany, .ref m_tokens, .ref m_afters, .ref m_afterOf, .int q_counted, .ref m_pile, .ref m_caseMany, .ref m_happen, .ref m_hasIf, .ref m_becomes, .ref m_goneOf, .ref m_heard, .ref m_pairs, .ref m_heaps, .int q_rounds, .int q_heapMany, .ref m_led, .ref m_newAt, .ref m_knowing, .ref m_firsts, .int (nI q_people), .ref m_secrets, .ref m_tried, .ref m_lanes, .ref m_lengths, .ref m_cells])), (m_actMany, .inl (E.2.1 1, 25, .inl f_actMany)), (m_actOf, .inl (E.2.1 1, 800, .inl f_actOf)), (m_pile, .inl (E.2.1 1, 34, .inl g1))]) (k' := 0) (n' := 0) C (run_S (As := [.int x_6]) (rest := [.int 2]) C (r_wantsOf X.2.1 E ro x_6 x_6.toInt rfl) ms_X12_wantsOf wl_X12_215 rfl rfl rfl rfl dX12_depthOf_38) (roK hro) [] [0, 1, 2, 3] rfl rfl rfl rfl (fun r_96 uz hw => ?_)
                rcases hw with ⟨rfl, rfl, h_97⟩ | ⟨rfl, rfl, h_98⟩ | ⟨rfl, rfl, h_99⟩
                · omega
                · refine ww_eq (ws' := [(hm, .inr (12, [.ref m_manys, .ref m_reals, .ref m_factsOf, .ref m_possible, .int (nI q_undos), .int (nI q_models), .ref m_tape, .int (nI q_taped), .int q_fault, .int q_wrong, .int q_wrongAt, .int q_spot, .int q_place, .int q_token, .int q_value, .ref m_ends, .ref m_letters, .ref m_actOf, .ref m_whom, .ref m_actMany, .ref m_tokens, .ref m_afters, .ref m_afterOf, .int q_counted, .ref m_pile, .ref m_caseMany, .ref m_happen, .ref m_hasIf, .ref m_becomes, .ref m_goneOf, .ref m_heard, .ref m_pairs, .ref m_heaps, .int q_rounds, .int q_heapMany, .ref m_led, .ref m_newAt, .ref m_knowing, .ref m_firsts, .int (nI q_people), .ref m_secrets, .ref m_tried, .ref m_lanes, .ref m_lengths, .ref m_cells])), (m_actMany, .inl (E.2.1 1, 25, .inl f_actMany)), (m_actOf, .inl (E.2.1 1, 800, .inl f_actOf)), (m_pile, .inl (E.2.1 1, 34, .inl g1))]) ?_ rfl rfl rfl
                  refine ww_icmp_ge_t (tgt := 77) C dX12_depthOf_41 (by decide) (by decide) ?_
                  refine ww_aload_n C dX12_depthOf_77 5 rfl rfl ?_
                  refine ww_get C fg_X12_49 0 rfl rfl dX12_depthOf_78 ?_
                  refine ww_iload_n C dX12_depthOf_81 2 rfl rfl ?_
                  refine ww_iload C dX12_depthOf_82 3 rfl ?_
                  refine ww_bipush (v := 8) C dX12_depthOf_84 rfl ?_
                  refine ww_icmp_lt (tgt := 96) C dX12_depthOf_86 (by decide) (fun c_100 => ?_) (fun c_100 => ?_)
                  · have zc_100 : x_6.toInt < 8 := i_lt rfl rfl c_100
                    refine ww_iload C dX12_depthOf_96 1 rfl ?_
                    obtain ⟨f_101, ef_101⟩ : ∃ z : Nat → Int32, upd g1 ((tt - 1) - 1) x_95 = z := ⟨_, rfl⟩
                    refine ww_iast (ws' := [(hm, .inr (12, [.ref m_manys, .ref m_reals, .ref m_factsOf, .ref m_possible, .int (nI q_undos), .int (nI q_models), .ref m_tape, .int (nI q_taped), .int q_fault, .int q_wrong, .int q_wrongAt, .int q_spot, .int q_place, .int q_token, .int q_value, .ref m_ends, .ref m_letters, .ref m_actOf, .ref m_whom, .ref m_actMany, .ref m_tokens, .ref m_afters, .ref m_afterOf, .int q_counted, .ref m_pile, .ref m_caseMany, .ref m_happen, .ref m_hasIf, .ref m_becomes, .ref m_goneOf, .ref m_heard, .ref m_pairs, .ref m_heaps, .int q_rounds, .int q_heapMany, .ref m_led, .ref m_newAt, .ref m_knowing, .ref m_firsts, .int (nI q_people), .ref m_secrets, .ref m_tried, .ref m_lanes, .ref m_lengths, .ref m_cells])), (m_actMany, .inl (E.2.1 1, 25, .inl f_actMany)), (m_actOf, .inl (E.2.1 1, 800, .inl f_actOf)), (m_pile, .inl (E.2.1 1, 34, .inl f_101))]) C 3 rfl (vp_in_nI (by omega) (by omega)) (ldn2 (by omega) ef_101) rfl dX12_depthOf_98 ?_
                    refine ww_iinc (j := 2) (v := (nI (((tt - 1) - 1) + 1))) (lv' := [(2, .int (nI (((tt - 1) - 1) + 1))), (6, .int 2), (5, .int x_95), (4, .int x_6), (3, .int (nI j_5)), (0, .ref hm), (1, .int (nI sl))]) C dX12_depthOf_99 rfl (nI_add ((tt - 1) - 1) 1) rfl rfl ?_
                    obtain ⟨x_102, ex_102⟩ : ∃ z : Int32, (nI j_5) + Int32.ofInt (-1) = z := ⟨_, rfl⟩
                    have zx_102 : x_102.toInt = ((j_5 : Nat) : Int) - 1 := by rw [← ex_102]; exact i_dec (c := 1) (nI_toInt (n := j_5) (by omega)) rfl (by omega) (by omega)
                    refine ww_iinc (j := 4) (v := x_102) (lv' := [(3, .int x_102), (2, .int (nI (((tt - 1) - 1) + 1))), (6, .int 2), (5, .int x_95), (4, .int x_6), (0, .ref hm), (1, .int (nI sl))]) C dX12_depthOf_102 rfl ex_102 rfl rfl ?_
                    refine ww_goto (tgt := 11) C dX12_depthOf_105 (by decide) ?_
                    exact ww_lv [0, 1, 5, 6] rfl (ww_sub [0, 1, 2, 3] rfl rfl (ih_11 x_102 j_5 (((tt - 1) - 1) + 1) f_101 (by omega) (by omega) (by omega) (by omega)))
                  · have zc_100 : x_6.toInt ≥ 8 := i_nlt rfl rfl c_100
                    omega
                · refine ww_eq (ws' := [(hm, .inr (12, [.ref m_manys, .ref m_reals, .ref m_factsOf, .ref m_possible, .int (nI q_undos), .int (nI q_models), .ref m_tape, .int (nI q_taped), .int q_fault, .int q_wrong, .int q_wrongAt, .int q_spot, .int q_place, .int q_token, .int q_value, .ref m_ends, .ref m_letters, .ref m_actOf, .ref m_whom, .ref m_actMany, .ref m_tokens, .ref m_afters, .ref m_afterOf, .int q_counted, .ref m_pile, .ref m_caseMany, .ref m_happen, .ref m_hasIf, .ref m_becomes, .ref m_goneOf, .ref m_heard, .ref m_pairs, .ref m_heaps, .int q_rounds, .int q_heapMany, .ref m_led, .ref m_newAt, .ref m_knowing, .ref m_firsts, .int (nI q_people), .ref m_secrets, .ref m_tried, .ref m_lanes, .ref m_lengths, .ref m_cells])), (m_actMany, .inl (E.2.1 1, 25, .inl f_actMany)), (m_actOf, .inl (E.2.1 1, 800, .inl f_actOf)), (m_pile, .inl (E.2.1 1, 34, .inl g1))]) ?_ rfl rfl rfl
                  refine ww_icmp_ge_t (tgt := 77) C dX12_depthOf_41 (by decide) (by decide) ?_
                  refine ww_aload_n C dX12_depthOf_77 5 rfl rfl ?_
                  refine ww_get C fg_X12_49 0 rfl rfl dX12_depthOf_78 ?_
                  refine ww_iload_n C dX12_depthOf_81 2 rfl rfl ?_
                  refine ww_iload C dX12_depthOf_82 3 rfl ?_
                  refine ww_bipush (v := 8) C dX12_depthOf_84 rfl ?_
                  refine ww_icmp_lt (tgt := 96) C dX12_depthOf_86 (by decide) (fun c_103 => ?_) (fun c_103 => ?_)
                  · have zc_103 : x_6.toInt < 8 := i_lt rfl rfl c_103
                    refine ww_iload C dX12_depthOf_96 1 rfl ?_
                    obtain ⟨f_104, ef_104⟩ : ∃ z : Nat → Int32, upd g1 ((tt - 1) - 1) x_95 = z := ⟨_, rfl⟩
                    refine ww_iast (ws' := [(hm, .inr (12, [.ref m_manys, .ref m_reals, .ref m_factsOf, .ref m_possible, .int (nI q_undos), .int (nI q_models), .ref m_tape, .int (nI q_taped), .int q_fault, .int q_wrong, .int q_wrongAt, .int q_spot, .int q_place, .int q_token, .int q_value, .ref m_ends, .ref m_letters, .ref m_actOf, .ref m_whom, .ref m_actMany, .ref m_tokens, .ref m_afters, .ref m_afterOf, .int q_counted, .ref m_pile, .ref m_caseMany, .ref m_happen, .ref m_hasIf, .ref m_becomes, .ref m_goneOf, .ref m_heard, .ref m_pairs, .ref m_heaps, .int q_rounds, .int q_heapMany, .ref m_led, .ref m_newAt, .ref m_knowing, .ref m_firsts, .int (nI q_people), .ref m_secrets, .ref m_tried, .ref m_lanes, .ref m_lengths, .ref m_cells])), (m_actMany, .inl (E.2.1 1, 25, .inl f_actMany)), (m_actOf, .inl (E.2.1 1, 800, .inl f_actOf)), (m_pile, .inl (E.2.1 1, 34, .inl f_104))]) C 3 rfl (vp_in_nI (by omega) (by omega)) (ldn2 (by omega) ef_104) rfl dX12_depthOf_98 ?_
                    refine ww_iinc (j := 2) (v := (nI (((tt - 1) - 1) + 1))) (lv' := [(2, .int (nI (((tt - 1) - 1) + 1))), (6, .int 2), (5, .int x_95), (4, .int x_6), (3, .int (nI j_5)), (0, .ref hm), (1, .int (nI sl))]) C dX12_depthOf_99 rfl (nI_add ((tt - 1) - 1) 1) rfl rfl ?_
                    obtain ⟨x_105, ex_105⟩ : ∃ z : Int32, (nI j_5) + Int32.ofInt (-1) = z := ⟨_, rfl⟩
                    have zx_105 : x_105.toInt = ((j_5 : Nat) : Int) - 1 := by rw [← ex_105]; exact i_dec (c := 1) (nI_toInt (n := j_5) (by omega)) rfl (by omega) (by omega)
                    refine ww_iinc (j := 4) (v := x_105) (lv' := [(3, .int x_105), (2, .int (nI (((tt - 1) - 1) + 1))), (6, .int 2), (5, .int x_95), (4, .int x_6), (0, .ref hm), (1, .int (nI sl))]) C dX12_depthOf_102 rfl ex_105 rfl rfl ?_
                    refine ww_goto (tgt := 11) C dX12_depthOf_105 (by decide) ?_
                    exact ww_lv [0, 1, 5, 6] rfl (ww_sub [0, 1, 2, 3] rfl rfl (ih_11 x_105 j_5 (((tt - 1) - 1) + 1) f_104 (by omega) (by omega) (by omega) (by omega)))
                  · have zc_103 : x_6.toInt ≥ 8 := i_nlt rfl rfl c_103
                    omega
            · refine ww_eq (ws' := [(hm, .inr (12, [.ref m_manys, .ref m_reals, .ref m_factsOf, .ref m_possible, .int (nI q_undos), .int (nI q_models), .ref m_tape, .int (nI q_taped), .int q_fault, .int q_wrong, .int q_wrongAt, .int q_spot, .int q_place, .int q_token, .int q_value, .ref m_ends, .ref m_letters, .ref m_actOf, .ref m_whom, .ref m_actMany, .ref m_tokens, .ref m_afters, .ref m_afterOf, .int q_counted, .ref m_pile, .ref m_caseMany, .ref m_happen, .ref m_hasIf, .ref m_becomes, .ref m_goneOf, .ref m_heard, .ref m_pairs, .ref m_heaps, .int q_rounds, .int q_heapMany, .ref m_led, .ref m_newAt, .ref m_knowing, .ref m_firsts, .int (nI q_people), .ref m_secrets, .ref m_tried, .ref m_lanes, .ref m_lengths, .ref m_cells])), (m_actMany, .inl (E.2.1 1, 25, .inl f_actMany)), (m_actOf, .inl (E.2.1 1, 800, .inl f_actOf)), (m_pile, .inl (E.2.1 1, 34, .inl g1))]) ?_ rfl rfl rfl
              refine ww_icmp_ge_t (tgt := 77) C dX12_depthOf_41 (by decide) (by decide) ?_
              refine ww_aload_n C dX12_depthOf_77 5 rfl rfl ?_
              refine ww_get C fg_X12_49 0 rfl rfl dX12_depthOf_78 ?_
              refine ww_iload_n C dX12_depthOf_81 2 rfl rfl ?_
              refine ww_iload C dX12_depthOf_82 3 rfl ?_
              refine ww_bipush (v := 8) C dX12_depthOf_84 rfl ?_
              refine ww_icmp_lt (tgt := 96) C dX12_depthOf_86 (by decide) (fun c_106 => ?_) (fun c_106 => ?_)
              · have zc_106 : x_6.toInt < 8 := i_lt rfl rfl c_106
                refine ww_iload C dX12_depthOf_96 1 rfl ?_
                obtain ⟨f_107, ef_107⟩ : ∃ z : Nat → Int32, upd g1 (tt - 1) 0 = z := ⟨_, rfl⟩
                refine ww_iast (ws' := [(hm, .inr (12, [.ref m_manys, .ref m_reals, .ref m_factsOf, .ref m_possible, .int (nI q_undos), .int (nI q_models), .ref m_tape, .int (nI q_taped), .int q_fault, .int q_wrong, .int q_wrongAt, .int q_spot, .int q_place, .int q_token, .int q_value, .ref m_ends, .ref m_letters, .ref m_actOf, .ref m_whom, .ref m_actMany, .ref m_tokens, .ref m_afters, .ref m_afterOf, .int q_counted, .ref m_pile, .ref m_caseMany, .ref m_happen, .ref m_hasIf, .ref m_becomes, .ref m_goneOf, .ref m_heard, .ref m_pairs, .ref m_heaps, .int q_rounds, .int q_heapMany, .ref m_led, .ref m_newAt, .ref m_knowing, .ref m_firsts, .int (nI q_people), .ref m_secrets, .ref m_tried, .ref m_lanes, .ref m_lengths, .ref m_cells])), (m_actMany, .inl (E.2.1 1, 25, .inl f_actMany)), (m_actOf, .inl (E.2.1 1, 800, .inl f_actOf)), (m_pile, .inl (E.2.1 1, 34, .inl f_107))]) C 3 rfl (vp_in_nI (by omega) (by omega)) (ldn2 (by omega) ef_107) rfl dX12_depthOf_98 ?_
                refine ww_iinc (j := 2) (v := (nI ((tt - 1) + 1))) (lv' := [(2, .int (nI ((tt - 1) + 1))), (6, .int 1), (5, .int 0), (4, .int x_6), (3, .int (nI j_5)), (0, .ref hm), (1, .int (nI sl))]) C dX12_depthOf_99 rfl (nI_add (tt - 1) 1) rfl rfl ?_
                obtain ⟨x_108, ex_108⟩ : ∃ z : Int32, (nI j_5) + Int32.ofInt (-1) = z := ⟨_, rfl⟩
                have zx_108 : x_108.toInt = ((j_5 : Nat) : Int) - 1 := by rw [← ex_108]; exact i_dec (c := 1) (nI_toInt (n := j_5) (by omega)) rfl (by omega) (by omega)
                refine ww_iinc (j := 4) (v := x_108) (lv' := [(3, .int x_108), (2, .int (nI ((tt - 1) + 1))), (6, .int 1), (5, .int 0), (4, .int x_6), (0, .ref hm), (1, .int (nI sl))]) C dX12_depthOf_102 rfl ex_108 rfl rfl ?_
                refine ww_goto (tgt := 11) C dX12_depthOf_105 (by decide) ?_
                exact ww_lv [0, 1, 5, 6] rfl (ww_sub [0, 1, 2, 3] rfl rfl (ih_11 x_108 j_5 ((tt - 1) + 1) f_107 (by omega) (by omega) (by omega) (by omega)))
              · have zc_106 : x_6.toInt ≥ 8 := i_nlt rfl rfl c_106
                refine ww_iload C dX12_depthOf_89 1 rfl ?_
                refine ww_iconst (v := 1) C dX12_depthOf_91 rfl ?_
                refine ww_iadd (v := 1) C dX12_depthOf_92 (by decide) ?_
                refine ww_goto (tgt := 98) C dX12_depthOf_93 (by decide) ?_
                obtain ⟨f_109, ef_109⟩ : ∃ z : Nat → Int32, upd g1 (tt - 1) 1 = z := ⟨_, rfl⟩
                refine ww_iast (ws' := [(hm, .inr (12, [.ref m_manys, .ref m_reals, .ref m_factsOf, .ref m_possible, .int (nI q_undos), .int (nI q_models), .ref m_tape, .int (nI q_taped), .int q_fault, .int q_wrong, .int q_wrongAt, .int q_spot, .int q_place, .int q_token, .int q_value, .ref m_ends, .ref m_letters, .ref m_actOf, .ref m_whom, .ref m_actMany, .ref m_tokens, .ref m_afters, .ref m_afterOf, .int q_counted, .ref m_pile, .ref m_caseMany, .ref m_happen, .ref m_hasIf, .ref m_becomes, .ref m_goneOf, .ref m_heard, .ref m_pairs, .ref m_heaps, .int q_rounds, .int q_heapMany, .ref m_led, .ref m_newAt, .ref m_knowing, .ref m_firsts, .int (nI q_people), .ref m_secrets, .ref m_tried, .ref m_lanes, .ref m_lengths, .ref m_cells])), (m_actMany, .inl (E.2.1 1, 25, .inl f_actMany)), (m_actOf, .inl (E.2.1 1, 800, .inl f_actOf)), (m_pile, .inl (E.2.1 1, 34, .inl f_109))]) C 3 rfl (vp_in_nI (by omega) (by omega)) (ldn2 (by omega) ef_109) rfl dX12_depthOf_98 ?_
                refine ww_iinc (j := 2) (v := (nI ((tt - 1) + 1))) (lv' := [(2, .int (nI ((tt - 1) + 1))), (6, .int 1), (5, .int 0), (4, .int x_6), (3, .int (nI j_5)), (0, .ref hm), (1, .int (nI sl))]) C dX12_depthOf_99 rfl (nI_add (tt - 1) 1) rfl rfl ?_
                obtain ⟨x_110, ex_110⟩ : ∃ z : Int32, (nI j_5) + Int32.ofInt (-1) = z := ⟨_, rfl⟩
                have zx_110 : x_110.toInt = ((j_5 : Nat) : Int) - 1 := by rw [← ex_110]; exact i_dec (c := 1) (nI_toInt (n := j_5) (by omega)) rfl (by omega) (by omega)
                refine ww_iinc (j := 4) (v := x_110) (lv' := [(3, .int x_110), (2, .int (nI ((tt - 1) + 1))), (6, .int 1), (5, .int 0), (4, .int x_6), (0, .ref hm), (1, .int (nI sl))]) C dX12_depthOf_102 rfl ex_110 rfl rfl ?_
                refine ww_goto (tgt := 11) C dX12_depthOf_105 (by decide) ?_
                exact ww_lv [0, 1, 5, 6] rfl (ww_sub [0, 1, 2, 3] rfl rfl (ih_11 x_110 j_5 ((tt - 1) + 1) f_109 (by omega) (by omega) (by omega) (by omega)))
          · have zc_78 : x_77.toInt > 0 := i_nle rfl rfl c_78
            refine ww_aload_n C dX12_depthOf_58 5 rfl rfl ?_
            refine ww_get C fg_X12_49 0 rfl rfl dX12_depthOf_59 ?_
            refine ww_iload_n C dX12_depthOf_62 0 rfl rfl ?_
            obtain ⟨x_111, ex_111⟩ : ∃ z : Int32, g1 (tt - 1) = z := ⟨_, rfl⟩
            refine ww_iald (v := x_111) C 3 rfl (vp_in_nI (by omega) (by omega)) (ldn (by omega) ex_111) dX12_depthOf_63 ?_
            refine ww_goto (tgt := 69) C dX12_depthOf_64 (by decide) ?_
            refine ww_istore (lv' := [(5, .int x_111), (2, .int (nI (tt - 1))), (6, .int 0), (4, .int x_6), (3, .int (nI j_5)), (0, .ref hm), (1, .int (nI sl))]) C dX12_depthOf_69 rfl rfl ?_
            refine ww_iinc (j := 2) (v := 1) (lv' := [(6, .int 1), (5, .int x_111), (2, .int (nI (tt - 1))), (4, .int x_6), (3, .int (nI j_5)), (0, .ref hm), (1, .int (nI sl))]) C dX12_depthOf_71 rfl rfl rfl rfl ?_
            refine ww_goto (tgt := 34) C dX12_depthOf_74 (by decide) ?_
            refine ww_iload C dX12_depthOf_34 0 rfl ?_
            refine ww_iload C dX12_depthOf_36 3 rfl ?_
            refine ww_ci (wr := [(hm, .inr (12, [.ref m_manys, .ref m_reals, .ref m_factsOf, .ref m_possible, .int (nI q_undos), .int (nI q_models), .ref m_tape, .int (nI q_taped), .int q_fault, .int q_wrong, .int q_wrongAt, .int q_spot, .int q_place, .int q_token, .int q_value, .ref m_ends, .ref m_letters, .ref m_actOf, .ref m_whom, .ref m_actMany, .ref m_tokens, .ref m_afters, .ref m_afterOf, .int q_counted, .ref m_pile, .ref m_caseMany, .ref m_happen, .ref m_hasIf, .ref m_becomes, .ref m_goneOf, .ref m_heard, .ref m_pairs, .ref m_heaps, .int q_rounds, .int q_heapMany, .ref m_led, .ref m_newAt, .ref m_knowing, .ref m_firsts, .int (nI q_people), .ref m_secrets, .ref m_tried, .ref m_lanes, .ref m_lengths, .ref m_cells])), (m_actMany, .inl (E.2.1 1, 25, .inl f_actMany)), (m_actOf, .inl (E.2.1 1, 800, .inl f_actOf)), (m_pile, .inl (E.2.1 1, 34, .inl g1))]) (k' := 0) (n' := 0) C (run_S (As := [.int x_6]) (rest := [.int 1]) C (r_wantsOf X.2.1 E ro x_6 x_6.toInt rfl) ms_X12_wantsOf wl_X12_215 rfl rfl rfl rfl dX12_depthOf_38) (roK hro) [] [0, 1, 2, 3] rfl rfl rfl rfl (fun r_112 uz hw => ?_)
            rcases hw with ⟨rfl, rfl, h_113⟩ | ⟨rfl, rfl, h_114⟩ | ⟨rfl, rfl, h_115⟩
            · omega
            · refine ww_eq (ws' := [(hm, .inr (12, [.ref m_manys, .ref m_reals, .ref m_factsOf, .ref m_possible, .int (nI q_undos), .int (nI q_models), .ref m_tape, .int (nI q_taped), .int q_fault, .int q_wrong, .int q_wrongAt, .int q_spot, .int q_place, .int q_token, .int q_value, .ref m_ends, .ref m_letters, .ref m_actOf, .ref m_whom, .ref m_actMany, .ref m_tokens, .ref m_afters, .ref m_afterOf, .int q_counted, .ref m_pile, .ref m_caseMany, .ref m_happen, .ref m_hasIf, .ref m_becomes, .ref m_goneOf, .ref m_heard, .ref m_pairs, .ref m_heaps, .int q_rounds, .int q_heapMany, .ref m_led, .ref m_newAt, .ref m_knowing, .ref m_firsts, .int (nI q_people), .ref m_secrets, .ref m_tried, .ref m_lanes, .ref m_lengths, .ref m_cells])), (m_actMany, .inl (E.2.1 1, 25, .inl f_actMany)), (m_actOf, .inl (E.2.1 1, 800, .inl f_actOf)), (m_pile, .inl (E.2.1 1, 34, .inl g1))]) ?_ rfl rfl rfl
              refine ww_icmp_ge_f (tgt := 77) C dX12_depthOf_41 (by decide) (by decide) ?_
              refine ww_iinc (j := 2) (v := (nI ((tt - 1) - 1))) (lv' := [(2, .int (nI ((tt - 1) - 1))), (6, .int 1), (5, .int x_111), (4, .int x_6), (3, .int (nI j_5)), (0, .ref hm), (1, .int (nI sl))]) C dX12_depthOf_44 rfl (nI_subc (a := (tt - 1)) (c := 1) (by omega) rfl) rfl rfl ?_
              refine ww_aload_n C dX12_depthOf_47 5 rfl rfl ?_
              refine ww_get C fg_X12_49 0 rfl rfl dX12_depthOf_48 ?_
              refine ww_iload_n C dX12_depthOf_51 0 rfl rfl ?_
              obtain ⟨x_116, ex_116⟩ : ∃ z : Int32, g1 ((tt - 1) - 1) = z := ⟨_, rfl⟩
              refine ww_iald (v := x_116) C 3 rfl (vp_in_nI (by omega) (by omega)) (ldn (by omega) ex_116) dX12_depthOf_52 ?_
              refine ww_iload C dX12_depthOf_53 2 rfl ?_
              refine ww_icmp_le (tgt := 67) C dX12_depthOf_55 (by decide) (fun c_117 => ?_) (fun c_117 => ?_)
              · have zc_117 : x_116.toInt ≤ x_111.toInt := i_le rfl rfl c_117
                refine ww_iload C dX12_depthOf_67 2 rfl ?_
                refine ww_istore (lv' := [(5, .int x_111), (2, .int (nI ((tt - 1) - 1))), (6, .int 1), (4, .int x_6), (3, .int (nI j_5)), (0, .ref hm), (1, .int (nI sl))]) C dX12_depthOf_69 rfl rfl ?_
                refine ww_iinc (j := 2) (v := 2) (lv' := [(6, .int 2), (5, .int x_111), (2, .int (nI ((tt - 1) - 1))), (4, .int x_6), (3, .int (nI j_5)), (0, .ref hm), (1, .int (nI sl))]) C dX12_depthOf_71 rfl rfl rfl rfl ?_
                refine ww_goto (tgt := 34) C dX12_depthOf_74 (by decide) ?_
                refine ww_iload C dX12_depthOf_34 0 rfl ?_
                refine ww_iload C dX12_depthOf_36 3 rfl ?_
                refine ww_ci (wr := [(hm, .inr (12, [.ref m_manys, .ref m_reals, .ref m_factsOf, .ref m_possible, .int (nI q_undos), .int (nI q_models), .ref m_tape, .int (nI q_taped), .int q_fault, .int q_wrong, .int q_wrongAt, .int q_spot, .int q_place, .int q_token, .int q_value, .ref m_ends, .ref m_letters, .ref m_actOf, .ref m_whom, .ref m_actMany, .ref m_tokens, .ref m_afters, .ref m_afterOf, .int q_counted, .ref m_pile, .ref m_caseMany, .ref m_happen, .ref m_hasIf, .ref m_becomes, .ref m_goneOf, .ref m_heard, .ref m_pairs, .ref m_heaps, .int q_rounds, .int q_heapMany, .ref m_led, .ref m_newAt, .ref m_knowing, .ref m_firsts, .int (nI q_people), .ref m_secrets, .ref m_tried, .ref m_lanes, .ref m_lengths, .ref m_cells])), (m_actMany, .inl (E.2.1 1, 25, .inl f_actMany)), (m_actOf, .inl (E.2.1 1, 800, .inl f_actOf)), (m_pile, .inl (E.2.1 1, 34, .inl g1))]) (k' := 0) (n' := 0) C (run_S (As := [.int x_6]) (rest := [.int 2]) C (r_wantsOf X.2.1 E ro x_6 x_6.toInt rfl) ms_X12_wantsOf wl_X12_215 rfl rfl rfl rfl dX12_depthOf_38) (roK hro) [] [0, 1, 2, 3] rfl rfl rfl rfl (fun r_118 uz hw => ?_)
                rcases hw with ⟨rfl, rfl, h_119⟩ | ⟨rfl, rfl, h_120⟩ | ⟨rfl, rfl, h_121⟩
                · omega
                · refine ww_eq (ws' := [(hm, .inr (12, [.ref m_manys, .ref m_reals, .ref m_factsOf, .ref m_possible, .int (nI q_undos), .int (nI q_models), .ref m_tape, .int (nI q_taped), .int q_fault, .int q_wrong, .int q_wrongAt, .int q_spot, .int q_place, .int q_token, .int q_value, .ref m_ends, .ref m_letters, .ref m_actOf, .ref m_whom, .ref m_actMany, .ref m_tokens, .ref m_afters, .ref m_afterOf, .int q_counted, .ref m_pile, .ref m_caseMany, .ref m_happen, .ref m_hasIf, .ref m_becomes, .ref m_goneOf, .ref m_heard, .ref m_pairs, .ref m_heaps, .int q_rounds, .int q_heapMany, .ref m_led, .ref m_newAt, .ref m_knowing, .ref m_firsts, .int (nI q_people), .ref m_secrets, .ref m_tried, .ref m_lanes, .ref m_lengths, .ref m_cells])), (m_actMany, .inl (E.2.1 1, 25, .inl f_actMany)), (m_actOf, .inl (E.2.1 1, 800, .inl f_actOf)), (m_pile, .inl (E.2.1 1, 34, .inl g1))]) ?_ rfl rfl rfl
                  refine ww_icmp_ge_t (tgt := 77) C dX12_depthOf_41 (by decide) (by decide) ?_
                  refine ww_aload_n C dX12_depthOf_77 5 rfl rfl ?_
                  refine ww_get C fg_X12_49 0 rfl rfl dX12_depthOf_78 ?_
                  refine ww_iload_n C dX12_depthOf_81 2 rfl rfl ?_
                  refine ww_iload C dX12_depthOf_82 3 rfl ?_
                  refine ww_bipush (v := 8) C dX12_depthOf_84 rfl ?_
                  refine ww_icmp_lt (tgt := 96) C dX12_depthOf_86 (by decide) (fun c_122 => ?_) (fun c_122 => ?_)
                  · have zc_122 : x_6.toInt < 8 := i_lt rfl rfl c_122
                    refine ww_iload C dX12_depthOf_96 1 rfl ?_
                    obtain ⟨f_123, ef_123⟩ : ∃ z : Nat → Int32, upd g1 ((tt - 1) - 1) x_111 = z := ⟨_, rfl⟩
                    refine ww_iast (ws' := [(hm, .inr (12, [.ref m_manys, .ref m_reals, .ref m_factsOf, .ref m_possible, .int (nI q_undos), .int (nI q_models), .ref m_tape, .int (nI q_taped), .int q_fault, .int q_wrong, .int q_wrongAt, .int q_spot, .int q_place, .int q_token, .int q_value, .ref m_ends, .ref m_letters, .ref m_actOf, .ref m_whom, .ref m_actMany, .ref m_tokens, .ref m_afters, .ref m_afterOf, .int q_counted, .ref m_pile, .ref m_caseMany, .ref m_happen, .ref m_hasIf, .ref m_becomes, .ref m_goneOf, .ref m_heard, .ref m_pairs, .ref m_heaps, .int q_rounds, .int q_heapMany, .ref m_led, .ref m_newAt, .ref m_knowing, .ref m_firsts, .int (nI q_people), .ref m_secrets, .ref m_tried, .ref m_lanes, .ref m_lengths, .ref m_cells])), (m_actMany, .inl (E.2.1 1, 25, .inl f_actMany)), (m_actOf, .inl (E.2.1 1, 800, .inl f_actOf)), (m_pile, .inl (E.2.1 1, 34, .inl f_123))]) C 3 rfl (vp_in_nI (by omega) (by omega)) (ldn2 (by omega) ef_123) rfl dX12_depthOf_98 ?_
                    refine ww_iinc (j := 2) (v := (nI (((tt - 1) - 1) + 1))) (lv' := [(2, .int (nI (((tt - 1) - 1) + 1))), (6, .int 2), (5, .int x_111), (4, .int x_6), (3, .int (nI j_5)), (0, .ref hm), (1, .int (nI sl))]) C dX12_depthOf_99 rfl (nI_add ((tt - 1) - 1) 1) rfl rfl ?_
                    obtain ⟨x_124, ex_124⟩ : ∃ z : Int32, (nI j_5) + Int32.ofInt (-1) = z := ⟨_, rfl⟩
                    have zx_124 : x_124.toInt = ((j_5 : Nat) : Int) - 1 := by rw [← ex_124]; exact i_dec (c := 1) (nI_toInt (n := j_5) (by omega)) rfl (by omega) (by omega)
                    refine ww_iinc (j := 4) (v := x_124) (lv' := [(3, .int x_124), (2, .int (nI (((tt - 1) - 1) + 1))), (6, .int 2), (5, .int x_111), (4, .int x_6), (0, .ref hm), (1, .int (nI sl))]) C dX12_depthOf_102 rfl ex_124 rfl rfl ?_
                    refine ww_goto (tgt := 11) C dX12_depthOf_105 (by decide) ?_
                    exact ww_lv [0, 1, 5, 6] rfl (ww_sub [0, 1, 2, 3] rfl rfl (ih_11 x_124 j_5 (((tt - 1) - 1) + 1) f_123 (by omega) (by omega) (by omega) (by omega)))
                  · have zc_122 : x_6.toInt ≥ 8 := i_nlt rfl rfl c_122
                    omega
                · refine ww_eq (ws' := [(hm, .inr (12, [.ref m_manys, .ref m_reals, .ref m_factsOf, .ref m_possible, .int (nI q_undos), .int (nI q_models), .ref m_tape, .int (nI q_taped), .int q_fault, .int q_wrong, .int q_wrongAt, .int q_spot, .int q_place, .int q_token, .int q_value, .ref m_ends, .ref m_letters, .ref m_actOf, .ref m_whom, .ref m_actMany, .ref m_tokens, .ref m_afters, .ref m_afterOf, .int q_counted, .ref m_pile, .ref m_caseMany, .ref m_happen, .ref m_hasIf, .ref m_becomes, .ref m_goneOf, .ref m_heard, .ref m_pairs, .ref m_heaps, .int q_rounds, .int q_heapMany, .ref m_led, .ref m_newAt, .ref m_knowing, .ref m_firsts, .int (nI q_people), .ref m_secrets, .ref m_tried, .ref m_lanes, .ref m_lengths, .ref m_cells])), (m_actMany, .inl (E.2.1 1, 25, .inl f_actMany)), (m_actOf, .inl (E.2.1 1, 800, .inl f_actOf)), (m_pile, .inl (E.2.1 1, 34, .inl g1))]) ?_ rfl rfl rfl
                  refine ww_icmp_ge_t (tgt := 77) C dX12_depthOf_41 (by decide) (by decide) ?_
                  refine ww_aload_n C dX12_depthOf_77 5 rfl rfl ?_
                  refine ww_get C fg_X12_49 0 rfl rfl dX12_depthOf_78 ?_
                  refine ww_iload_n C dX12_depthOf_81 2 rfl rfl ?_
                  refine ww_iload C dX12_depthOf_82 3 rfl ?_
                  refine ww_bipush (v := 8) C dX12_depthOf_84 rfl ?_
                  refine ww_icmp_lt (tgt := 96) C dX12_depthOf_86 (by decide) (fun c_125 => ?_) (fun c_125 => ?_)
                  · have zc_125 : x_6.toInt < 8 := i_lt rfl rfl c_125
                    refine ww_iload C dX12_depthOf_96 1 rfl ?_
                    obtain ⟨f_126, ef_126⟩ : ∃ z : Nat → Int32, upd g1 ((tt - 1) - 1) x_111 = z := ⟨_, rfl⟩
                    refine ww_iast (ws' := [(hm, .inr (12, [.ref m_manys, .ref m_reals, .ref m_factsOf, .ref m_possible, .int (nI q_undos), .int (nI q_models), .ref m_tape, .int (nI q_taped), .int q_fault, .int q_wrong, .int q_wrongAt, .int q_spot, .int q_place, .int q_token, .int q_value, .ref m_ends, .ref m_letters, .ref m_actOf, .ref m_whom, .ref m_actMany, .ref m_tokens, .ref m_afters, .ref m_afterOf, .int q_counted, .ref m_pile, .ref m_caseMany, .ref m_happen, .ref m_hasIf, .ref m_becomes, .ref m_goneOf, .ref m_heard, .ref m_pairs, .ref m_heaps, .int q_rounds, .int q_heapMany, .ref m_led, .ref m_newAt, .ref m_knowing, .ref m_firsts, .int (nI q_people), .ref m_secrets, .ref m_tried, .ref m_lanes, .ref m_lengths, .ref m_cells])), (m_actMany, .inl (E.2.1 1, 25, .inl f_actMany)), (m_actOf, .inl (E.2.1 1, 800, .inl f_actOf)), (m_pile, .inl (E.2.1 1, 34, .inl f_126))]) C 3 rfl (vp_in_nI (by omega) (by omega)) (ldn2 (by omega) ef_126) rfl dX12_depthOf_98 ?_
                    refine ww_iinc (j := 2) (v := (nI (((tt - 1) - 1) + 1))) (lv' := [(2, .int (nI (((tt - 1) - 1) + 1))), (6, .int 2), (5, .int x_111), (4, .int x_6), (3, .int (nI j_5)), (0, .ref hm), (1, .int (nI sl))]) C dX12_depthOf_99 rfl (nI_add ((tt - 1) - 1) 1) rfl rfl ?_
                    obtain ⟨x_127, ex_127⟩ : ∃ z : Int32, (nI j_5) + Int32.ofInt (-1) = z := ⟨_, rfl⟩
                    have zx_127 : x_127.toInt = ((j_5 : Nat) : Int) - 1 := by rw [← ex_127]; exact i_dec (c := 1) (nI_toInt (n := j_5) (by omega)) rfl (by omega) (by omega)
                    refine ww_iinc (j := 4) (v := x_127) (lv' := [(3, .int x_127), (2, .int (nI (((tt - 1) - 1) + 1))), (6, .int 2), (5, .int x_111), (4, .int x_6), (0, .ref hm), (1, .int (nI sl))]) C dX12_depthOf_102 rfl ex_127 rfl rfl ?_
                    refine ww_goto (tgt := 11) C dX12_depthOf_105 (by decide) ?_
                    exact ww_lv [0, 1, 5, 6] rfl (ww_sub [0, 1, 2, 3] rfl rfl (ih_11 x_127 j_5 (((tt - 1) - 1) + 1) f_126 (by omega) (by omega) (by omega) (by omega)))
                  · have zc_125 : x_6.toInt ≥ 8 := i_nlt rfl rfl c_125
                    omega
              · have zc_117 : x_116.toInt > x_111.toInt := i_nle rfl rfl c_117
                refine ww_aload_n C dX12_depthOf_58 5 rfl rfl ?_
                refine ww_get C fg_X12_49 0 rfl rfl dX12_depthOf_59 ?_
                refine ww_iload_n C dX12_depthOf_62 0 rfl rfl ?_
                obtain ⟨x_128, ex_128⟩ : ∃ z : Int32, g1 ((tt - 1) - 1) = z := ⟨_, rfl⟩
                refine ww_iald (v := x_128) C 3 rfl (vp_in_nI (by omega) (by omega)) (ldn (by omega) ex_128) dX12_depthOf_63 ?_
                refine ww_goto (tgt := 69) C dX12_depthOf_64 (by decide) ?_
                refine ww_istore (lv' := [(5, .int x_128), (2, .int (nI ((tt - 1) - 1))), (6, .int 1), (4, .int x_6), (3, .int (nI j_5)), (0, .ref hm), (1, .int (nI sl))]) C dX12_depthOf_69 rfl rfl ?_
                refine ww_iinc (j := 2) (v := 2) (lv' := [(6, .int 2), (5, .int x_128), (2, .int (nI ((tt - 1) - 1))), (4, .int x_6), (3, .int (nI j_5)), (0, .ref hm), (1, .int (nI sl))]) C dX12_depthOf_71 rfl rfl rfl rfl ?_
                refine ww_goto (tgt := 34) C dX12_depthOf_74 (by decide) ?_
                refine ww_iload C dX12_depthOf_34 0 rfl ?_
                refine ww_iload C dX12_depthOf_36 3 rfl ?_
                refine ww_ci (wr := [(hm, .inr (12, [.ref m_manys, .ref m_reals, .ref m_factsOf, .ref m_possible, .int (nI q_undos), .int (nI q_models), .ref m_tape, .int (nI q_taped), .int q_fault, .int q_wrong, .int q_wrongAt, .int q_spot, .int q_place, .int q_token, .int q_value, .ref m_ends, .ref m_letters, .ref m_actOf, .ref m_whom, .ref m_actMany, .ref m_tokens, .ref m_afters, .ref m_afterOf, .int q_counted, .ref m_pile, .ref m_caseMany, .ref m_happen, .ref m_hasIf, .ref m_becomes, .ref m_goneOf, .ref m_heard, .ref m_pairs, .ref m_heaps, .int q_rounds, .int q_heapMany, .ref m_led, .ref m_newAt, .ref m_knowing, .ref m_firsts, .int (nI q_people), .ref m_secrets, .ref m_tried, .ref m_lanes, .ref m_lengths, .ref m_cells])), (m_actMany, .inl (E.2.1 1, 25, .inl f_actMany)), (m_actOf, .inl (E.2.1 1, 800, .inl f_actOf)), (m_pile, .inl (E.2.1 1, 34, .inl g1))]) (k' := 0) (n' := 0) C (run_S (As := [.int x_6]) (rest := [.int 2]) C (r_wantsOf X.2.1 E ro x_6 x_6.toInt rfl) ms_X12_wantsOf wl_X12_215 rfl rfl rfl rfl dX12_depthOf_38) (roK hro) [] [0, 1, 2, 3] rfl rfl rfl rfl (fun r_129 uz hw => ?_)
                rcases hw with ⟨rfl, rfl, h_130⟩ | ⟨rfl, rfl, h_131⟩ | ⟨rfl, rfl, h_132⟩
                · omega
                · refine ww_eq (ws' := [(hm, .inr (12, [.ref m_manys, .ref m_reals, .ref m_factsOf, .ref m_possible, .int (nI q_undos), .int (nI q_models), .ref m_tape, .int (nI q_taped), .int q_fault, .int q_wrong, .int q_wrongAt, .int q_spot, .int q_place, .int q_token, .int q_value, .ref m_ends, .ref m_letters, .ref m_actOf, .ref m_whom, .ref m_actMany, .ref m_tokens, .ref m_afters, .ref m_afterOf, .int q_counted, .ref m_pile, .ref m_caseMany, .ref m_happen, .ref m_hasIf, .ref m_becomes, .ref m_goneOf, .ref m_heard, .ref m_pairs, .ref m_heaps, .int q_rounds, .int q_heapMany, .ref m_led, .ref m_newAt, .ref m_knowing, .ref m_firsts, .int (nI q_people), .ref m_secrets, .ref m_tried, .ref m_lanes, .ref m_lengths, .ref m_cells])), (m_actMany, .inl (E.2.1 1, 25, .inl f_actMany)), (m_actOf, .inl (E.2.1 1, 800, .inl f_actOf)), (m_pile, .inl (E.2.1 1, 34, .inl g1))]) ?_ rfl rfl rfl
                  refine ww_icmp_ge_t (tgt := 77) C dX12_depthOf_41 (by decide) (by decide) ?_
                  refine ww_aload_n C dX12_depthOf_77 5 rfl rfl ?_
                  refine ww_get C fg_X12_49 0 rfl rfl dX12_depthOf_78 ?_
                  refine ww_iload_n C dX12_depthOf_81 2 rfl rfl ?_
                  refine ww_iload C dX12_depthOf_82 3 rfl ?_
                  refine ww_bipush (v := 8) C dX12_depthOf_84 rfl ?_
                  refine ww_icmp_lt (tgt := 96) C dX12_depthOf_86 (by decide) (fun c_133 => ?_) (fun c_133 => ?_)
                  · have zc_133 : x_6.toInt < 8 := i_lt rfl rfl c_133
                    refine ww_iload C dX12_depthOf_96 1 rfl ?_
                    obtain ⟨f_134, ef_134⟩ : ∃ z : Nat → Int32, upd g1 ((tt - 1) - 1) x_128 = z := ⟨_, rfl⟩
                    refine ww_iast (ws' := [(hm, .inr (12, [.ref m_manys, .ref m_reals, .ref m_factsOf, .ref m_possible, .int (nI q_undos), .int (nI q_models), .ref m_tape, .int (nI q_taped), .int q_fault, .int q_wrong, .int q_wrongAt, .int q_spot, .int q_place, .int q_token, .int q_value, .ref m_ends, .ref m_letters, .ref m_actOf, .ref m_whom, .ref m_actMany, .ref m_tokens, .ref m_afters, .ref m_afterOf, .int q_counted, .ref m_pile, .ref m_caseMany, .ref m_happen, .ref m_hasIf, .ref m_becomes, .ref m_goneOf, .ref m_heard, .ref m_pairs, .ref m_heaps, .int q_rounds, .int q_heapMany, .ref m_led, .ref m_newAt, .ref m_knowing, .ref m_firsts, .int (nI q_people), .ref m_secrets, .ref m_tried, .ref m_lanes, .ref m_lengths, .ref m_cells])), (m_actMany, .inl (E.2.1 1, 25, .inl f_actMany)), (m_actOf, .inl (E.2.1 1, 800, .inl f_actOf)), (m_pile, .inl (E.2.1 1, 34, .inl f_134))]) C 3 rfl (vp_in_nI (by omega) (by omega)) (ldn2 (by omega) ef_134) rfl dX12_depthOf_98 ?_
                    refine ww_iinc (j := 2) (v := (nI (((tt - 1) - 1) + 1))) (lv' := [(2, .int (nI (((tt - 1) - 1) + 1))), (6, .int 2), (5, .int x_128), (4, .int x_6), (3, .int (nI j_5)), (0, .ref hm), (1, .int (nI sl))]) C dX12_depthOf_99 rfl (nI_add ((tt - 1) - 1) 1) rfl rfl ?_
                    obtain ⟨x_135, ex_135⟩ : ∃ z : Int32, (nI j_5) + Int32.ofInt (-1) = z := ⟨_, rfl⟩
                    have zx_135 : x_135.toInt = ((j_5 : Nat) : Int) - 1 := by rw [← ex_135]; exact i_dec (c := 1) (nI_toInt (n := j_5) (by omega)) rfl (by omega) (by omega)
                    refine ww_iinc (j := 4) (v := x_135) (lv' := [(3, .int x_135), (2, .int (nI (((tt - 1) - 1) + 1))), (6, .int 2), (5, .int x_128), (4, .int x_6), (0, .ref hm), (1, .int (nI sl))]) C dX12_depthOf_102 rfl ex_135 rfl rfl ?_
                    refine ww_goto (tgt := 11) C dX12_depthOf_105 (by decide) ?_
                    exact ww_lv [0, 1, 5, 6] rfl (ww_sub [0, 1, 2, 3] rfl rfl (ih_11 x_135 j_5 (((tt - 1) - 1) + 1) f_134 (by omega) (by omega) (by omega) (by omega)))
                  · have zc_133 : x_6.toInt ≥ 8 := i_nlt rfl rfl c_133
                    omega
                · refine ww_eq (ws' := [(hm, .inr (12, [.ref m_manys, .ref m_reals, .ref m_factsOf, .ref m_possible, .int (nI q_undos), .int (nI q_models), .ref m_tape, .int (nI q_taped), .int q_fault, .int q_wrong, .int q_wrongAt, .int q_spot, .int q_place, .int q_token, .int q_value, .ref m_ends, .ref m_letters, .ref m_actOf, .ref m_whom, .ref m_actMany, .ref m_tokens, .ref m_afters, .ref m_afterOf, .int q_counted, .ref m_pile, .ref m_caseMany, .ref m_happen, .ref m_hasIf, .ref m_becomes, .ref m_goneOf, .ref m_heard, .ref m_pairs, .ref m_heaps, .int q_rounds, .int q_heapMany, .ref m_led, .ref m_newAt, .ref m_knowing, .ref m_firsts, .int (nI q_people), .ref m_secrets, .ref m_tried, .ref m_lanes, .ref m_lengths, .ref m_cells])), (m_actMany, .inl (E.2.1 1, 25, .inl f_actMany)), (m_actOf, .inl (E.2.1 1, 800, .inl f_actOf)), (m_pile, .inl (E.2.1 1, 34, .inl g1))]) ?_ rfl rfl rfl
                  refine ww_icmp_ge_t (tgt := 77) C dX12_depthOf_41 (by decide) (by decide) ?_
                  refine ww_aload_n C dX12_depthOf_77 5 rfl rfl ?_
                  refine ww_get C fg_X12_49 0 rfl rfl dX12_depthOf_78 ?_
                  refine ww_iload_n C dX12_depthOf_81 2 rfl rfl ?_
                  refine ww_iload C dX12_depthOf_82 3 rfl ?_
                  refine ww_bipush (v := 8) C dX12_depthOf_84 rfl ?_
                  refine ww_icmp_lt (tgt := 96) C dX12_depthOf_86 (by decide) (fun c_136 => ?_) (fun c_136 => ?_)
                  · have zc_136 : x_6.toInt < 8 := i_lt rfl rfl c_136
                    refine ww_iload C dX12_depthOf_96 1 rfl ?_
                    obtain ⟨f_137, ef_137⟩ : ∃ z : Nat → Int32, upd g1 ((tt - 1) - 1) x_128 = z := ⟨_, rfl⟩
                    refine ww_iast (ws' := [(hm, .inr (12, [.ref m_manys, .ref m_reals, .ref m_factsOf, .ref m_possible, .int (nI q_undos), .int (nI q_models), .ref m_tape, .int (nI q_taped), .int q_fault, .int q_wrong, .int q_wrongAt, .int q_spot, .int q_place, .int q_token, .int q_value, .ref m_ends, .ref m_letters, .ref m_actOf, .ref m_whom, .ref m_actMany, .ref m_tokens, .ref m_afters, .ref m_afterOf, .int q_counted, .ref m_pile, .ref m_caseMany, .ref m_happen, .ref m_hasIf, .ref m_becomes, .ref m_goneOf, .ref m_heard, .ref m_pairs, .ref m_heaps, .int q_rounds, .int q_heapMany, .ref m_led, .ref m_newAt, .ref m_knowing, .ref m_firsts, .int (nI q_people), .ref m_secrets, .ref m_tried, .ref m_lanes, .ref m_lengths, .ref m_cells])), (m_actMany, .inl (E.2.1 1, 25, .inl f_actMany)), (m_actOf, .inl (E.2.1 1, 800, .inl f_actOf)), (m_pile, .inl (E.2.1 1, 34, .inl f_137))]) C 3 rfl (vp_in_nI (by omega) (by omega)) (ldn2 (by omega) ef_137) rfl dX12_depthOf_98 ?_
                    refine ww_iinc (j := 2) (v := (nI (((tt - 1) - 1) + 1))) (lv' := [(2, .int (nI (((tt - 1) - 1) + 1))), (6, .int 2), (5, .int x_128), (4, .int x_6), (3, .int (nI j_5)), (0, .ref hm), (1, .int (nI sl))]) C dX12_depthOf_99 rfl (nI_add ((tt - 1) - 1) 1) rfl rfl ?_
                    obtain ⟨x_138, ex_138⟩ : ∃ z : Int32, (nI j_5) + Int32.ofInt (-1) = z := ⟨_, rfl⟩
                    have zx_138 : x_138.toInt = ((j_5 : Nat) : Int) - 1 := by rw [← ex_138]; exact i_dec (c := 1) (nI_toInt (n := j_5) (by omega)) rfl (by omega) (by omega)
                    refine ww_iinc (j := 4) (v := x_138) (lv' := [(3, .int x_138), (2, .int (nI (((tt - 1) - 1) + 1))), (6, .int 2), (5, .int x_128), (4, .int x_6), (0, .ref hm), (1, .int (nI sl))]) C dX12_depthOf_102 rfl ex_138 rfl rfl ?_
                    refine ww_goto (tgt := 11) C dX12_depthOf_105 (by decide) ?_
                    exact ww_lv [0, 1, 5, 6] rfl (ww_sub [0, 1, 2, 3] rfl rfl (ih_11 x_138 j_5 (((tt - 1) - 1) + 1) f_137 (by omega) (by omega) (by omega) (by omega)))
                  · have zc_136 : x_6.toInt ≥ 8 := i_nlt rfl rfl c_136
                    omega
            · refine ww_eq (ws' := [(hm, .inr (12, [.ref m_manys, .ref m_reals, .ref m_factsOf, .ref m_possible, .int (nI q_undos), .int (nI q_models), .ref m_tape, .int (nI q_taped), .int q_fault, .int q_wrong, .int q_wrongAt, .int q_spot, .int q_place, .int q_token, .int q_value, .ref m_ends, .ref m_letters, .ref m_actOf, .ref m_whom, .ref m_actMany, .ref m_tokens, .ref m_afters, .ref m_afterOf, .int q_counted, .ref m_pile, .ref m_caseMany, .ref m_happen, .ref m_hasIf, .ref m_becomes, .ref m_goneOf, .ref m_heard, .ref m_pairs, .ref m_heaps, .int q_rounds, .int q_heapMany, .ref m_led, .ref m_newAt, .ref m_knowing, .ref m_firsts, .int (nI q_people), .ref m_secrets, .ref m_tried, .ref m_lanes, .ref m_lengths, .ref m_cells])), (m_actMany, .inl (E.2.1 1, 25, .inl f_actMany)), (m_actOf, .inl (E.2.1 1, 800, .inl f_actOf)), (m_pile, .inl (E.2.1 1, 34, .inl g1))]) ?_ rfl rfl rfl
              refine ww_icmp_ge_t (tgt := 77) C dX12_depthOf_41 (by decide) (by decide) ?_
              refine ww_aload_n C dX12_depthOf_77 5 rfl rfl ?_
              refine ww_get C fg_X12_49 0 rfl rfl dX12_depthOf_78 ?_
              refine ww_iload_n C dX12_depthOf_81 2 rfl rfl ?_
              refine ww_iload C dX12_depthOf_82 3 rfl ?_
              refine ww_bipush (v := 8) C dX12_depthOf_84 rfl ?_
              refine ww_icmp_lt (tgt := 96) C dX12_depthOf_86 (by decide) (fun c_139 => ?_) (fun c_139 => ?_)
              · have zc_139 : x_6.toInt < 8 := i_lt rfl rfl c_139
                refine ww_iload C dX12_depthOf_96 1 rfl ?_
                obtain ⟨f_140, ef_140⟩ : ∃ z : Nat → Int32, upd g1 (tt - 1) x_111 = z := ⟨_, rfl⟩
                refine ww_iast (ws' := [(hm, .inr (12, [.ref m_manys, .ref m_reals, .ref m_factsOf, .ref m_possible, .int (nI q_undos), .int (nI q_models), .ref m_tape, .int (nI q_taped), .int q_fault, .int q_wrong, .int q_wrongAt, .int q_spot, .int q_place, .int q_token, .int q_value, .ref m_ends, .ref m_letters, .ref m_actOf, .ref m_whom, .ref m_actMany, .ref m_tokens, .ref m_afters, .ref m_afterOf, .int q_counted, .ref m_pile, .ref m_caseMany, .ref m_happen, .ref m_hasIf, .ref m_becomes, .ref m_goneOf, .ref m_heard, .ref m_pairs, .ref m_heaps, .int q_rounds, .int q_heapMany, .ref m_led, .ref m_newAt, .ref m_knowing, .ref m_firsts, .int (nI q_people), .ref m_secrets, .ref m_tried, .ref m_lanes, .ref m_lengths, .ref m_cells])), (m_actMany, .inl (E.2.1 1, 25, .inl f_actMany)), (m_actOf, .inl (E.2.1 1, 800, .inl f_actOf)), (m_pile, .inl (E.2.1 1, 34, .inl f_140))]) C 3 rfl (vp_in_nI (by omega) (by omega)) (ldn2 (by omega) ef_140) rfl dX12_depthOf_98 ?_
                refine ww_iinc (j := 2) (v := (nI ((tt - 1) + 1))) (lv' := [(2, .int (nI ((tt - 1) + 1))), (6, .int 1), (5, .int x_111), (4, .int x_6), (3, .int (nI j_5)), (0, .ref hm), (1, .int (nI sl))]) C dX12_depthOf_99 rfl (nI_add (tt - 1) 1) rfl rfl ?_
                obtain ⟨x_141, ex_141⟩ : ∃ z : Int32, (nI j_5) + Int32.ofInt (-1) = z := ⟨_, rfl⟩
                have zx_141 : x_141.toInt = ((j_5 : Nat) : Int) - 1 := by rw [← ex_141]; exact i_dec (c := 1) (nI_toInt (n := j_5) (by omega)) rfl (by omega) (by omega)
                refine ww_iinc (j := 4) (v := x_141) (lv' := [(3, .int x_141), (2, .int (nI ((tt - 1) + 1))), (6, .int 1), (5, .int x_111), (4, .int x_6), (0, .ref hm), (1, .int (nI sl))]) C dX12_depthOf_102 rfl ex_141 rfl rfl ?_
                refine ww_goto (tgt := 11) C dX12_depthOf_105 (by decide) ?_
                exact ww_lv [0, 1, 5, 6] rfl (ww_sub [0, 1, 2, 3] rfl rfl (ih_11 x_141 j_5 ((tt - 1) + 1) f_140 (by omega) (by omega) (by omega) (by omega)))
              · have zc_139 : x_6.toInt ≥ 8 := i_nlt rfl rfl c_139
                refine ww_iload C dX12_depthOf_89 1 rfl ?_
                refine ww_iconst (v := 1) C dX12_depthOf_91 rfl ?_
                obtain ⟨x_142, ex_142⟩ : ∃ z : Int32, x_111 + (1 : Int32) = z := ⟨_, rfl⟩
                refine ww_iadd (v := x_142) C dX12_depthOf_92 ex_142 ?_
                refine ww_goto (tgt := 98) C dX12_depthOf_93 (by decide) ?_
                obtain ⟨f_143, ef_143⟩ : ∃ z : Nat → Int32, upd g1 (tt - 1) x_142 = z := ⟨_, rfl⟩
                refine ww_iast (ws' := [(hm, .inr (12, [.ref m_manys, .ref m_reals, .ref m_factsOf, .ref m_possible, .int (nI q_undos), .int (nI q_models), .ref m_tape, .int (nI q_taped), .int q_fault, .int q_wrong, .int q_wrongAt, .int q_spot, .int q_place, .int q_token, .int q_value, .ref m_ends, .ref m_letters, .ref m_actOf, .ref m_whom, .ref m_actMany, .ref m_tokens, .ref m_afters, .ref m_afterOf, .int q_counted, .ref m_pile, .ref m_caseMany, .ref m_happen, .ref m_hasIf, .ref m_becomes, .ref m_goneOf, .ref m_heard, .ref m_pairs, .ref m_heaps, .int q_rounds, .int q_heapMany, .ref m_led, .ref m_newAt, .ref m_knowing, .ref m_firsts, .int (nI q_people), .ref m_secrets, .ref m_tried, .ref m_lanes, .ref m_lengths, .ref m_cells])), (m_actMany, .inl (E.2.1 1, 25, .inl f_actMany)), (m_actOf, .inl (E.2.1 1, 800, .inl f_actOf)), (m_pile, .inl (E.2.1 1, 34, .inl f_143))]) C 3 rfl (vp_in_nI (by omega) (by omega)) (ldn2 (by omega) ef_143) rfl dX12_depthOf_98 ?_
                refine ww_iinc (j := 2) (v := (nI ((tt - 1) + 1))) (lv' := [(2, .int (nI ((tt - 1) + 1))), (6, .int 1), (5, .int x_111), (4, .int x_6), (3, .int (nI j_5)), (0, .ref hm), (1, .int (nI sl))]) C dX12_depthOf_99 rfl (nI_add (tt - 1) 1) rfl rfl ?_
                obtain ⟨x_144, ex_144⟩ : ∃ z : Int32, (nI j_5) + Int32.ofInt (-1) = z := ⟨_, rfl⟩
                have zx_144 : x_144.toInt = ((j_5 : Nat) : Int) - 1 := by rw [← ex_144]; exact i_dec (c := 1) (nI_toInt (n := j_5) (by omega)) rfl (by omega) (by omega)
                refine ww_iinc (j := 4) (v := x_144) (lv' := [(3, .int x_144), (2, .int (nI ((tt - 1) + 1))), (6, .int 1), (5, .int x_111), (4, .int x_6), (0, .ref hm), (1, .int (nI sl))]) C dX12_depthOf_102 rfl ex_144 rfl rfl ?_
                refine ww_goto (tgt := 11) C dX12_depthOf_105 (by decide) ?_
                exact ww_lv [0, 1, 5, 6] rfl (ww_sub [0, 1, 2, 3] rfl rfl (ih_11 x_144 j_5 ((tt - 1) + 1) f_143 (by omega) (by omega) (by omega) (by omega)))
  exact ww_lv [0, 1, 2, 3] rfl (ww_sub [0, 1, 2, 3] rfl rfl (loop_11 _ x_2 (cN f_actMany sl) 0 f_pile (by omega) (by omega) (by have := hwr.2.2; omega) (Nat.lt_succ_self _)))
theorem dX12_saying_0 : decode cX12_saying 0 = .ok (.aload_n 0, 1) := by decide +kernel
theorem dX12_saying_1 : decode cX12_saying 1 = .ok (.iload_n 1, 1) := by decide +kernel
theorem dX12_saying_2 : decode cX12_saying 2 = .ok (.invokevirtual 224, 3) := by decide +kernel
theorem wl_X12_224 : Cond.methodLink RX12 224 yX12_isSaying ∈ TB := tbm (tq6 (List.mem_of_getElem? (i := 105) (by decide +kernel))) (by decide +kernel)
theorem wc_X12_isSaying : Cond.code yX12_isSaying cX12_isSaying 2 (some .boolean) ∈ TB := tbm (tq6 (List.mem_of_getElem? (i := 108) (rfl))) (by decide +kernel)
theorem wi_X12_isSaying : Cond.instanceMethod yX12_isSaying ∈ TB := tbm (tq6 (List.mem_of_getElem? (i := 107) (by decide +kernel))) (by decide +kernel)
theorem ws_X12_isSaying : Cond.selects RX12 yX12_isSaying yX12_isSaying ∈ TB := tbm (tq0 (List.mem_of_getElem? (i := 52) (by decide +kernel))) (by decide +kernel)
theorem mi_X12_isSaying : MI yX12_isSaying cX12_isSaying 2 (some .boolean) 1 := ⟨wc_X12_isSaying, wn_X12, ⟨by decide +kernel, by decide +kernel, by decide +kernel⟩, wi_X12_isSaying, ws_X12_isSaying⟩
theorem dX12_saying_5 : decode cX12_saying 5 = .ok (.ifCond .eq 15, 3) := by decide +kernel
theorem dX12_saying_8 : decode cX12_saying 8 = .ok (.iload_n 2, 1) := by decide +kernel
theorem dX12_saying_9 : decode cX12_saying 9 = .ok (.i2l, 1) := by decide +kernel
theorem dX12_saying_10 : decode cX12_saying 10 = .ok (.lconst 0, 1) := by decide +kernel
theorem dX12_saying_11 : decode cX12_saying 11 = .ok (.ldc2_w 113, 3) := by decide +kernel
theorem dX12_saying_14 : decode cX12_saying 14 = .ok (.invokestatic 115, 3) := by decide +kernel
theorem dX12_saying_17 : decode cX12_saying 17 = .ok (.ifCond .ne 5, 3) := by decide +kernel
theorem dX12_saying_22 : decode cX12_saying 22 = .ok (.iconst 0, 1) := by decide +kernel
theorem dX12_saying_23 : decode cX12_saying 23 = .ok (.istore_n 3, 1) := by decide +kernel
theorem dX12_saying_24 : decode cX12_saying 24 = .ok (.iconst 0, 1) := by decide +kernel
theorem dX12_saying_25 : decode cX12_saying 25 = .ok (.istore 4, 2) := by decide +kernel
theorem dX12_saying_27 : decode cX12_saying 27 = .ok (.iload 4, 2) := by decide +kernel
theorem dX12_saying_29 : decode cX12_saying 29 = .ok (.aload_n 0, 1) := by decide +kernel
theorem dX12_saying_30 : decode cX12_saying 30 = .ok (.getfield 37, 3) := by decide +kernel
theorem dX12_saying_33 : decode cX12_saying 33 = .ok (.iload_n 1, 1) := by decide +kernel
theorem dX12_saying_34 : decode cX12_saying 34 = .ok (.iaload, 1) := by decide +kernel
theorem dX12_saying_35 : decode cX12_saying 35 = .ok (.if_icmp .ge 40, 3) := by decide +kernel
theorem dX12_saying_75 : decode cX12_saying 75 = .ok (.iload_n 2, 1) := by decide +kernel
theorem dX12_saying_76 : decode cX12_saying 76 = .ok (.ifCond .ne 12, 3) := by decide +kernel
theorem dX12_saying_88 : decode cX12_saying 88 = .ok (.iload_n 2, 1) := by decide +kernel
theorem dX12_saying_89 : decode cX12_saying 89 = .ok (.iconst 1, 1) := by decide +kernel
theorem dX12_saying_90 : decode cX12_saying 90 = .ok (.if_icmp .ne 12, 3) := by decide +kernel
theorem dX12_saying_102 : decode cX12_saying 102 = .ok (.iload_n 2, 1) := by decide +kernel
theorem dX12_saying_103 : decode cX12_saying 103 = .ok (.iconst 2, 1) := by decide +kernel
theorem dX12_saying_104 : decode cX12_saying 104 = .ok (.if_icmp .ne 11, 3) := by decide +kernel
theorem dX12_saying_115 : decode cX12_saying 115 = .ok (.iload_n 3, 1) := by decide +kernel
theorem dX12_saying_116 : decode cX12_saying 116 = .ok (.ireturn, 1) := by decide +kernel
theorem dX12_saying_107 : decode cX12_saying 107 = .ok (.aload_n 0, 1) := by decide +kernel
theorem dX12_saying_108 : decode cX12_saying 108 = .ok (.iload_n 1, 1) := by decide +kernel
theorem dX12_saying_109 : decode cX12_saying 109 = .ok (.invokevirtual 227, 3) := by decide +kernel
theorem wl_X12_227 : Cond.methodLink RX12 227 yX12_depthOf ∈ TB := tbm (tq6 (List.mem_of_getElem? (i := 109) (by decide +kernel))) (by decide +kernel)
theorem wc_X12_depthOf : Cond.code yX12_depthOf cX12_depthOf 7 (some .int) ∈ TB := tbm (tq6 (List.mem_of_getElem? (i := 112) (rfl))) (by decide +kernel)
theorem wi_X12_depthOf : Cond.instanceMethod yX12_depthOf ∈ TB := tbm (tq6 (List.mem_of_getElem? (i := 111) (by decide +kernel))) (by decide +kernel)
theorem ws_X12_depthOf : Cond.selects RX12 yX12_depthOf yX12_depthOf ∈ TB := tbm (tq0 (List.mem_of_getElem? (i := 53) (by decide +kernel))) (by decide +kernel)
theorem mi_X12_depthOf : MI yX12_depthOf cX12_depthOf 7 (some .int) 1 := ⟨wc_X12_depthOf, wn_X12, ⟨by decide +kernel, by decide +kernel, by decide +kernel⟩, wi_X12_depthOf, ws_X12_depthOf⟩
theorem dX12_saying_112 : decode cX12_saying 112 = .ok (.goto 4, 3) := by decide +kernel
theorem dX12_saying_93 : decode cX12_saying 93 = .ok (.aload_n 0, 1) := by decide +kernel
theorem dX12_saying_94 : decode cX12_saying 94 = .ok (.getfield 43, 3) := by decide +kernel
theorem dX12_saying_97 : decode cX12_saying 97 = .ok (.iload_n 1, 1) := by decide +kernel
theorem dX12_saying_98 : decode cX12_saying 98 = .ok (.iaload, 1) := by decide +kernel
theorem dX12_saying_99 : decode cX12_saying 99 = .ok (.goto 17, 3) := by decide +kernel
theorem dX12_saying_79 : decode cX12_saying 79 = .ok (.aload_n 0, 1) := by decide +kernel
theorem dX12_saying_80 : decode cX12_saying 80 = .ok (.getfield 40, 3) := by decide +kernel
theorem dX12_saying_83 : decode cX12_saying 83 = .ok (.iload_n 1, 1) := by decide +kernel
theorem dX12_saying_84 : decode cX12_saying 84 = .ok (.iaload, 1) := by decide +kernel
theorem dX12_saying_85 : decode cX12_saying 85 = .ok (.goto 31, 3) := by decide +kernel
theorem dX12_saying_38 : decode cX12_saying 38 = .ok (.aload_n 0, 1) := by decide +kernel
theorem dX12_saying_39 : decode cX12_saying 39 = .ok (.getfield 31, 3) := by decide +kernel
theorem dX12_saying_42 : decode cX12_saying 42 = .ok (.bipush 32, 2) := by decide +kernel
theorem dX12_saying_44 : decode cX12_saying 44 = .ok (.iload_n 1, 1) := by decide +kernel
theorem dX12_saying_45 : decode cX12_saying 45 = .ok (.imul, 1) := by decide +kernel
theorem dX12_saying_46 : decode cX12_saying 46 = .ok (.iload 4, 2) := by decide +kernel
theorem dX12_saying_48 : decode cX12_saying 48 = .ok (.iadd, 1) := by decide +kernel
theorem dX12_saying_49 : decode cX12_saying 49 = .ok (.iaload, 1) := by decide +kernel
theorem dX12_saying_50 : decode cX12_saying 50 = .ok (.istore 5, 2) := by decide +kernel
theorem dX12_saying_52 : decode cX12_saying 52 = .ok (.iload_n 3, 1) := by decide +kernel
theorem dX12_saying_53 : decode cX12_saying 53 = .ok (.iload 5, 2) := by decide +kernel
theorem dX12_saying_55 : decode cX12_saying 55 = .ok (.iconst 4, 1) := by decide +kernel
theorem dX12_saying_56 : decode cX12_saying 56 = .ok (.if_icmp .ge 10, 3) := by decide +kernel
theorem dX12_saying_66 : decode cX12_saying 66 = .ok (.iconst 0, 1) := by decide +kernel
theorem dX12_saying_67 : decode cX12_saying 67 = .ok (.ior, 1) := by decide +kernel
theorem dX12_saying_68 : decode cX12_saying 68 = .ok (.istore_n 3, 1) := by decide +kernel
theorem dX12_saying_69 : decode cX12_saying 69 = .ok (.iinc 4 1, 3) := by decide +kernel
theorem dX12_saying_72 : decode cX12_saying 72 = .ok (.goto (-45), 3) := by decide +kernel
theorem dX12_saying_59 : decode cX12_saying 59 = .ok (.iconst 1, 1) := by decide +kernel
theorem dX12_saying_60 : decode cX12_saying 60 = .ok (.iload 5, 2) := by decide +kernel
theorem dX12_saying_62 : decode cX12_saying 62 = .ok (.ishl, 1) := by decide +kernel
theorem dX12_saying_63 : decode cX12_saying 63 = .ok (.goto 4, 3) := by decide +kernel
theorem dX12_saying_20 : decode cX12_saying 20 = .ok (.iconst (-1), 1) := by decide +kernel
theorem dX12_saying_21 : decode cX12_saying 21 = .ok (.ireturn, 1) := by decide +kernel
set_option maxRecDepth 100000 in
set_option maxHeartbeats 4000000 in
theorem y_saying (l : Launch) (E : EV) (ro : va_W) (hm : Nat) (v0 : Int32) (v1 : Int32) (m_manys : Nat) (m_reals : Nat) (m_factsOf : Nat) (m_possible : Nat) (q_undos : Nat) (q_models : Nat) (m_tape : Nat) (q_taped : Nat) (q_fault : Int32) (q_wrong : Int32) (q_wrongAt : Int32) (q_spot : Int32) (q_place : Int32) (q_token : Int32) (q_value : Int32) (m_ends : Nat) (m_letters : Nat) (m_actOf : Nat) (m_whom : Nat) (m_actMany : Nat) (m_tokens : Nat) (m_afters : Nat) (m_afterOf : Nat) (q_counted : Int32) (m_pile : Nat) (m_caseMany : Nat) (m_happen : Nat) (m_hasIf : Nat) (m_becomes : Nat) (m_goneOf : Nat) (m_heard : Nat) (m_pairs : Nat) (m_heaps : Nat) (q_rounds : Int32) (q_heapMany : Int32) (m_led : Nat) (m_newAt : Nat) (m_knowing : Nat) (m_firsts : Nat) (q_people : Nat) (m_secrets : Nat) (m_tried : Nat) (m_lanes : Nat) (m_lengths : Nat) (m_cells : Nat) (f_actMany : Nat → Int32) (f_actOf : Nat → Int32) (f_tokens : Nat → Int32) (f_afters : Nat → Int32) (f_pile : Nat → Int32) (hb_actMany : NB 25 32 f_actMany) (hb_afters : NB 9 2 f_afters) (hsv : SV f_actOf f_actMany) : CT l yX12_saying (Cond.code yX12_saying cX12_saying 6 (some .int) :: TB) ({ frames := 2, cells := 0, slots := 0, locals := 46 }) E ro [.ref hm, .int v0, .int v1] [(hm, .inr (12, [.ref m_manys, .ref m_reals, .ref m_factsOf, .ref m_possible, .int (nI q_undos), .int (nI q_models), .ref m_tape, .int (nI q_taped), .int q_fault, .int q_wrong, .int q_wrongAt, .int q_spot, .int q_place, .int q_token, .int q_value, .ref m_ends, .ref m_letters, .ref m_actOf, .ref m_whom, .ref m_actMany, .ref m_tokens, .ref m_afters, .ref m_afterOf, .int q_counted, .ref m_pile, .ref m_caseMany, .ref m_happen, .ref m_hasIf, .ref m_becomes, .ref m_goneOf, .ref m_heard, .ref m_pairs, .ref m_heaps, .int q_rounds, .int q_heapMany, .ref m_led, .ref m_newAt, .ref m_knowing, .ref m_firsts, .int (nI q_people), .ref m_secrets, .ref m_tried, .ref m_lanes, .ref m_lengths, .ref m_cells])), (m_actMany, .inl (E.2.1 1, 25, .inl f_actMany)), (m_actOf, .inl (E.2.1 1, 800, .inl f_actOf)), (m_tokens, .inl (E.2.1 1, 9, .inl f_tokens)), (m_afters, .inl (E.2.1 1, 9, .inl f_afters)), (m_pile, .inl (E.2.1 1, 34, .inl f_pile))] (Qi E (fun (rz : Int32) uz => (∃ (f_pilez : Nat → Int32), uz = [(hm, .inr (12, [.ref m_manys, .ref m_reals, .ref m_factsOf, .ref m_possible, .int (nI q_undos), .int (nI q_models), .ref m_tape, .int (nI q_taped), .int q_fault, .int q_wrong, .int q_wrongAt, .int q_spot, .int q_place, .int q_token, .int q_value, .ref m_ends, .ref m_letters, .ref m_actOf, .ref m_whom, .ref m_actMany, .ref m_tokens, .ref m_afters, .ref m_afterOf, .int q_counted, .ref m_pile, .ref m_caseMany, .ref m_happen, .ref m_hasIf, .ref m_becomes, .ref m_goneOf, .ref m_heard, .ref m_pairs, .ref m_heaps, .int q_rounds, .int q_heapMany, .ref m_led, .ref m_newAt, .ref m_knowing, .ref m_firsts, .int (nI q_people), .ref m_secrets, .ref m_tried, .ref m_lanes, .ref m_lengths, .ref m_cells])), (m_actMany, .inl (E.2.1 1, 25, .inl f_actMany)), (m_actOf, .inl (E.2.1 1, 800, .inl f_actOf)), (m_tokens, .inl (E.2.1 1, 9, .inl f_tokens)), (m_afters, .inl (E.2.1 1, 9, .inl f_afters)), (m_pile, .inl (E.2.1 1, 34, .inl f_pilez))]))) 0 0 := by
  refine ct_of rfl rfl ?_
  intro X C hT hin hro
  show WW X 6 E 0 [(0, .ref hm), (1, .int v0), (2, .int v1)] [] [(hm, .inr (12, [.ref m_manys, .ref m_reals, .ref m_factsOf, .ref m_possible, .int (nI q_undos), .int (nI q_models), .ref m_tape, .int (nI q_taped), .int q_fault, .int q_wrong, .int q_wrongAt, .int q_spot, .int q_place, .int q_token, .int q_value, .ref m_ends, .ref m_letters, .ref m_actOf, .ref m_whom, .ref m_actMany, .ref m_tokens, .ref m_afters, .ref m_afterOf, .int q_counted, .ref m_pile, .ref m_caseMany, .ref m_happen, .ref m_hasIf, .ref m_becomes, .ref m_goneOf, .ref m_heard, .ref m_pairs, .ref m_heaps, .int q_rounds, .int q_heapMany, .ref m_led, .ref m_newAt, .ref m_knowing, .ref m_firsts, .int (nI q_people), .ref m_secrets, .ref m_tried, .ref m_lanes, .ref m_lengths, .ref m_cells])), (m_actMany, .inl (E.2.1 1, 25, .inl f_actMany)), (m_actOf, .inl (E.2.1 1, 800, .inl f_actOf)), (m_tokens, .inl (E.2.1 1, 9, .inl f_tokens)), (m_afters, .inl (E.2.1 1, 9, .inl f_afters)), (m_pile, .inl (E.2.1 1, 34, .inl f_pile))] 0 0
  have ham := hb_actMany
  refine ww_aload_n C dX12_saying_0 0 rfl rfl ?_
  refine ww_iload_n C dX12_saying_1 1 rfl rfl ?_
  refine ww_ci (wr := [(m_actMany, .inl (E.2.1 1, 25, .inl f_actMany)), (m_actOf, .inl (E.2.1 1, 800, .inl f_actOf)), (m_afters, .inl (E.2.1 1, 9, .inl f_afters)), (m_pile, .inl (E.2.1 1, 34, .inl f_pile))]) (k' := 0) (n' := 0) C (run_V (As := [.int v0]) (rest := []) C (r_isSaying X.2.1 E ro hm v0 m_manys m_reals m_factsOf m_possible q_undos q_models m_tape q_taped q_fault q_wrong q_wrongAt q_spot q_place q_token q_value m_ends m_letters m_actOf m_whom m_actMany m_tokens m_afters m_afterOf q_counted m_pile m_caseMany m_happen m_hasIf m_becomes m_goneOf m_heard m_pairs m_heaps q_rounds q_heapMany m_led m_newAt m_knowing m_firsts q_people m_secrets m_tried m_lanes m_lengths m_cells f_tokens) mi_X12_isSaying wl_X12_224 rfl 0 12 rfl rfl rfl rfl rfl dX12_saying_2) (roK hro) [0, 3] [1, 2, 4, 5] rfl rfl rfl rfl (fun r_1 uz hw => ?_)
  rcases hw with ⟨rfl, rfl, h_2, h_3⟩ | ⟨rfl, rfl⟩
  · refine ww_eq (ws' := [(m_actMany, .inl (E.2.1 1, 25, .inl f_actMany)), (m_actOf, .inl (E.2.1 1, 800, .inl f_actOf)), (m_afters, .inl (E.2.1 1, 9, .inl f_afters)), (m_pile, .inl (E.2.1 1, 34, .inl f_pile)), (hm, .inr (12, [.ref m_manys, .ref m_reals, .ref m_factsOf, .ref m_possible, .int (nI q_undos), .int (nI q_models), .ref m_tape, .int (nI q_taped), .int q_fault, .int q_wrong, .int q_wrongAt, .int q_spot, .int q_place, .int q_token, .int q_value, .ref m_ends, .ref m_letters, .ref m_actOf, .ref m_whom, .ref m_actMany, .ref m_tokens, .ref m_afters, .ref m_afterOf, .int q_counted, .ref m_pile, .ref m_caseMany, .ref m_happen, .ref m_hasIf, .ref m_becomes, .ref m_goneOf, .ref m_heard, .ref m_pairs, .ref m_heaps, .int q_rounds, .int q_heapMany, .ref m_led, .ref m_newAt, .ref m_knowing, .ref m_firsts, .int (nI q_people), .ref m_secrets, .ref m_tried, .ref m_lanes, .ref m_lengths, .ref m_cells])), (m_tokens, .inl (E.2.1 1, 9, .inl f_tokens))]) ?_ rfl rfl rfl
    refine ww_if_eq_f (tgt := 20) C dX12_saying_5 (by decide) (by decide) ?_
    refine ww_iload_n C dX12_saying_8 2 rfl rfl ?_
    refine ww_i2l (v := v1.toInt64) C dX12_saying_9 rfl ?_
    refine ww_lconst (v := 0) C dX12_saying_10 rfl ?_
    refine ww_ldc2 C wv_X12_113 dX12_saying_11 ?_
    refine ww_ci (wr := [(m_actMany, .inl (E.2.1 1, 25, .inl f_actMany)), (m_actOf, .inl (E.2.1 1, 800, .inl f_actOf)), (m_afters, .inl (E.2.1 1, 9, .inl f_afters)), (m_pile, .inl (E.2.1 1, 34, .inl f_pile)), (hm, .inr (12, [.ref m_manys, .ref m_reals, .ref m_factsOf, .ref m_possible, .int (nI q_undos), .int (nI q_models), .ref m_tape, .int (nI q_taped), .int q_fault, .int q_wrong, .int q_wrongAt, .int q_spot, .int q_place, .int q_token, .int q_value, .ref m_ends, .ref m_letters, .ref m_actOf, .ref m_whom, .ref m_actMany, .ref m_tokens, .ref m_afters, .ref m_afterOf, .int q_counted, .ref m_pile, .ref m_caseMany, .ref m_happen, .ref m_hasIf, .ref m_becomes, .ref m_goneOf, .ref m_heard, .ref m_pairs, .ref m_heaps, .int q_rounds, .int q_heapMany, .ref m_led, .ref m_newAt, .ref m_knowing, .ref m_firsts, .int (nI q_people), .ref m_secrets, .ref m_tried, .ref m_lanes, .ref m_lengths, .ref m_cells])), (m_tokens, .inl (E.2.1 1, 9, .inl f_tokens))]) (k' := 0) (n' := 0) C (run_S (As := [.long v1.toInt64, .long 0, .long 3]) (rest := []) C (r_in X.2.1 E ro v1.toInt64 0 3 v1.toInt 0 3 (Int32.toInt_toInt64 _) rfl rfl) ms_X12_in wl_X12_115 rfl rfl rfl rfl dX12_saying_14) (roK hro) [] [0, 1, 2, 3, 4, 5] rfl rfl rfl rfl (fun r_4 uz hw => ?_)
    rcases hw with ⟨rfl, rfl, h_5, h_6⟩ | ⟨rfl, rfl, h_7⟩
    · refine ww_eq (ws' := [(m_actMany, .inl (E.2.1 1, 25, .inl f_actMany)), (m_actOf, .inl (E.2.1 1, 800, .inl f_actOf)), (m_afters, .inl (E.2.1 1, 9, .inl f_afters)), (m_pile, .inl (E.2.1 1, 34, .inl f_pile)), (hm, .inr (12, [.ref m_manys, .ref m_reals, .ref m_factsOf, .ref m_possible, .int (nI q_undos), .int (nI q_models), .ref m_tape, .int (nI q_taped), .int q_fault, .int q_wrong, .int q_wrongAt, .int q_spot, .int q_place, .int q_token, .int q_value, .ref m_ends, .ref m_letters, .ref m_actOf, .ref m_whom, .ref m_actMany, .ref m_tokens, .ref m_afters, .ref m_afterOf, .int q_counted, .ref m_pile, .ref m_caseMany, .ref m_happen, .ref m_hasIf, .ref m_becomes, .ref m_goneOf, .ref m_heard, .ref m_pairs, .ref m_heaps, .int q_rounds, .int q_heapMany, .ref m_led, .ref m_newAt, .ref m_knowing, .ref m_firsts, .int (nI q_people), .ref m_secrets, .ref m_tried, .ref m_lanes, .ref m_lengths, .ref m_cells])), (m_tokens, .inl (E.2.1 1, 9, .inl f_tokens))]) ?_ rfl rfl rfl
      refine ww_if_ne_t (tgt := 22) C dX12_saying_17 (by decide) (by decide) ?_
      obtain ⟨j_8, hj_8, rfl⟩ := i_nat (x := v0) (N := 7) (by omega) (by omega)
      have hzj_8 := nI_toInt (n := j_8) (by omega)
      refine ww_iconst (v := 0) C dX12_saying_22 rfl ?_
      refine ww_istore_n (lv' := [(3, .int 0), (0, .ref hm), (1, .int (nI j_8)), (2, .int v1)]) C dX12_saying_23 rfl rfl rfl ?_
      refine ww_iconst (v := 0) C dX12_saying_24 rfl ?_
      refine ww_istore (lv' := [(4, .int 0), (3, .int 0), (0, .ref hm), (1, .int (nI j_8)), (2, .int v1)]) C dX12_saying_25 rfl rfl ?_
      have loop_27 : ∀ (fu : Nat) (i1 : Nat) (ac : Int32), (i1 ≤ cN f_actMany j_8) → cN f_actMany j_8 - i1 < fu → WW X 6 E 27 [(4, .int (nI i1)), (3, .int ac), (0, .ref hm), (1, .int (nI j_8)), (2, .int v1)] [] [(m_actMany, .inl (E.2.1 1, 25, .inl f_actMany)), (m_actOf, .inl (E.2.1 1, 800, .inl f_actOf)), (m_afters, .inl (E.2.1 1, 9, .inl f_afters)), (m_pile, .inl (E.2.1 1, 34, .inl f_pile)), (hm, .inr (12, [.ref m_manys, .ref m_reals, .ref m_factsOf, .ref m_possible, .int (nI q_undos), .int (nI q_models), .ref m_tape, .int (nI q_taped), .int q_fault, .int q_wrong, .int q_wrongAt, .int q_spot, .int q_place, .int q_token, .int q_value, .ref m_ends, .ref m_letters, .ref m_actOf, .ref m_whom, .ref m_actMany, .ref m_tokens, .ref m_afters, .ref m_afterOf, .int q_counted, .ref m_pile, .ref m_caseMany, .ref m_happen, .ref m_hasIf, .ref m_becomes, .ref m_goneOf, .ref m_heard, .ref m_pairs, .ref m_heaps, .int q_rounds, .int q_heapMany, .ref m_led, .ref m_newAt, .ref m_knowing, .ref m_firsts, .int (nI q_people), .ref m_secrets, .ref m_tried, .ref m_lanes, .ref m_lengths, .ref m_cells])), (m_tokens, .inl (E.2.1 1, 9, .inl f_tokens))] 0 0 := by
        intro fu
        induction fu with
        | zero => intro i1 ac hi1 hmeas; exact absurd hmeas (Nat.not_lt_zero _)
        | succ fu ih_27 =>
          intro i1 ac hi1 hmeas
          refine ww_iload C dX12_saying_27 0 rfl ?_
          refine ww_aload_n C dX12_saying_29 2 rfl rfl ?_
          refine ww_get C fg_X12_37 4 rfl rfl dX12_saying_30 ?_
          refine ww_iload_n C dX12_saying_33 3 rfl rfl ?_
          have hbx_9 := (hb_actMany j_8 (by omega)).2
          refine ww_iald (v := (nI (cN f_actMany j_8))) C 0 rfl (vp_in_nI (by omega) (by omega)) (ldn (by omega) (hb_actMany j_8 (by omega)).1) dX12_saying_34 ?_
          refine ww_icmp_ge (tgt := 75) C dX12_saying_35 (by decide) (fun c_10 => ?_) (fun c_10 => ?_)
          · have zc_10 : ((i1 : Nat) : Int) ≥ ((cN f_actMany j_8 : Nat) : Int) := i_le (nI_toInt (n := cN f_actMany j_8) (by omega)) (nI_toInt (n := i1) (by omega)) c_10
            refine ww_iload_n C dX12_saying_75 4 rfl rfl ?_
            refine ww_if_ne (tgt := 88) C dX12_saying_76 (by decide) (fun c_11 => ?_) (fun c_11 => ?_)
            · have zc_11 : v1.toInt ≠ 0 := i_ne rfl rfl c_11
              refine ww_iload_n C dX12_saying_88 4 rfl rfl ?_
              refine ww_iconst (v := 1) C dX12_saying_89 rfl ?_
              refine ww_icmp_ne (tgt := 102) C dX12_saying_90 (by decide) (fun c_12 => ?_) (fun c_12 => ?_)
              · have zc_12 : v1.toInt ≠ 1 := i_ne rfl rfl c_12
                refine ww_iload_n C dX12_saying_102 4 rfl rfl ?_
                refine ww_iconst (v := 2) C dX12_saying_103 rfl ?_
                refine ww_icmp_ne (tgt := 115) C dX12_saying_104 (by decide) (fun c_13 => ?_) (fun c_13 => ?_)
                · have zc_13 : v1.toInt ≠ 2 := i_ne rfl rfl c_13
                  refine ww_iload_n C dX12_saying_115 1 rfl rfl ?_
                  exact ww_iret (u := [(hm, .inr (12, [.ref m_manys, .ref m_reals, .ref m_factsOf, .ref m_possible, .int (nI q_undos), .int (nI q_models), .ref m_tape, .int (nI q_taped), .int q_fault, .int q_wrong, .int q_wrongAt, .int q_spot, .int q_place, .int q_token, .int q_value, .ref m_ends, .ref m_letters, .ref m_actOf, .ref m_whom, .ref m_actMany, .ref m_tokens, .ref m_afters, .ref m_afterOf, .int q_counted, .ref m_pile, .ref m_caseMany, .ref m_happen, .ref m_hasIf, .ref m_becomes, .ref m_goneOf, .ref m_heard, .ref m_pairs, .ref m_heaps, .int q_rounds, .int q_heapMany, .ref m_led, .ref m_newAt, .ref m_knowing, .ref m_firsts, .int (nI q_people), .ref m_secrets, .ref m_tried, .ref m_lanes, .ref m_lengths, .ref m_cells])), (m_actMany, .inl (E.2.1 1, 25, .inl f_actMany)), (m_actOf, .inl (E.2.1 1, 800, .inl f_actOf)), (m_tokens, .inl (E.2.1 1, 9, .inl f_tokens)), (m_afters, .inl (E.2.1 1, 9, .inl f_afters)), (m_pile, .inl (E.2.1 1, 34, .inl f_pile))]) C hT [4, 0, 1, 5, 2, 3] rfl rfl rfl rfl dX12_saying_116 (⟨f_pile, rfl⟩)
                · have zc_13 : v1.toInt = 2 := i_eq rfl rfl c_13
                  refine ww_aload_n C dX12_saying_107 2 rfl rfl ?_
                  refine ww_iload_n C dX12_saying_108 3 rfl rfl ?_
                  refine ww_ci (wr := [(m_afters, .inl (E.2.1 1, 9, .inl f_afters)), (m_tokens, .inl (E.2.1 1, 9, .inl f_tokens))]) (k' := 0) (n' := 0) C (run_V (As := [.int (nI j_8)]) (rest := []) C (r_depthOf X.2.1 E ro hm j_8 m_manys m_reals m_factsOf m_possible q_undos q_models m_tape q_taped q_fault q_wrong q_wrongAt q_spot q_place q_token q_value m_ends m_letters m_actOf m_whom m_actMany m_tokens m_afters m_afterOf q_counted m_pile m_caseMany m_happen m_hasIf m_becomes m_goneOf m_heard m_pairs m_heaps q_rounds q_heapMany m_led m_newAt m_knowing m_firsts q_people m_secrets m_tried m_lanes m_lengths m_cells f_actMany f_actOf f_pile hb_actMany hsv (by omega)) mi_X12_depthOf wl_X12_227 rfl 0 12 rfl rfl rfl rfl rfl dX12_saying_109) (roK hro) [4, 0, 1, 3] [2, 5] rfl rfl rfl rfl (fun r_14 uz hw => ?_)
                  obtain ⟨f_pilez_15, rfl⟩ := hw
                  refine ww_eq (ws' := [(m_afters, .inl (E.2.1 1, 9, .inl f_afters)), (m_tokens, .inl (E.2.1 1, 9, .inl f_tokens)), (hm, .inr (12, [.ref m_manys, .ref m_reals, .ref m_factsOf, .ref m_possible, .int (nI q_undos), .int (nI q_models), .ref m_tape, .int (nI q_taped), .int q_fault, .int q_wrong, .int q_wrongAt, .int q_spot, .int q_place, .int q_token, .int q_value, .ref m_ends, .ref m_letters, .ref m_actOf, .ref m_whom, .ref m_actMany, .ref m_tokens, .ref m_afters, .ref m_afterOf, .int q_counted, .ref m_pile, .ref m_caseMany, .ref m_happen, .ref m_hasIf, .ref m_becomes, .ref m_goneOf, .ref m_heard, .ref m_pairs, .ref m_heaps, .int q_rounds, .int q_heapMany, .ref m_led, .ref m_newAt, .ref m_knowing, .ref m_firsts, .int (nI q_people), .ref m_secrets, .ref m_tried, .ref m_lanes, .ref m_lengths, .ref m_cells])), (m_actMany, .inl (E.2.1 1, 25, .inl f_actMany)), (m_actOf, .inl (E.2.1 1, 800, .inl f_actOf)), (m_pile, .inl (E.2.1 1, 34, .inl f_pilez_15))]) ?_ rfl rfl rfl
                  refine ww_goto (tgt := 116) C dX12_saying_112 (by decide) ?_
                  exact ww_iret (u := [(hm, .inr (12, [.ref m_manys, .ref m_reals, .ref m_factsOf, .ref m_possible, .int (nI q_undos), .int (nI q_models), .ref m_tape, .int (nI q_taped), .int q_fault, .int q_wrong, .int q_wrongAt, .int q_spot, .int q_place, .int q_token, .int q_value, .ref m_ends, .ref m_letters, .ref m_actOf, .ref m_whom, .ref m_actMany, .ref m_tokens, .ref m_afters, .ref m_afterOf, .int q_counted, .ref m_pile, .ref m_caseMany, .ref m_happen, .ref m_hasIf, .ref m_becomes, .ref m_goneOf, .ref m_heard, .ref m_pairs, .ref m_heaps, .int q_rounds, .int q_heapMany, .ref m_led, .ref m_newAt, .ref m_knowing, .ref m_firsts, .int (nI q_people), .ref m_secrets, .ref m_tried, .ref m_lanes, .ref m_lengths, .ref m_cells])), (m_actMany, .inl (E.2.1 1, 25, .inl f_actMany)), (m_actOf, .inl (E.2.1 1, 800, .inl f_actOf)), (m_tokens, .inl (E.2.1 1, 9, .inl f_tokens)), (m_afters, .inl (E.2.1 1, 9, .inl f_afters)), (m_pile, .inl (E.2.1 1, 34, .inl f_pilez_15))]) C hT [2, 3, 4, 1, 0, 5] rfl rfl rfl rfl dX12_saying_116 (⟨f_pilez_15, rfl⟩)
              · have zc_12 : v1.toInt = 1 := i_eq rfl rfl c_12
                refine ww_aload_n C dX12_saying_93 2 rfl rfl ?_
                refine ww_get C fg_X12_43 4 rfl rfl dX12_saying_94 ?_
                refine ww_iload_n C dX12_saying_97 3 rfl rfl ?_
                have hbx_16 := (hb_afters j_8 (by omega)).2
                refine ww_iald (v := (nI (cN f_afters j_8))) C 2 rfl (vp_in_nI (by omega) (by omega)) (ldn (by omega) (hb_afters j_8 (by omega)).1) dX12_saying_98 ?_
                refine ww_goto (tgt := 116) C dX12_saying_99 (by decide) ?_
                exact ww_iret (u := [(hm, .inr (12, [.ref m_manys, .ref m_reals, .ref m_factsOf, .ref m_possible, .int (nI q_undos), .int (nI q_models), .ref m_tape, .int (nI q_taped), .int q_fault, .int q_wrong, .int q_wrongAt, .int q_spot, .int q_place, .int q_token, .int q_value, .ref m_ends, .ref m_letters, .ref m_actOf, .ref m_whom, .ref m_actMany, .ref m_tokens, .ref m_afters, .ref m_afterOf, .int q_counted, .ref m_pile, .ref m_caseMany, .ref m_happen, .ref m_hasIf, .ref m_becomes, .ref m_goneOf, .ref m_heard, .ref m_pairs, .ref m_heaps, .int q_rounds, .int q_heapMany, .ref m_led, .ref m_newAt, .ref m_knowing, .ref m_firsts, .int (nI q_people), .ref m_secrets, .ref m_tried, .ref m_lanes, .ref m_lengths, .ref m_cells])), (m_actMany, .inl (E.2.1 1, 25, .inl f_actMany)), (m_actOf, .inl (E.2.1 1, 800, .inl f_actOf)), (m_tokens, .inl (E.2.1 1, 9, .inl f_tokens)), (m_afters, .inl (E.2.1 1, 9, .inl f_afters)), (m_pile, .inl (E.2.1 1, 34, .inl f_pile))]) C hT [4, 0, 1, 5, 2, 3] rfl rfl rfl rfl dX12_saying_116 (⟨f_pile, rfl⟩)
            · have zc_11 : v1.toInt = 0 := i_eq rfl rfl c_11
              refine ww_aload_n C dX12_saying_79 2 rfl rfl ?_
              refine ww_get C fg_X12_40 4 rfl rfl dX12_saying_80 ?_
              refine ww_iload_n C dX12_saying_83 3 rfl rfl ?_
              obtain ⟨x_17, ex_17⟩ : ∃ z : Int32, f_tokens j_8 = z := ⟨_, rfl⟩
              refine ww_iald (v := x_17) C 5 rfl (vp_in_nI (by omega) (by omega)) (ldn (by omega) ex_17) dX12_saying_84 ?_
              refine ww_goto (tgt := 116) C dX12_saying_85 (by decide) ?_
              exact ww_iret (u := [(hm, .inr (12, [.ref m_manys, .ref m_reals, .ref m_factsOf, .ref m_possible, .int (nI q_undos), .int (nI q_models), .ref m_tape, .int (nI q_taped), .int q_fault, .int q_wrong, .int q_wrongAt, .int q_spot, .int q_place, .int q_token, .int q_value, .ref m_ends, .ref m_letters, .ref m_actOf, .ref m_whom, .ref m_actMany, .ref m_tokens, .ref m_afters, .ref m_afterOf, .int q_counted, .ref m_pile, .ref m_caseMany, .ref m_happen, .ref m_hasIf, .ref m_becomes, .ref m_goneOf, .ref m_heard, .ref m_pairs, .ref m_heaps, .int q_rounds, .int q_heapMany, .ref m_led, .ref m_newAt, .ref m_knowing, .ref m_firsts, .int (nI q_people), .ref m_secrets, .ref m_tried, .ref m_lanes, .ref m_lengths, .ref m_cells])), (m_actMany, .inl (E.2.1 1, 25, .inl f_actMany)), (m_actOf, .inl (E.2.1 1, 800, .inl f_actOf)), (m_tokens, .inl (E.2.1 1, 9, .inl f_tokens)), (m_afters, .inl (E.2.1 1, 9, .inl f_afters)), (m_pile, .inl (E.2.1 1, 34, .inl f_pile))]) C hT [4, 0, 1, 5, 2, 3] rfl rfl rfl rfl dX12_saying_116 (⟨f_pile, rfl⟩)
          · have zc_10 : ((i1 : Nat) : Int) < ((cN f_actMany j_8 : Nat) : Int) := i_nle (nI_toInt (n := cN f_actMany j_8) (by omega)) (nI_toInt (n := i1) (by omega)) c_10
            refine ww_aload_n C dX12_saying_38 2 rfl rfl ?_
            refine ww_get C fg_X12_31 4 rfl rfl dX12_saying_39 ?_
            refine ww_bipush (v := 32) C dX12_saying_42 rfl ?_
            refine ww_iload_n C dX12_saying_44 3 rfl rfl ?_
            refine ww_imul (v := (nI (32 * j_8))) C dX12_saying_45 (pk_mul 32 j_8) ?_
            refine ww_iload C dX12_saying_46 0 rfl ?_
            refine ww_iadd (v := (nI ((32 * j_8) + i1))) C dX12_saying_48 (nI_add (32 * j_8) i1) ?_
            obtain ⟨x_18, ex_18⟩ : ∃ z : Int32, f_actOf ((32 * j_8) + i1) = z := ⟨_, rfl⟩
            refine ww_iald (v := x_18) C 1 rfl (vp_in_nI (by omega) (by omega)) (ldn (by omega) ex_18) dX12_saying_49 ?_
            refine ww_istore (lv' := [(5, .int x_18), (4, .int (nI i1)), (3, .int ac), (0, .ref hm), (1, .int (nI j_8)), (2, .int v1)]) C dX12_saying_50 rfl rfl ?_
            refine ww_iload_n C dX12_saying_52 2 rfl rfl ?_
            refine ww_iload C dX12_saying_53 0 rfl ?_
            refine ww_iconst (v := 4) C dX12_saying_55 rfl ?_
            refine ww_icmp_ge (tgt := 66) C dX12_saying_56 (by decide) (fun c_19 => ?_) (fun c_19 => ?_)
            · have zc_19 : x_18.toInt ≥ 4 := i_le rfl rfl c_19
              refine ww_iconst (v := 0) C dX12_saying_66 rfl ?_
              obtain ⟨x_20, ex_20⟩ : ∃ z : Int32, ac ||| (0 : Int32) = z := ⟨_, rfl⟩
              refine ww_ior (v := x_20) C dX12_saying_67 ex_20 ?_
              refine ww_istore_n (lv' := [(3, .int x_20), (5, .int x_18), (4, .int (nI i1)), (0, .ref hm), (1, .int (nI j_8)), (2, .int v1)]) C dX12_saying_68 rfl rfl rfl ?_
              refine ww_iinc (j := 2) (v := (nI (i1 + 1))) (lv' := [(4, .int (nI (i1 + 1))), (3, .int x_20), (5, .int x_18), (0, .ref hm), (1, .int (nI j_8)), (2, .int v1)]) C dX12_saying_69 rfl (nI_add i1 1) rfl rfl ?_
              refine ww_goto (tgt := 27) C dX12_saying_72 (by decide) ?_
              exact ww_lv [0, 1, 3, 4, 5] rfl (ww_sub [0, 1, 2, 3, 4, 5] rfl rfl (ih_27 (i1 + 1) x_20 (by omega) (by omega)))
            · have zc_19 : x_18.toInt < 4 := i_nle rfl rfl c_19
              refine ww_iconst (v := 1) C dX12_saying_59 rfl ?_
              refine ww_iload C dX12_saying_60 0 rfl ?_
              obtain ⟨x_21, ex_21⟩ : ∃ z : Int32, (1 : Int32) <<< (x_18 &&& 31) = z := ⟨_, rfl⟩
              refine ww_ishl (v := x_21) C dX12_saying_62 ex_21 ?_
              refine ww_goto (tgt := 67) C dX12_saying_63 (by decide) ?_
              obtain ⟨x_22, ex_22⟩ : ∃ z : Int32, ac ||| x_21 = z := ⟨_, rfl⟩
              refine ww_ior (v := x_22) C dX12_saying_67 ex_22 ?_
              refine ww_istore_n (lv' := [(3, .int x_22), (5, .int x_18), (4, .int (nI i1)), (0, .ref hm), (1, .int (nI j_8)), (2, .int v1)]) C dX12_saying_68 rfl rfl rfl ?_
              refine ww_iinc (j := 2) (v := (nI (i1 + 1))) (lv' := [(4, .int (nI (i1 + 1))), (3, .int x_22), (5, .int x_18), (0, .ref hm), (1, .int (nI j_8)), (2, .int v1)]) C dX12_saying_69 rfl (nI_add i1 1) rfl rfl ?_
              refine ww_goto (tgt := 27) C dX12_saying_72 (by decide) ?_
              exact ww_lv [0, 1, 3, 4, 5] rfl (ww_sub [0, 1, 2, 3, 4, 5] rfl rfl (ih_27 (i1 + 1) x_22 (by omega) (by omega)))
      exact ww_lv [0, 1, 2, 3, 4] rfl (ww_sub [0, 1, 2, 3, 4, 5] rfl rfl (loop_27 _ 0 0 (by omega) (Nat.lt_succ_self _)))
    · refine ww_eq (ws' := [(m_actMany, .inl (E.2.1 1, 25, .inl f_actMany)), (m_actOf, .inl (E.2.1 1, 800, .inl f_actOf)), (m_afters, .inl (E.2.1 1, 9, .inl f_afters)), (m_pile, .inl (E.2.1 1, 34, .inl f_pile)), (hm, .inr (12, [.ref m_manys, .ref m_reals, .ref m_factsOf, .ref m_possible, .int (nI q_undos), .int (nI q_models), .ref m_tape, .int (nI q_taped), .int q_fault, .int q_wrong, .int q_wrongAt, .int q_spot, .int q_place, .int q_token, .int q_value, .ref m_ends, .ref m_letters, .ref m_actOf, .ref m_whom, .ref m_actMany, .ref m_tokens, .ref m_afters, .ref m_afterOf, .int q_counted, .ref m_pile, .ref m_caseMany, .ref m_happen, .ref m_hasIf, .ref m_becomes, .ref m_goneOf, .ref m_heard, .ref m_pairs, .ref m_heaps, .int q_rounds, .int q_heapMany, .ref m_led, .ref m_newAt, .ref m_knowing, .ref m_firsts, .int (nI q_people), .ref m_secrets, .ref m_tried, .ref m_lanes, .ref m_lengths, .ref m_cells])), (m_tokens, .inl (E.2.1 1, 9, .inl f_tokens))]) ?_ rfl rfl rfl
      refine ww_if_ne_f (tgt := 22) C dX12_saying_17 (by decide) (rfl) ?_
      refine ww_iconst (v := (-1)) C dX12_saying_20 rfl ?_
      exact ww_iret (u := [(hm, .inr (12, [.ref m_manys, .ref m_reals, .ref m_factsOf, .ref m_possible, .int (nI q_undos), .int (nI q_models), .ref m_tape, .int (nI q_taped), .int q_fault, .int q_wrong, .int q_wrongAt, .int q_spot, .int q_place, .int q_token, .int q_value, .ref m_ends, .ref m_letters, .ref m_actOf, .ref m_whom, .ref m_actMany, .ref m_tokens, .ref m_afters, .ref m_afterOf, .int q_counted, .ref m_pile, .ref m_caseMany, .ref m_happen, .ref m_hasIf, .ref m_becomes, .ref m_goneOf, .ref m_heard, .ref m_pairs, .ref m_heaps, .int q_rounds, .int q_heapMany, .ref m_led, .ref m_newAt, .ref m_knowing, .ref m_firsts, .int (nI q_people), .ref m_secrets, .ref m_tried, .ref m_lanes, .ref m_lengths, .ref m_cells])), (m_actMany, .inl (E.2.1 1, 25, .inl f_actMany)), (m_actOf, .inl (E.2.1 1, 800, .inl f_actOf)), (m_tokens, .inl (E.2.1 1, 9, .inl f_tokens)), (m_afters, .inl (E.2.1 1, 9, .inl f_afters)), (m_pile, .inl (E.2.1 1, 34, .inl f_pile))]) C hT [4, 0, 1, 5, 2, 3] rfl rfl rfl rfl dX12_saying_21 (⟨f_pile, rfl⟩)
  · refine ww_eq (ws' := [(m_actMany, .inl (E.2.1 1, 25, .inl f_actMany)), (m_actOf, .inl (E.2.1 1, 800, .inl f_actOf)), (m_afters, .inl (E.2.1 1, 9, .inl f_afters)), (m_pile, .inl (E.2.1 1, 34, .inl f_pile)), (hm, .inr (12, [.ref m_manys, .ref m_reals, .ref m_factsOf, .ref m_possible, .int (nI q_undos), .int (nI q_models), .ref m_tape, .int (nI q_taped), .int q_fault, .int q_wrong, .int q_wrongAt, .int q_spot, .int q_place, .int q_token, .int q_value, .ref m_ends, .ref m_letters, .ref m_actOf, .ref m_whom, .ref m_actMany, .ref m_tokens, .ref m_afters, .ref m_afterOf, .int q_counted, .ref m_pile, .ref m_caseMany, .ref m_happen, .ref m_hasIf, .ref m_becomes, .ref m_goneOf, .ref m_heard, .ref m_pairs, .ref m_heaps, .int q_rounds, .int q_heapMany, .ref m_led, .ref m_newAt, .ref m_knowing, .ref m_firsts, .int (nI q_people), .ref m_secrets, .ref m_tried, .ref m_lanes, .ref m_lengths, .ref m_cells])), (m_tokens, .inl (E.2.1 1, 9, .inl f_tokens))]) ?_ rfl rfl rfl
    refine ww_if_eq_t (tgt := 20) C dX12_saying_5 (by decide) (rfl) ?_
    refine ww_iconst (v := (-1)) C dX12_saying_20 rfl ?_
    exact ww_iret (u := [(hm, .inr (12, [.ref m_manys, .ref m_reals, .ref m_factsOf, .ref m_possible, .int (nI q_undos), .int (nI q_models), .ref m_tape, .int (nI q_taped), .int q_fault, .int q_wrong, .int q_wrongAt, .int q_spot, .int q_place, .int q_token, .int q_value, .ref m_ends, .ref m_letters, .ref m_actOf, .ref m_whom, .ref m_actMany, .ref m_tokens, .ref m_afters, .ref m_afterOf, .int q_counted, .ref m_pile, .ref m_caseMany, .ref m_happen, .ref m_hasIf, .ref m_becomes, .ref m_goneOf, .ref m_heard, .ref m_pairs, .ref m_heaps, .int q_rounds, .int q_heapMany, .ref m_led, .ref m_newAt, .ref m_knowing, .ref m_firsts, .int (nI q_people), .ref m_secrets, .ref m_tried, .ref m_lanes, .ref m_lengths, .ref m_cells])), (m_actMany, .inl (E.2.1 1, 25, .inl f_actMany)), (m_actOf, .inl (E.2.1 1, 800, .inl f_actOf)), (m_tokens, .inl (E.2.1 1, 9, .inl f_tokens)), (m_afters, .inl (E.2.1 1, 9, .inl f_afters)), (m_pile, .inl (E.2.1 1, 34, .inl f_pile))]) C hT [4, 0, 1, 5, 2, 3] rfl rfl rfl rfl dX12_saying_21 (⟨f_pile, rfl⟩)
