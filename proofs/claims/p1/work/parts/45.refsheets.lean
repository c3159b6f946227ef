theorem dX12_people_0 : decode cX12_people 0 = .ok (.iload_n 1, 1) := by decide +kernel
theorem dX12_people_1 : decode cX12_people 1 = .ok (.i2l, 1) := by decide +kernel
theorem dX12_people_2 : decode cX12_people 2 = .ok (.ldc2_w 254, 3) := by decide +kernel
theorem dX12_people_5 : decode cX12_people 5 = .ok (.ldc2_w 149, 3) := by decide +kernel
theorem dX12_people_8 : decode cX12_people 8 = .ok (.invokestatic 115, 3) := by decide +kernel
theorem dX12_people_11 : decode cX12_people 11 = .ok (.ifCond .ne 5, 3) := by decide +kernel
theorem dX12_people_16 : decode cX12_people 16 = .ok (.aload_n 0, 1) := by decide +kernel
theorem dX12_people_17 : decode cX12_people 17 = .ok (.iload_n 1, 1) := by decide +kernel
theorem dX12_people_18 : decode cX12_people 18 = .ok (.putfield 332, 3) := by decide +kernel
theorem wf_X12_332 : Cond.fieldLink RX12 332 RX12 "people" "I" ∈ TB := tbm (tq5 (List.mem_of_getElem? (i := 117) (by decide +kernel))) (by decide +kernel)
theorem fp_X12_332 : FP RX12 332 12 39 .int false := ⟨RX12, TX12, 45, tyX12, uw_X12, wf_X12_332, rfl, by decide, rfl, tyX12_ok, nmX12, rfl, by decide +kernel⟩
theorem dX12_people_21 : decode cX12_people 21 = .ok (.iconst 0, 1) := by decide +kernel
theorem dX12_people_22 : decode cX12_people 22 = .ok (.istore_n 2, 1) := by decide +kernel
theorem dX12_people_23 : decode cX12_people 23 = .ok (.iload_n 2, 1) := by decide +kernel
theorem dX12_people_24 : decode cX12_people 24 = .ok (.iload_n 1, 1) := by decide +kernel
theorem dX12_people_25 : decode cX12_people 25 = .ok (.if_icmp .ge 18, 3) := by decide +kernel
theorem dX12_people_28 : decode cX12_people 28 = .ok (.aload_n 0, 1) := by decide +kernel
theorem dX12_people_29 : decode cX12_people 29 = .ok (.getfield 90, 3) := by decide +kernel
theorem fg_X12_90 : FG RX12 90 12 40 := ⟨RX12, TX12, 45, uw_X12, wf_X12_90, rfl, by decide, rfl⟩
theorem dX12_people_32 : decode cX12_people 32 = .ok (.iload_n 2, 1) := by decide +kernel
theorem dX12_people_33 : decode cX12_people 33 = .ok (.iconst 1, 1) := by decide +kernel
theorem dX12_people_34 : decode cX12_people 34 = .ok (.iload_n 2, 1) := by decide +kernel
theorem dX12_people_35 : decode cX12_people 35 = .ok (.ishl, 1) := by decide +kernel
theorem dX12_people_36 : decode cX12_people 36 = .ok (.iastore, 1) := by decide +kernel
theorem dX12_people_37 : decode cX12_people 37 = .ok (.iinc 2 1, 3) := by decide +kernel
theorem dX12_people_40 : decode cX12_people 40 = .ok (.goto (-17), 3) := by decide +kernel
theorem dX12_people_43 : decode cX12_people 43 = .ok (.iload_n 1, 1) := by decide +kernel
theorem dX12_people_44 : decode cX12_people 44 = .ok (.ireturn, 1) := by decide +kernel
theorem dX12_people_14 : decode cX12_people 14 = .ok (.iconst (-1), 1) := by decide +kernel
theorem dX12_people_15 : decode cX12_people 15 = .ok (.ireturn, 1) := by decide +kernel
set_option maxRecDepth 100000 in
set_option maxHeartbeats 4000000 in
theorem y_people (l : Launch) (E : EV) (hm : Nat) (p0 : Int32) (m_manys : Nat) (m_reals : Nat) (m_factsOf : Nat) (m_possible : Nat) (m_tape : Nat) (m_ends : Nat) (m_letters : Nat) (m_actOf : Nat) (m_whom : Nat) (m_actMany : Nat) (m_tokens : Nat) (m_afters : Nat) (m_afterOf : Nat) (m_pile : Nat) (m_caseMany : Nat) (m_happen : Nat) (m_hasIf : Nat) (m_becomes : Nat) (m_goneOf : Nat) (m_heard : Nat) (m_pairs : Nat) (m_heaps : Nat) (m_led : Nat) (m_newAt : Nat) (m_knowing : Nat) (m_firsts : Nat) (m_secrets : Nat) (m_tried : Nat) (m_lanes : Nat) (m_lengths : Nat) (m_cells : Nat)  : CT l yX12_people (Cond.code yX12_people cX12_people 3 (some .int) :: TB) ({ frames := 1, cells := 0, slots := 0, locals := 25 }) E [.ref hm, .int p0] [(hm, .inr (12, [.ref m_manys, .ref m_reals, .ref m_factsOf, .ref m_possible, .int 0, .int 0, .ref m_tape, .int 0, .int 0, .int 0, .int 0, .int 0, .int 0, .int 0, .int 0, .ref m_ends, .ref m_letters, .ref m_actOf, .ref m_whom, .ref m_actMany, .ref m_tokens, .ref m_afters, .ref m_afterOf, .int 0, .ref m_pile, .ref m_caseMany, .ref m_happen, .ref m_hasIf, .ref m_becomes, .ref m_goneOf, .ref m_heard, .ref m_pairs, .ref m_heaps, .int 0, .int 0, .ref m_led, .ref m_newAt, .ref m_knowing, .ref m_firsts, .int 0, .ref m_secrets, .ref m_tried, .ref m_lanes, .ref m_lengths, .ref m_cells])), (m_secrets, .inl (E.2.1 1, 4, .inl (fun _ => 0)))] (Qi E (fun (r : Int32) u => (r = (-1) ∧ u = [] ∧ (p0.toInt < 2 ∨ 4 < p0.toInt)) ∨ (r = 2 ∧ u = [] ∧ (p0.toInt = 2)) ∨ (r = 3 ∧ u = [] ∧ (p0.toInt = 3)) ∨ (r = 4 ∧ u = [] ∧ (p0.toInt = 4)))) 0 0 := by
  refine ct_of rfl rfl ?_
  intro X C hT hin
  show WW X 3 E 0 [(0, .ref hm), (1, .int p0)] [] [(hm, .inr (12, [.ref m_manys, .ref m_reals, .ref m_factsOf, .ref m_possible, .int 0, .int 0, .ref m_tape, .int 0, .int 0, .int 0, .int 0, .int 0, .int 0, .int 0, .int 0, .ref m_ends, .ref m_letters, .ref m_actOf, .ref m_whom, .ref m_actMany, .ref m_tokens, .ref m_afters, .ref m_afterOf, .int 0, .ref m_pile, .ref m_caseMany, .ref m_happen, .ref m_hasIf, .ref m_becomes, .ref m_goneOf, .ref m_heard, .ref m_pairs, .ref m_heaps, .int 0, .int 0, .ref m_led, .ref m_newAt, .ref m_knowing, .ref m_firsts, .int 0, .ref m_secrets, .ref m_tried, .ref m_lanes, .ref m_lengths, .ref m_cells])), (m_secrets, .inl (E.2.1 1, 4, .inl (fun _ => 0)))] 0 0
  refine ww_iload_n C dX12_people_0 1 rfl rfl ?_
  refine ww_i2l (v := p0.toInt64) C dX12_people_1 rfl ?_
  refine ww_ldc2 C wv_X12_254 dX12_people_2 ?_
  refine ww_ldc2 C wv_X12_149 dX12_people_5 ?_
  refine ww_ci (wr := [(hm, .inr (12, [.ref m_manys, .ref m_reals, .ref m_factsOf, .ref m_possible, .int 0, .int 0, .ref m_tape, .int 0, .int 0, .int 0, .int 0, .int 0, .int 0, .int 0, .int 0, .ref m_ends, .ref m_letters, .ref m_actOf, .ref m_whom, .ref m_actMany, .ref m_tokens, .ref m_afters, .ref m_afterOf, .int 0, .ref m_pile, .ref m_caseMany, .ref m_happen, .ref m_hasIf, .ref m_becomes, .ref m_goneOf, .ref m_heard, .ref m_pairs, .ref m_heaps, .int 0, .int 0, .ref m_led, .ref m_newAt, .ref m_knowing, .ref m_firsts, .int 0, .ref m_secrets, .ref m_tried, .ref m_lanes, .ref m_lengths, .ref m_cells])), (m_secrets, .inl (E.2.1 1, 4, .inl (fun _ => 0)))]) (k' := 0) (n' := 0) C (run_S (As := [.long p0.toInt64, .long 2, .long 4]) (rest := []) C (r_in X.2.1 E p0.toInt64 2 4 p0.toInt 2 4 (Int32.toInt_toInt64 _) rfl rfl) ms_X12_in wl_X12_115 rfl rfl rfl rfl dX12_people_8) [] [0, 1] rfl rfl rfl rfl (fun r u hw => ?_)
  rcases hw with ⟨rfl, rfl, h_1, h_2⟩ | ⟨rfl, rfl, h_3⟩
  · refine ww_eq (ws' := [(hm, .inr (12, [.ref m_manys, .ref m_reals, .ref m_factsOf, .ref m_possible, .int 0, .int 0, .ref m_tape, .int 0, .int 0, .int 0, .int 0, .int 0, .int 0, .int 0, .int 0, .ref m_ends, .ref m_letters, .ref m_actOf, .ref m_whom, .ref m_actMany, .ref m_tokens, .ref m_afters, .ref m_afterOf, .int 0, .ref m_pile, .ref m_caseMany, .ref m_happen, .ref m_hasIf, .ref m_becomes, .ref m_goneOf, .ref m_heard, .ref m_pairs, .ref m_heaps, .int 0, .int 0, .ref m_led, .ref m_newAt, .ref m_knowing, .ref m_firsts, .int 0, .ref m_secrets, .ref m_tried, .ref m_lanes, .ref m_lengths, .ref m_cells])), (m_secrets, .inl (E.2.1 1, 4, .inl (fun _ => 0)))]) ?_ rfl rfl rfl
    refine ww_if_ne_t (tgt := 16) C dX12_people_11 (by decide) (by decide) ?_
    rcases sp_2_4 (x := p0) (by omega) (by omega) with rfl | rfl | rfl
    · refine ww_aload_n C dX12_people_16 0 rfl rfl ?_
      refine ww_iload_n C dX12_people_17 1 rfl rfl ?_
      refine ww_put (ws' := [(hm, .inr (12, [.ref m_manys, .ref m_reals, .ref m_factsOf, .ref m_possible, .int 0, .int 0, .ref m_tape, .int 0, .int 0, .int 0, .int 0, .int 0, .int 0, .int 0, .int 0, .ref m_ends, .ref m_letters, .ref m_actOf, .ref m_whom, .ref m_actMany, .ref m_tokens, .ref m_afters, .ref m_afterOf, .int 0, .ref m_pile, .ref m_caseMany, .ref m_happen, .ref m_hasIf, .ref m_becomes, .ref m_goneOf, .ref m_heard, .ref m_pairs, .ref m_heaps, .int 0, .int 0, .ref m_led, .ref m_newAt, .ref m_knowing, .ref m_firsts, .int 2, .ref m_secrets, .ref m_tried, .ref m_lanes, .ref m_lengths, .ref m_cells])), (m_secrets, .inl (E.2.1 1, 4, .inl (fun _ => 0)))]) C fp_X12_332 0 rfl rfl rfl rfl rfl dX12_people_18 ?_
      refine ww_iconst (v := 0) C dX12_people_21 rfl ?_
      refine ww_istore_n (lv' := [(2, .int 0), (0, .ref hm), (1, .int 2)]) C dX12_people_22 rfl rfl rfl ?_
      refine ww_iload_n C dX12_people_23 0 rfl rfl ?_
      refine ww_iload_n C dX12_people_24 2 rfl rfl ?_
      refine ww_icmp_ge_f (tgt := 43) C dX12_people_25 (by decide) (by decide) ?_
      refine ww_aload_n C dX12_people_28 1 rfl rfl ?_
      refine ww_get C fg_X12_90 0 rfl rfl dX12_people_29 ?_
      refine ww_iload_n C dX12_people_32 0 rfl rfl ?_
      refine ww_iconst (v := 1) C dX12_people_33 rfl ?_
      refine ww_iload_n C dX12_people_34 0 rfl rfl ?_
      refine ww_ishl (v := 1) C dX12_people_35 (by decide) ?_
      obtain ⟨f_4, ef_4⟩ : ∃ z : Nat → Int32, upd (fun _ => 0) 0 1 = z := ⟨_, rfl⟩
      refine ww_iast (ws' := [(hm, .inr (12, [.ref m_manys, .ref m_reals, .ref m_factsOf, .ref m_possible, .int 0, .int 0, .ref m_tape, .int 0, .int 0, .int 0, .int 0, .int 0, .int 0, .int 0, .int 0, .ref m_ends, .ref m_letters, .ref m_actOf, .ref m_whom, .ref m_actMany, .ref m_tokens, .ref m_afters, .ref m_afterOf, .int 0, .ref m_pile, .ref m_caseMany, .ref m_happen, .ref m_hasIf, .ref m_becomes, .ref m_goneOf, .ref m_heard, .ref m_pairs, .ref m_heaps, .int 0, .int 0, .ref m_led, .ref m_newAt, .ref m_knowing, .ref m_firsts, .int 2, .ref m_secrets, .ref m_tried, .ref m_lanes, .ref m_lengths, .ref m_cells])), (m_secrets, .inl (E.2.1 1, 4, .inl f_4))]) C 1 rfl (vin rfl) ef_4 rfl dX12_people_36 ?_
      refine ww_iinc (j := 0) (v := 1) (lv' := [(2, .int 1), (0, .ref hm), (1, .int 2)]) C dX12_people_37 rfl rfl rfl rfl ?_
      refine ww_goto (tgt := 23) C dX12_people_40 (by decide) ?_
      refine ww_iload_n C dX12_people_23 0 rfl rfl ?_
      refine ww_iload_n C dX12_people_24 2 rfl rfl ?_
      refine ww_icmp_ge_f (tgt := 43) C dX12_people_25 (by decide) (by decide) ?_
      refine ww_aload_n C dX12_people_28 1 rfl rfl ?_
      refine ww_get C fg_X12_90 0 rfl rfl dX12_people_29 ?_
      refine ww_iload_n C dX12_people_32 0 rfl rfl ?_
      refine ww_iconst (v := 1) C dX12_people_33 rfl ?_
      refine ww_iload_n C dX12_people_34 0 rfl rfl ?_
      refine ww_ishl (v := 2) C dX12_people_35 (by decide) ?_
      obtain ⟨f_5, ef_5⟩ : ∃ z : Nat → Int32, upd f_4 1 2 = z := ⟨_, rfl⟩
      refine ww_iast (ws' := [(hm, .inr (12, [.ref m_manys, .ref m_reals, .ref m_factsOf, .ref m_possible, .int 0, .int 0, .ref m_tape, .int 0, .int 0, .int 0, .int 0, .int 0, .int 0, .int 0, .int 0, .ref m_ends, .ref m_letters, .ref m_actOf, .ref m_whom, .ref m_actMany, .ref m_tokens, .ref m_afters, .ref m_afterOf, .int 0, .ref m_pile, .ref m_caseMany, .ref m_happen, .ref m_hasIf, .ref m_becomes, .ref m_goneOf, .ref m_heard, .ref m_pairs, .ref m_heaps, .int 0, .int 0, .ref m_led, .ref m_newAt, .ref m_knowing, .ref m_firsts, .int 2, .ref m_secrets, .ref m_tried, .ref m_lanes, .ref m_lengths, .ref m_cells])), (m_secrets, .inl (E.2.1 1, 4, .inl f_5))]) C 1 rfl (vin rfl) ef_5 rfl dX12_people_36 ?_
      refine ww_iinc (j := 0) (v := 2) (lv' := [(2, .int 2), (0, .ref hm), (1, .int 2)]) C dX12_people_37 rfl rfl rfl rfl ?_
      refine ww_goto (tgt := 23) C dX12_people_40 (by decide) ?_
      refine ww_iload_n C dX12_people_23 0 rfl rfl ?_
      refine ww_iload_n C dX12_people_24 2 rfl rfl ?_
      refine ww_icmp_ge_t (tgt := 43) C dX12_people_25 (by decide) (by decide) ?_
      refine ww_iload_n C dX12_people_43 2 rfl rfl ?_
      exact ww_iret (u := []) C hT [] rfl rfl rfl rfl dX12_people_44 (Or.inr (Or.inl ⟨rfl, rfl, (by first | assumption | omega | decide)⟩))
    · refine ww_aload_n C dX12_people_16 0 rfl rfl ?_
      refine ww_iload_n C dX12_people_17 1 rfl rfl ?_
      refine ww_put (ws' := [(hm, .inr (12, [.ref m_manys, .ref m_reals, .ref m_factsOf, .ref m_possible, .int 0, .int 0, .ref m_tape, .int 0, .int 0, .int 0, .int 0, .int 0, .int 0, .int 0, .int 0, .ref m_ends, .ref m_letters, .ref m_actOf, .ref m_whom, .ref m_actMany, .ref m_tokens, .ref m_afters, .ref m_afterOf, .int 0, .ref m_pile, .ref m_caseMany, .ref m_happen, .ref m_hasIf, .ref m_becomes, .ref m_goneOf, .ref m_heard, .ref m_pairs, .ref m_heaps, .int 0, .int 0, .ref m_led, .ref m_newAt, .ref m_knowing, .ref m_firsts, .int 3, .ref m_secrets, .ref m_tried, .ref m_lanes, .ref m_lengths, .ref m_cells])), (m_secrets, .inl (E.2.1 1, 4, .inl (fun _ => 0)))]) C fp_X12_332 0 rfl rfl rfl rfl rfl dX12_people_18 ?_
      refine ww_iconst (v := 0) C dX12_people_21 rfl ?_
      refine ww_istore_n (lv' := [(2, .int 0), (0, .ref hm), (1, .int 3)]) C dX12_people_22 rfl rfl rfl ?_
      refine ww_iload_n C dX12_people_23 0 rfl rfl ?_
      refine ww_iload_n C dX12_people_24 2 rfl rfl ?_
      refine ww_icmp_ge_f (tgt := 43) C dX12_people_25 (by decide) (by decide) ?_
      refine ww_aload_n C dX12_people_28 1 rfl rfl ?_
      refine ww_get C fg_X12_90 0 rfl rfl dX12_people_29 ?_
      refine ww_iload_n C dX12_people_32 0 rfl rfl ?_
      refine ww_iconst (v := 1) C dX12_people_33 rfl ?_
      refine ww_iload_n C dX12_people_34 0 rfl rfl ?_
      refine ww_ishl (v := 1) C dX12_people_35 (by decide) ?_
      obtain ⟨f_6, ef_6⟩ : ∃ z : Nat → Int32, upd (fun _ => 0) 0 1 = z := ⟨_, rfl⟩
      refine ww_iast (ws' := [(hm, .inr (12, [.ref m_manys, .ref m_reals, .ref m_factsOf, .ref m_possible, .int 0, .int 0, .ref m_tape, .int 0, .int 0, .int 0, .int 0, .int 0, .int 0, .int 0, .int 0, .ref m_ends, .ref m_letters, .ref m_actOf, .ref m_whom, .ref m_actMany, .ref m_tokens, .ref m_afters, .ref m_afterOf, .int 0, .ref m_pile, .ref m_caseMany, .ref m_happen, .ref m_hasIf, .ref m_becomes, .ref m_goneOf, .ref m_heard, .ref m_pairs, .ref m_heaps, .int 0, .int 0, .ref m_led, .ref m_newAt, .ref m_knowing, .ref m_firsts, .int 3, .ref m_secrets, .ref m_tried, .ref m_lanes, .ref m_lengths, .ref m_cells])), (m_secrets, .inl (E.2.1 1, 4, .inl f_6))]) C 1 rfl (vin rfl) ef_6 rfl dX12_people_36 ?_
      refine ww_iinc (j := 0) (v := 1) (lv' := [(2, .int 1), (0, .ref hm), (1, .int 3)]) C dX12_people_37 rfl rfl rfl rfl ?_
      refine ww_goto (tgt := 23) C dX12_people_40 (by decide) ?_
      refine ww_iload_n C dX12_people_23 0 rfl rfl ?_
      refine ww_iload_n C dX12_people_24 2 rfl rfl ?_
      refine ww_icmp_ge_f (tgt := 43) C dX12_people_25 (by decide) (by decide) ?_
      refine ww_aload_n C dX12_people_28 1 rfl rfl ?_
      refine ww_get C fg_X12_90 0 rfl rfl dX12_people_29 ?_
      refine ww_iload_n C dX12_people_32 0 rfl rfl ?_
      refine ww_iconst (v := 1) C dX12_people_33 rfl ?_
      refine ww_iload_n C dX12_people_34 0 rfl rfl ?_
      refine ww_ishl (v := 2) C dX12_people_35 (by decide) ?_
      obtain ⟨f_7, ef_7⟩ : ∃ z : Nat → Int32, upd f_6 1 2 = z := ⟨_, rfl⟩
      refine ww_iast (ws' := [(hm, .inr (12, [.ref m_manys, .ref m_reals, .ref m_factsOf, .ref m_possible, .int 0, .int 0, .ref m_tape, .int 0, .int 0, .int 0, .int 0, .int 0, .int 0, .int 0, .int 0, .ref m_ends, .ref m_letters, .ref m_actOf, .ref m_whom, .ref m_actMany, .ref m_tokens, .ref m_afters, .ref m_afterOf, .int 0, .ref m_pile, .ref m_caseMany, .ref m_happen, .ref m_hasIf, .ref m_becomes, .ref m_goneOf, .ref m_heard, .ref m_pairs, .ref m_heaps, .int 0, .int 0, .ref m_led, .ref m_newAt, .ref m_knowing, .ref m_firsts, .int 3, .ref m_secrets, .ref m_tried, .ref m_lanes, .ref m_lengths, .ref m_cells])), (m_secrets, .inl (E.2.1 1, 4, .inl f_7))]) C 1 rfl (vin rfl) ef_7 rfl dX12_people_36 ?_
      refine ww_iinc (j := 0) (v := 2) (lv' := [(2, .int 2), (0, .ref hm), (1, .int 3)]) C dX12_people_37 rfl rfl rfl rfl ?_
      refine ww_goto (tgt := 23) C dX12_people_40 (by decide) ?_
      refine ww_iload_n C dX12_people_23 0 rfl rfl ?_
      refine ww_iload_n C dX12_people_24 2 rfl rfl ?_
      refine ww_icmp_ge_f (tgt := 43) C dX12_people_25 (by decide) (by decide) ?_
      refine ww_aload_n C dX12_people_28 1 rfl rfl ?_
      refine ww_get C fg_X12_90 0 rfl rfl dX12_people_29 ?_
      refine ww_iload_n C dX12_people_32 0 rfl rfl ?_
      refine ww_iconst (v := 1) C dX12_people_33 rfl ?_
      refine ww_iload_n C dX12_people_34 0 rfl rfl ?_
      refine ww_ishl (v := 4) C dX12_people_35 (by decide) ?_
      obtain ⟨f_8, ef_8⟩ : ∃ z : Nat → Int32, upd f_7 2 4 = z := ⟨_, rfl⟩
      refine ww_iast (ws' := [(hm, .inr (12, [.ref m_manys, .ref m_reals, .ref m_factsOf, .ref m_possible, .int 0, .int 0, .ref m_tape, .int 0, .int 0, .int 0, .int 0, .int 0, .int 0, .int 0, .int 0, .ref m_ends, .ref m_letters, .ref m_actOf, .ref m_whom, .ref m_actMany, .ref m_tokens, .ref m_afters, .ref m_afterOf, .int 0, .ref m_pile, .ref m_caseMany, .ref m_happen, .ref m_hasIf, .ref m_becomes, .ref m_goneOf, .ref m_heard, .ref m_pairs, .ref m_heaps, .int 0, .int 0, .ref m_led, .ref m_newAt, .ref m_knowing, .ref m_firsts, .int 3, .ref m_secrets, .ref m_tried, .ref m_lanes, .ref m_lengths, .ref m_cells])), (m_secrets, .inl (E.2.1 1, 4, .inl f_8))]) C 1 rfl (vin rfl) ef_8 rfl dX12_people_36 ?_
      refine ww_iinc (j := 0) (v := 3) (lv' := [(2, .int 3), (0, .ref hm), (1, .int 3)]) C dX12_people_37 rfl rfl rfl rfl ?_
      refine ww_goto (tgt := 23) C dX12_people_40 (by decide) ?_
      refine ww_iload_n C dX12_people_23 0 rfl rfl ?_
      refine ww_iload_n C dX12_people_24 2 rfl rfl ?_
      refine ww_icmp_ge_t (tgt := 43) C dX12_people_25 (by decide) (by decide) ?_
      refine ww_iload_n C dX12_people_43 2 rfl rfl ?_
      exact ww_iret (u := []) C hT [] rfl rfl rfl rfl dX12_people_44 (Or.inr (Or.inr (Or.inl ⟨rfl, rfl, (by first | assumption | omega | decide)⟩)))
    · refine ww_aload_n C dX12_people_16 0 rfl rfl ?_
      refine ww_iload_n C dX12_people_17 1 rfl rfl ?_
      refine ww_put (ws' := [(hm, .inr (12, [.ref m_manys, .ref m_reals, .ref m_factsOf, .ref m_possible, .int 0, .int 0, .ref m_tape, .int 0, .int 0, .int 0, .int 0, .int 0, .int 0, .int 0, .int 0, .ref m_ends, .ref m_letters, .ref m_actOf, .ref m_whom, .ref m_actMany, .ref m_tokens, .ref m_afters, .ref m_afterOf, .int 0, .ref m_pile, .ref m_caseMany, .ref m_happen, .ref m_hasIf, .ref m_becomes, .ref m_goneOf, .ref m_heard, .ref m_pairs, .ref m_heaps, .int 0, .int 0, .ref m_led, .ref m_newAt, .ref m_knowing, .ref m_firsts, .int 4, .ref m_secrets, .ref m_tried, .ref m_lanes, .ref m_lengths, .ref m_cells])), (m_secrets, .inl (E.2.1 1, 4, .inl (fun _ => 0)))]) C fp_X12_332 0 rfl rfl rfl rfl rfl dX12_people_18 ?_
      refine ww_iconst (v := 0) C dX12_people_21 rfl ?_
      refine ww_istore_n (lv' := [(2, .int 0), (0, .ref hm), (1, .int 4)]) C dX12_people_22 rfl rfl rfl ?_
      refine ww_iload_n C dX12_people_23 0 rfl rfl ?_
      refine ww_iload_n C dX12_people_24 2 rfl rfl ?_
      refine ww_icmp_ge_f (tgt := 43) C dX12_people_25 (by decide) (by decide) ?_
      refine ww_aload_n C dX12_people_28 1 rfl rfl ?_
      refine ww_get C fg_X12_90 0 rfl rfl dX12_people_29 ?_
      refine ww_iload_n C dX12_people_32 0 rfl rfl ?_
      refine ww_iconst (v := 1) C dX12_people_33 rfl ?_
      refine ww_iload_n C dX12_people_34 0 rfl rfl ?_
      refine ww_ishl (v := 1) C dX12_people_35 (by decide) ?_
      obtain ⟨f_9, ef_9⟩ : ∃ z : Nat → Int32, upd (fun _ => 0) 0 1 = z := ⟨_, rfl⟩
      refine ww_iast (ws' := [(hm, .inr (12, [.ref m_manys, .ref m_reals, .ref m_factsOf, .ref m_possible, .int 0, .int 0, .ref m_tape, .int 0, .int 0, .int 0, .int 0, .int 0, .int 0, .int 0, .int 0, .ref m_ends, .ref m_letters, .ref m_actOf, .ref m_whom, .ref m_actMany, .ref m_tokens, .ref m_afters, .ref m_afterOf, .int 0, .ref m_pile, .ref m_caseMany, .ref m_happen, .ref m_hasIf, .ref m_becomes, .ref m_goneOf, .ref m_heard, .ref m_pairs, .ref m_heaps, .int 0, .int 0, .ref m_led, .ref m_newAt, .ref m_knowing, .ref m_firsts, .int 4, .ref m_secrets, .ref m_tried, .ref m_lanes, .ref m_lengths, .ref m_cells])), (m_secrets, .inl (E.2.1 1, 4, .inl f_9))]) C 1 rfl (vin rfl) ef_9 rfl dX12_people_36 ?_
      refine ww_iinc (j := 0) (v := 1) (lv' := [(2, .int 1), (0, .ref hm), (1, .int 4)]) C dX12_people_37 rfl rfl rfl rfl ?_
      refine ww_goto (tgt := 23) C dX12_people_40 (by decide) ?_
      refine ww_iload_n C dX12_people_23 0 rfl rfl ?_
      refine ww_iload_n C dX12_people_24 2 rfl rfl ?_
      refine ww_icmp_ge_f (tgt := 43) C dX12_people_25 (by decide) (by decide) ?_
      refine ww_aload_n C dX12_people_28 1 rfl rfl ?_
      refine ww_get C fg_X12_90 0 rfl rfl dX12_people_29 ?_
      refine ww_iload_n C dX12_people_32 0 rfl rfl ?_
      refine ww_iconst (v := 1) C dX12_people_33 rfl ?_
      refine ww_iload_n C dX12_people_34 0 rfl rfl ?_
      refine ww_ishl (v := 2) C dX12_people_35 (by decide) ?_
      obtain ⟨f_10, ef_10⟩ : ∃ z : Nat → Int32, upd f_9 1 2 = z := ⟨_, rfl⟩
      refine ww_iast (ws' := [(hm, .inr (12, [.ref m_manys, .ref m_reals, .ref m_factsOf, .ref m_possible, .int 0, .int 0, .ref m_tape, .int 0, .int 0, .int 0, .int 0, .int 0, .int 0, .int 0, .int 0, .ref m_ends, .ref m_letters, .ref m_actOf, .ref m_whom, .ref m_actMany, .ref m_tokens, .ref m_afters, .ref m_afterOf, .int 0, .ref m_pile, .ref m_caseMany, .ref m_happen, .ref m_hasIf, .ref m_becomes, .ref m_goneOf, .ref m_heard, .ref m_pairs, .ref m_heaps, .int 0, .int 0, .ref m_led, .ref m_newAt, .ref m_knowing, .ref m_firsts, .int 4, .ref m_secrets, .ref m_tried, .ref m_lanes, .ref m_lengths, .ref m_cells])), (m_secrets, .inl (E.2.1 1, 4, .inl f_10))]) C 1 rfl (vin rfl) ef_10 rfl dX12_people_36 ?_
      refine ww_iinc (j := 0) (v := 2) (lv' := [(2, .int 2), (0, .ref hm), (1, .int 4)]) C dX12_people_37 rfl rfl rfl rfl ?_
      refine ww_goto (tgt := 23) C dX12_people_40 (by decide) ?_
      refine ww_iload_n C dX12_people_23 0 rfl rfl ?_
      refine ww_iload_n C dX12_people_24 2 rfl rfl ?_
      refine ww_icmp_ge_f (tgt := 43) C dX12_people_25 (by decide) (by decide) ?_
      refine ww_aload_n C dX12_people_28 1 rfl rfl ?_
      refine ww_get C fg_X12_90 0 rfl rfl dX12_people_29 ?_
      refine ww_iload_n C dX12_people_32 0 rfl rfl ?_
      refine ww_iconst (v := 1) C dX12_people_33 rfl ?_
      refine ww_iload_n C dX12_people_34 0 rfl rfl ?_
      refine ww_ishl (v := 4) C dX12_people_35 (by decide) ?_
      obtain ⟨f_11, ef_11⟩ : ∃ z : Nat → Int32, upd f_10 2 4 = z := ⟨_, rfl⟩
      refine ww_iast (ws' := [(hm, .inr (12, [.ref m_manys, .ref m_reals, .ref m_factsOf, .ref m_possible, .int 0, .int 0, .ref m_tape, .int 0, .int 0, .int 0, .int 0, .int 0, .int 0, .int 0, .int 0, .ref m_ends, .ref m_letters, .ref m_actOf, .ref m_whom, .ref m_actMany, .ref m_tokens, .ref m_afters, .ref m_afterOf, .int 0, .ref m_pile, .ref m_caseMany, .ref m_happen, .ref m_hasIf, .ref m_becomes, .ref m_goneOf, .ref m_heard, .ref m_pairs, .ref m_heaps, .int 0, .int 0, .ref m_led, .ref m_newAt, .ref m_knowing, .ref m_firsts, .int 4, .ref m_secrets, .ref m_tried, .ref m_lanes, .ref m_lengths, .ref m_cells])), (m_secrets, .inl (E.2.1 1, 4, .inl f_11))]) C 1 rfl (vin rfl) ef_11 rfl dX12_people_36 ?_
      refine ww_iinc (j := 0) (v := 3) (lv' := [(2, .int 3), (0, .ref hm), (1, .int 4)]) C dX12_people_37 rfl rfl rfl rfl ?_
      refine ww_goto (tgt := 23) C dX12_people_40 (by decide) ?_
      refine ww_iload_n C dX12_people_23 0 rfl rfl ?_
      refine ww_iload_n C dX12_people_24 2 rfl rfl ?_
      refine ww_icmp_ge_f (tgt := 43) C dX12_people_25 (by decide) (by decide) ?_
      refine ww_aload_n C dX12_people_28 1 rfl rfl ?_
      refine ww_get C fg_X12_90 0 rfl rfl dX12_people_29 ?_
      refine ww_iload_n C dX12_people_32 0 rfl rfl ?_
      refine ww_iconst (v := 1) C dX12_people_33 rfl ?_
      refine ww_iload_n C dX12_people_34 0 rfl rfl ?_
      refine ww_ishl (v := 8) C dX12_people_35 (by decide) ?_
      obtain ⟨f_12, ef_12⟩ : ∃ z : Nat → Int32, upd f_11 3 8 = z := ⟨_, rfl⟩
      refine ww_iast (ws' := [(hm, .inr (12, [.ref m_manys, .ref m_reals, .ref m_factsOf, .ref m_possible, .int 0, .int 0, .ref m_tape, .int 0, .int 0, .int 0, .int 0, .int 0, .int 0, .int 0, .int 0, .ref m_ends, .ref m_letters, .ref m_actOf, .ref m_whom, .ref m_actMany, .ref m_tokens, .ref m_afters, .ref m_afterOf, .int 0, .ref m_pile, .ref m_caseMany, .ref m_happen, .ref m_hasIf, .ref m_becomes, .ref m_goneOf, .ref m_heard, .ref m_pairs, .ref m_heaps, .int 0, .int 0, .ref m_led, .ref m_newAt, .ref m_knowing, .ref m_firsts, .int 4, .ref m_secrets, .ref m_tried, .ref m_lanes, .ref m_lengths, .ref m_cells])), (m_secrets, .inl (E.2.1 1, 4, .inl f_12))]) C 1 rfl (vin rfl) ef_12 rfl dX12_people_36 ?_
      refine ww_iinc (j := 0) (v := 4) (lv' := [(2, .int 4), (0, .ref hm), (1, .int 4)]) C dX12_people_37 rfl rfl rfl rfl ?_
      refine ww_goto (tgt := 23) C dX12_people_40 (by decide) ?_
      refine ww_iload_n C dX12_people_23 0 rfl rfl ?_
      refine ww_iload_n C dX12_people_24 2 rfl rfl ?_
      refine ww_icmp_ge_t (tgt := 43) C dX12_people_25 (by decide) (by decide) ?_
      refine ww_iload_n C dX12_people_43 2 rfl rfl ?_
      exact ww_iret (u := []) C hT [] rfl rfl rfl rfl dX12_people_44 (Or.inr (Or.inr (Or.inr ⟨rfl, rfl, (by first | assumption | omega | decide)⟩)))
  · refine ww_eq (ws' := [(hm, .inr (12, [.ref m_manys, .ref m_reals, .ref m_factsOf, .ref m_possible, .int 0, .int 0, .ref m_tape, .int 0, .int 0, .int 0, .int 0, .int 0, .int 0, .int 0, .int 0, .ref m_ends, .ref m_letters, .ref m_actOf, .ref m_whom, .ref m_actMany, .ref m_tokens, .ref m_afters, .ref m_afterOf, .int 0, .ref m_pile, .ref m_caseMany, .ref m_happen, .ref m_hasIf, .ref m_becomes, .ref m_goneOf, .ref m_heard, .ref m_pairs, .ref m_heaps, .int 0, .int 0, .ref m_led, .ref m_newAt, .ref m_knowing, .ref m_firsts, .int 0, .ref m_secrets, .ref m_tried, .ref m_lanes, .ref m_lengths, .ref m_cells])), (m_secrets, .inl (E.2.1 1, 4, .inl (fun _ => 0)))]) ?_ rfl rfl rfl
    refine ww_if_ne_f (tgt := 16) C dX12_people_11 (by decide) (rfl) ?_
    refine ww_iconst (v := (-1)) C dX12_people_14 rfl ?_
    exact ww_iret (u := []) C hT [] rfl rfl rfl rfl dX12_people_15 (Or.inl ⟨rfl, rfl, (by first | assumption | omega | decide)⟩)
theorem dX12_isOne_0 : decode cX12_isOne 0 = .ok (.iload_n 1, 1) := by decide +kernel
theorem dX12_isOne_1 : decode cX12_isOne 1 = .ok (.i2l, 1) := by decide +kernel
theorem dX12_isOne_2 : decode cX12_isOne 2 = .ok (.lconst 0, 1) := by decide +kernel
theorem dX12_isOne_3 : decode cX12_isOne 3 = .ok (.aload_n 0, 1) := by decide +kernel
theorem dX12_isOne_4 : decode cX12_isOne 4 = .ok (.getfield 332, 3) := by decide +kernel
theorem fg_X12_332 : FG RX12 332 12 39 := ⟨RX12, TX12, 45, uw_X12, wf_X12_332, rfl, by decide, rfl⟩
theorem dX12_isOne_7 : decode cX12_isOne 7 = .ok (.iconst 1, 1) := by decide +kernel
theorem dX12_isOne_8 : decode cX12_isOne 8 = .ok (.isub, 1) := by decide +kernel
theorem dX12_isOne_9 : decode cX12_isOne 9 = .ok (.i2l, 1) := by decide +kernel
theorem dX12_isOne_10 : decode cX12_isOne 10 = .ok (.invokestatic 115, 3) := by decide +kernel
theorem dX12_isOne_13 : decode cX12_isOne 13 = .ok (.ireturn, 1) := by decide +kernel
set_option maxRecDepth 100000 in
set_option maxHeartbeats 4000000 in
theorem r_isOne (l : Launch) (E : EV) (hm : Nat) (p0 : Int32) (m_manys : Nat) (m_reals : Nat) (m_factsOf : Nat) (m_possible : Nat) (m_tape : Nat) (m_ends : Nat) (m_letters : Nat) (m_actOf : Nat) (m_whom : Nat) (m_actMany : Nat) (m_tokens : Nat) (m_afters : Nat) (m_afterOf : Nat) (m_pile : Nat) (m_caseMany : Nat) (m_happen : Nat) (m_hasIf : Nat) (m_becomes : Nat) (m_goneOf : Nat) (m_heard : Nat) (m_pairs : Nat) (m_heaps : Nat) (m_led : Nat) (m_newAt : Nat) (m_knowing : Nat) (m_firsts : Nat) (m_secrets : Nat) (m_tried : Nat) (m_lanes : Nat) (m_lengths : Nat) (m_cells : Nat)  : CT l yX12_isOne (Cond.code yX12_isOne cX12_isOne 2 (some .boolean) :: TB) ({ frames := 1, cells := 0, slots := 0, locals := 25 }) E [.ref hm, .int p0] [(hm, .inr (12, [.ref m_manys, .ref m_reals, .ref m_factsOf, .ref m_possible, .int 0, .int 0, .ref m_tape, .int 0, .int 0, .int 0, .int 0, .int 0, .int 0, .int 0, .int 0, .ref m_ends, .ref m_letters, .ref m_actOf, .ref m_whom, .ref m_actMany, .ref m_tokens, .ref m_afters, .ref m_afterOf, .int 0, .ref m_pile, .ref m_caseMany, .ref m_happen, .ref m_hasIf, .ref m_becomes, .ref m_goneOf, .ref m_heard, .ref m_pairs, .ref m_heaps, .int 0, .int 0, .ref m_led, .ref m_newAt, .ref m_knowing, .ref m_firsts, .int 0, .ref m_secrets, .ref m_tried, .ref m_lanes, .ref m_lengths, .ref m_cells]))] (Qi E (fun (r : Int32) u => (r = 0 ∧ u = [(hm, .inr (12, [.ref m_manys, .ref m_reals, .ref m_factsOf, .ref m_possible, .int 0, .int 0, .ref m_tape, .int 0, .int 0, .int 0, .int 0, .int 0, .int 0, .int 0, .int 0, .ref m_ends, .ref m_letters, .ref m_actOf, .ref m_whom, .ref m_actMany, .ref m_tokens, .ref m_afters, .ref m_afterOf, .int 0, .ref m_pile, .ref m_caseMany, .ref m_happen, .ref m_hasIf, .ref m_becomes, .ref m_goneOf, .ref m_heard, .ref m_pairs, .ref m_heaps, .int 0, .int 0, .ref m_led, .ref m_newAt, .ref m_knowing, .ref m_firsts, .int 0, .ref m_secrets, .ref m_tried, .ref m_lanes, .ref m_lengths, .ref m_cells]))]))) 0 0 := by
  refine ct_of rfl rfl ?_
  intro X C hT hin
  show WW X 2 E 0 [(0, .ref hm), (1, .int p0)] [] [(hm, .inr (12, [.ref m_manys, .ref m_reals, .ref m_factsOf, .ref m_possible, .int 0, .int 0, .ref m_tape, .int 0, .int 0, .int 0, .int 0, .int 0, .int 0, .int 0, .int 0, .ref m_ends, .ref m_letters, .ref m_actOf, .ref m_whom, .ref m_actMany, .ref m_tokens, .ref m_afters, .ref m_afterOf, .int 0, .ref m_pile, .ref m_caseMany, .ref m_happen, .ref m_hasIf, .ref m_becomes, .ref m_goneOf, .ref m_heard, .ref m_pairs, .ref m_heaps, .int 0, .int 0, .ref m_led, .ref m_newAt, .ref m_knowing, .ref m_firsts, .int 0, .ref m_secrets, .ref m_tried, .ref m_lanes, .ref m_lengths, .ref m_cells]))] 0 0
  refine ww_iload_n C dX12_isOne_0 1 rfl rfl ?_
  refine ww_i2l (v := p0.toInt64) C dX12_isOne_1 rfl ?_
  refine ww_lconst (v := 0) C dX12_isOne_2 rfl ?_
  refine ww_aload_n C dX12_isOne_3 0 rfl rfl ?_
  refine ww_get C fg_X12_332 0 rfl rfl dX12_isOne_4 ?_
  refine ww_iconst (v := 1) C dX12_isOne_7 rfl ?_
  refine ww_isub (v := (-1)) C dX12_isOne_8 (by decide) ?_
  refine ww_i2l (v := (-1)) C dX12_isOne_9 rfl ?_
  refine ww_ci (wr := [(hm, .inr (12, [.ref m_manys, .ref m_reals, .ref m_factsOf, .ref m_possible, .int 0, .int 0, .ref m_tape, .int 0, .int 0, .int 0, .int 0, .int 0, .int 0, .int 0, .int 0, .ref m_ends, .ref m_letters, .ref m_actOf, .ref m_whom, .ref m_actMany, .ref m_tokens, .ref m_afters, .ref m_afterOf, .int 0, .ref m_pile, .ref m_caseMany, .ref m_happen, .ref m_hasIf, .ref m_becomes, .ref m_goneOf, .ref m_heard, .ref m_pairs, .ref m_heaps, .int 0, .int 0, .ref m_led, .ref m_newAt, .ref m_knowing, .ref m_firsts, .int 0, .ref m_secrets, .ref m_tried, .ref m_lanes, .ref m_lengths, .ref m_cells]))]) (k' := 0) (n' := 0) C (run_S (As := [.long p0.toInt64, .long 0, .long (-1)]) (rest := []) C (r_in X.2.1 E p0.toInt64 0 (-1) p0.toInt 0 (-1) (Int32.toInt_toInt64 _) rfl rfl) ms_X12_in wl_X12_115 rfl rfl rfl rfl dX12_isOne_10) [] [0] rfl rfl rfl rfl (fun r u hw => ?_)
  rcases hw with ⟨rfl, rfl, h_1, h_2⟩ | ⟨rfl, rfl, h_3⟩
  · omega
  · refine ww_eq (ws' := [(hm, .inr (12, [.ref m_manys, .ref m_reals, .ref m_factsOf, .ref m_possible, .int 0, .int 0, .ref m_tape, .int 0, .int 0, .int 0, .int 0, .int 0, .int 0, .int 0, .int 0, .ref m_ends, .ref m_letters, .ref m_actOf, .ref m_whom, .ref m_actMany, .ref m_tokens, .ref m_afters, .ref m_afterOf, .int 0, .ref m_pile, .ref m_caseMany, .ref m_happen, .ref m_hasIf, .ref m_becomes, .ref m_goneOf, .ref m_heard, .ref m_pairs, .ref m_heaps, .int 0, .int 0, .ref m_led, .ref m_newAt, .ref m_knowing, .ref m_firsts, .int 0, .ref m_secrets, .ref m_tried, .ref m_lanes, .ref m_lengths, .ref m_cells]))]) ?_ rfl rfl rfl
    exact ww_zret (u := [(hm, .inr (12, [.ref m_manys, .ref m_reals, .ref m_factsOf, .ref m_possible, .int 0, .int 0, .ref m_tape, .int 0, .int 0, .int 0, .int 0, .int 0, .int 0, .int 0, .int 0, .ref m_ends, .ref m_letters, .ref m_actOf, .ref m_whom, .ref m_actMany, .ref m_tokens, .ref m_afters, .ref m_afterOf, .int 0, .ref m_pile, .ref m_caseMany, .ref m_happen, .ref m_hasIf, .ref m_becomes, .ref m_goneOf, .ref m_heard, .ref m_pairs, .ref m_heaps, .int 0, .int 0, .ref m_led, .ref m_newAt, .ref m_knowing, .ref m_firsts, .int 0, .ref m_secrets, .ref m_tried, .ref m_lanes, .ref m_lengths, .ref m_cells]))]) C hT [0] rfl rfl rfl rfl rfl dX12_isOne_13 (⟨rfl, rfl⟩)
theorem dX12_call_0 : decode cX12_call 0 = .ok (.aload_n 0, 1) := by decide +kernel
theorem dX12_call_1 : decode cX12_call 1 = .ok (.iload_n 1, 1) := by decide +kernel
theorem dX12_call_2 : decode cX12_call 2 = .ok (.invokevirtual 335, 3) := by decide +kernel
theorem wl_X12_335 : Cond.methodLink RX12 335 yX12_isOne ∈ TB := tbm (tq7 (List.mem_of_getElem? (i := 60) (by decide +kernel))) (by decide +kernel)
theorem wc_X12_isOne : Cond.code yX12_isOne cX12_isOne 2 (some .boolean) ∈ TB := tbm (tq7 (List.mem_of_getElem? (i := 63) (rfl))) (by decide +kernel)
theorem wi_X12_isOne : Cond.instanceMethod yX12_isOne ∈ TB := tbm (tq7 (List.mem_of_getElem? (i := 62) (by decide +kernel))) (by decide +kernel)
theorem ws_X12_isOne : Cond.selects RX12 yX12_isOne yX12_isOne ∈ TB := tbm (tq0 (List.mem_of_getElem? (i := 79) (by decide +kernel))) (by decide +kernel)
theorem mi_X12_isOne : MI yX12_isOne cX12_isOne 2 (some .boolean) 1 := ⟨wc_X12_isOne, wn_X12, ⟨by decide +kernel, by decide +kernel, by decide +kernel⟩, wi_X12_isOne, ws_X12_isOne⟩
theorem dX12_call_5 : decode cX12_call 5 = .ok (.ifCond .eq 16, 3) := by decide +kernel
theorem dX12_call_21 : decode cX12_call 21 = .ok (.iconst (-1), 1) := by decide +kernel
theorem dX12_call_22 : decode cX12_call 22 = .ok (.ireturn, 1) := by decide +kernel
set_option maxRecDepth 100000 in
set_option maxHeartbeats 4000000 in
theorem y_call (l : Launch) (E : EV) (hm : Nat) (p0 : Int32) (p1 : Int32) (m_manys : Nat) (m_reals : Nat) (m_factsOf : Nat) (m_possible : Nat) (m_tape : Nat) (m_ends : Nat) (m_letters : Nat) (m_actOf : Nat) (m_whom : Nat) (m_actMany : Nat) (m_tokens : Nat) (m_afters : Nat) (m_afterOf : Nat) (m_pile : Nat) (m_caseMany : Nat) (m_happen : Nat) (m_hasIf : Nat) (m_becomes : Nat) (m_goneOf : Nat) (m_heard : Nat) (m_pairs : Nat) (m_heaps : Nat) (m_led : Nat) (m_newAt : Nat) (m_knowing : Nat) (m_firsts : Nat) (m_secrets : Nat) (m_tried : Nat) (m_lanes : Nat) (m_lengths : Nat) (m_cells : Nat)  : CT l yX12_call (Cond.code yX12_call cX12_call 3 (some .int) :: TB) ({ frames := 2, cells := 0, slots := 0, locals := 46 }) E [.ref hm, .int p0, .int p1] [(hm, .inr (12, [.ref m_manys, .ref m_reals, .ref m_factsOf, .ref m_possible, .int 0, .int 0, .ref m_tape, .int 0, .int 0, .int 0, .int 0, .int 0, .int 0, .int 0, .int 0, .ref m_ends, .ref m_letters, .ref m_actOf, .ref m_whom, .ref m_actMany, .ref m_tokens, .ref m_afters, .ref m_afterOf, .int 0, .ref m_pile, .ref m_caseMany, .ref m_happen, .ref m_hasIf, .ref m_becomes, .ref m_goneOf, .ref m_heard, .ref m_pairs, .ref m_heaps, .int 0, .int 0, .ref m_led, .ref m_newAt, .ref m_knowing, .ref m_firsts, .int 0, .ref m_secrets, .ref m_tried, .ref m_lanes, .ref m_lengths, .ref m_cells]))] (Qi E (fun (r : Int32) u => (r = (-1) ∧ u = []))) 0 0 := by
  refine ct_of rfl rfl ?_
  intro X C hT hin
  show WW X 3 E 0 [(0, .ref hm), (1, .int p0), (2, .int p1)] [] [(hm, .inr (12, [.ref m_manys, .ref m_reals, .ref m_factsOf, .ref m_possible, .int 0, .int 0, .ref m_tape, .int 0, .int 0, .int 0, .int 0, .int 0, .int 0, .int 0, .int 0, .ref m_ends, .ref m_letters, .ref m_actOf, .ref m_whom, .ref m_actMany, .ref m_tokens, .ref m_afters, .ref m_afterOf, .int 0, .ref m_pile, .ref m_caseMany, .ref m_happen, .ref m_hasIf, .ref m_becomes, .ref m_goneOf, .ref m_heard, .ref m_pairs, .ref m_heaps, .int 0, .int 0, .ref m_led, .ref m_newAt, .ref m_knowing, .ref m_firsts, .int 0, .ref m_secrets, .ref m_tried, .ref m_lanes, .ref m_lengths, .ref m_cells]))] 0 0
  refine ww_aload_n C dX12_call_0 0 rfl rfl ?_
  refine ww_iload_n C dX12_call_1 1 rfl rfl ?_
  refine ww_ci (wr := []) (k' := 0) (n' := 0) C (run_V (As := [.int p0]) (rest := []) C (r_isOne X.2.1 E hm p0 m_manys m_reals m_factsOf m_possible m_tape m_ends m_letters m_actOf m_whom m_actMany m_tokens m_afters m_afterOf m_pile m_caseMany m_happen m_hasIf m_becomes m_goneOf m_heard m_pairs m_heaps m_led m_newAt m_knowing m_firsts m_secrets m_tried m_lanes m_lengths m_cells) mi_X12_isOne wl_X12_335 rfl 0 12 rfl rfl rfl rfl rfl dX12_call_2) [0] [] rfl rfl rfl rfl (fun r u hw => ?_)
  obtain ⟨rfl, rfl⟩ := hw
  refine ww_eq (ws' := [(hm, .inr (12, [.ref m_manys, .ref m_reals, .ref m_factsOf, .ref m_possible, .int 0, .int 0, .ref m_tape, .int 0, .int 0, .int 0, .int 0, .int 0, .int 0, .int 0, .int 0, .ref m_ends, .ref m_letters, .ref m_actOf, .ref m_whom, .ref m_actMany, .ref m_tokens, .ref m_afters, .ref m_afterOf, .int 0, .ref m_pile, .ref m_caseMany, .ref m_happen, .ref m_hasIf, .ref m_becomes, .ref m_goneOf, .ref m_heard, .ref m_pairs, .ref m_heaps, .int 0, .int 0, .ref m_led, .ref m_newAt, .ref m_knowing, .ref m_firsts, .int 0, .ref m_secrets, .ref m_tried, .ref m_lanes, .ref m_lengths, .ref m_cells]))]) ?_ rfl rfl rfl
  refine ww_if_eq_t (tgt := 21) C dX12_call_5 (by decide) (rfl) ?_
  refine ww_iconst (v := (-1)) C dX12_call_21 rfl ?_
  exact ww_iret (u := []) C hT [] rfl rfl rfl rfl dX12_call_22 (⟨rfl, rfl⟩)
theorem dX12_secrets_0 : decode cX12_secrets 0 = .ok (.aload_n 0, 1) := by decide +kernel
theorem dX12_secrets_1 : decode cX12_secrets 1 = .ok (.iload_n 1, 1) := by decide +kernel
theorem dX12_secrets_2 : decode cX12_secrets 2 = .ok (.invokevirtual 335, 3) := by decide +kernel
theorem dX12_secrets_5 : decode cX12_secrets 5 = .ok (.ifCond .eq 12, 3) := by decide +kernel
theorem dX12_secrets_17 : decode cX12_secrets 17 = .ok (.iconst (-1), 1) := by decide +kernel
theorem dX12_secrets_18 : decode cX12_secrets 18 = .ok (.ireturn, 1) := by decide +kernel
set_option maxRecDepth 100000 in
set_option maxHeartbeats 4000000 in
theorem y_secrets (l : Launch) (E : EV) (hm : Nat) (p0 : Int32) (m_manys : Nat) (m_reals : Nat) (m_factsOf : Nat) (m_possible : Nat) (m_tape : Nat) (m_ends : Nat) (m_letters : Nat) (m_actOf : Nat) (m_whom : Nat) (m_actMany : Nat) (m_tokens : Nat) (m_afters : Nat) (m_afterOf : Nat) (m_pile : Nat) (m_caseMany : Nat) (m_happen : Nat) (m_hasIf : Nat) (m_becomes : Nat) (m_goneOf : Nat) (m_heard : Nat) (m_pairs : Nat) (m_heaps : Nat) (m_led : Nat) (m_newAt : Nat) (m_knowing : Nat) (m_firsts : Nat) (m_secrets : Nat) (m_tried : Nat) (m_lanes : Nat) (m_lengths : Nat) (m_cells : Nat)  : CT l yX12_secrets (Cond.code yX12_secrets cX12_secrets 2 (some .int) :: TB) ({ frames := 2, cells := 0, slots := 0, locals := 46 }) E [.ref hm, .int p0] [(hm, .inr (12, [.ref m_manys, .ref m_reals, .ref m_factsOf, .ref m_possible, .int 0, .int 0, .ref m_tape, .int 0, .int 0, .int 0, .int 0, .int 0, .int 0, .int 0, .int 0, .ref m_ends, .ref m_letters, .ref m_actOf, .ref m_whom, .ref m_actMany, .ref m_tokens, .ref m_afters, .ref m_afterOf, .int 0, .ref m_pile, .ref m_caseMany, .ref m_happen, .ref m_hasIf, .ref m_becomes, .ref m_goneOf, .ref m_heard, .ref m_pairs, .ref m_heaps, .int 0, .int 0, .ref m_led, .ref m_newAt, .ref m_knowing, .ref m_firsts, .int 0, .ref m_secrets, .ref m_tried, .ref m_lanes, .ref m_lengths, .ref m_cells]))] (Qi E (fun (r : Int32) u => (r = (-1) ∧ u = []))) 0 0 := by
  refine ct_of rfl rfl ?_
  intro X C hT hin
  show WW X 2 E 0 [(0, .ref hm), (1, .int p0)] [] [(hm, .inr (12, [.ref m_manys, .ref m_reals, .ref m_factsOf, .ref m_possible, .int 0, .int 0, .ref m_tape, .int 0, .int 0, .int 0, .int 0, .int 0, .int 0, .int 0, .int 0, .ref m_ends, .ref m_letters, .ref m_actOf, .ref m_whom, .ref m_actMany, .ref m_tokens, .ref m_afters, .ref m_afterOf, .int 0, .ref m_pile, .ref m_caseMany, .ref m_happen, .ref m_hasIf, .ref m_becomes, .ref m_goneOf, .ref m_heard, .ref m_pairs, .ref m_heaps, .int 0, .int 0, .ref m_led, .ref m_newAt, .ref m_knowing, .ref m_firsts, .int 0, .ref m_secrets, .ref m_tried, .ref m_lanes, .ref m_lengths, .ref m_cells]))] 0 0
  refine ww_aload_n C dX12_secrets_0 0 rfl rfl ?_
  refine ww_iload_n C dX12_secrets_1 1 rfl rfl ?_
  refine ww_ci (wr := []) (k' := 0) (n' := 0) C (run_V (As := [.int p0]) (rest := []) C (r_isOne X.2.1 E hm p0 m_manys m_reals m_factsOf m_possible m_tape m_ends m_letters m_actOf m_whom m_actMany m_tokens m_afters m_afterOf m_pile m_caseMany m_happen m_hasIf m_becomes m_goneOf m_heard m_pairs m_heaps m_led m_newAt m_knowing m_firsts m_secrets m_tried m_lanes m_lengths m_cells) mi_X12_isOne wl_X12_335 rfl 0 12 rfl rfl rfl rfl rfl dX12_secrets_2) [0] [] rfl rfl rfl rfl (fun r u hw => ?_)
  obtain ⟨rfl, rfl⟩ := hw
  refine ww_eq (ws' := [(hm, .inr (12, [.ref m_manys, .ref m_reals, .ref m_factsOf, .ref m_possible, .int 0, .int 0, .ref m_tape, .int 0, .int 0, .int 0, .int 0, .int 0, .int 0, .int 0, .int 0, .ref m_ends, .ref m_letters, .ref m_actOf, .ref m_whom, .ref m_actMany, .ref m_tokens, .ref m_afters, .ref m_afterOf, .int 0, .ref m_pile, .ref m_caseMany, .ref m_happen, .ref m_hasIf, .ref m_becomes, .ref m_goneOf, .ref m_heard, .ref m_pairs, .ref m_heaps, .int 0, .int 0, .ref m_led, .ref m_newAt, .ref m_knowing, .ref m_firsts, .int 0, .ref m_secrets, .ref m_tried, .ref m_lanes, .ref m_lengths, .ref m_cells]))]) ?_ rfl rfl rfl
  refine ww_if_eq_t (tgt := 17) C dX12_secrets_5 (by decide) (rfl) ?_
  refine ww_iconst (v := (-1)) C dX12_secrets_17 rfl ?_
  exact ww_iret (u := []) C hT [] rfl rfl rfl rfl dX12_secrets_18 (⟨rfl, rfl⟩)
theorem dX12_fewest_0 : decode cX12_fewest 0 = .ok (.iload_n 1, 1) := by decide +kernel
theorem dX12_fewest_1 : decode cX12_fewest 1 = .ok (.i2l, 1) := by decide +kernel
theorem dX12_fewest_2 : decode cX12_fewest 2 = .ok (.lconst 0, 1) := by decide +kernel
theorem dX12_fewest_3 : decode cX12_fewest 3 = .ok (.lconst 1, 1) := by decide +kernel
theorem dX12_fewest_4 : decode cX12_fewest 4 = .ok (.invokestatic 115, 3) := by decide +kernel
theorem dX12_fewest_7 : decode cX12_fewest 7 = .ok (.ifCond .ne 5, 3) := by decide +kernel
theorem dX12_fewest_12 : decode cX12_fewest 12 = .ok (.aload_n 0, 1) := by decide +kernel
theorem dX12_fewest_13 : decode cX12_fewest 13 = .ok (.getfield 332, 3) := by decide +kernel
theorem dX12_fewest_16 : decode cX12_fewest 16 = .ok (.ifCond .ne 6, 3) := by decide +kernel
theorem dX12_fewest_19 : decode cX12_fewest 19 = .ok (.bipush (-2), 2) := by decide +kernel
theorem dX12_fewest_21 : decode cX12_fewest 21 = .ok (.ireturn, 1) := by decide +kernel
theorem dX12_fewest_10 : decode cX12_fewest 10 = .ok (.iconst (-1), 1) := by decide +kernel
theorem dX12_fewest_11 : decode cX12_fewest 11 = .ok (.ireturn, 1) := by decide +kernel
set_option maxRecDepth 100000 in
set_option maxHeartbeats 4000000 in
theorem y_fewest (l : Launch) (E : EV) (hm : Nat) (p0 : Int32) (m_manys : Nat) (m_reals : Nat) (m_factsOf : Nat) (m_possible : Nat) (m_tape : Nat) (m_ends : Nat) (m_letters : Nat) (m_actOf : Nat) (m_whom : Nat) (m_actMany : Nat) (m_tokens : Nat) (m_afters : Nat) (m_afterOf : Nat) (m_pile : Nat) (m_caseMany : Nat) (m_happen : Nat) (m_hasIf : Nat) (m_becomes : Nat) (m_goneOf : Nat) (m_heard : Nat) (m_pairs : Nat) (m_heaps : Nat) (m_led : Nat) (m_newAt : Nat) (m_knowing : Nat) (m_firsts : Nat) (m_secrets : Nat) (m_tried : Nat) (m_lanes : Nat) (m_lengths : Nat) (m_cells : Nat)  : CT l yX12_fewest (Cond.code yX12_fewest cX12_fewest 6 (some .int) :: TB) ({ frames := 1, cells := 0, slots := 0, locals := 25 }) E [.ref hm, .int p0] [(hm, .inr (12, [.ref m_manys, .ref m_reals, .ref m_factsOf, .ref m_possible, .int 0, .int 0, .ref m_tape, .int 0, .int 0, .int 0, .int 0, .int 0, .int 0, .int 0, .int 0, .ref m_ends, .ref m_letters, .ref m_actOf, .ref m_whom, .ref m_actMany, .ref m_tokens, .ref m_afters, .ref m_afterOf, .int 0, .ref m_pile, .ref m_caseMany, .ref m_happen, .ref m_hasIf, .ref m_becomes, .ref m_goneOf, .ref m_heard, .ref m_pairs, .ref m_heaps, .int 0, .int 0, .ref m_led, .ref m_newAt, .ref m_knowing, .ref m_firsts, .int 0, .ref m_secrets, .ref m_tried, .ref m_lanes, .ref m_lengths, .ref m_cells]))] (Qi E (fun (r : Int32) u => (r = (-1) ∧ u = [] ∧ (p0.toInt < 0 ∨ 1 < p0.toInt)) ∨ (r = (-2) ∧ u = [] ∧ (0 ≤ p0.toInt) ∧ (p0.toInt ≤ 1)))) 0 0 := by
  refine ct_of rfl rfl ?_
  intro X C hT hin
  show WW X 6 E 0 [(0, .ref hm), (1, .int p0)] [] [(hm, .inr (12, [.ref m_manys, .ref m_reals, .ref m_factsOf, .ref m_possible, .int 0, .int 0, .ref m_tape, .int 0, .int 0, .int 0, .int 0, .int 0, .int 0, .int 0, .int 0, .ref m_ends, .ref m_letters, .ref m_actOf, .ref m_whom, .ref m_actMany, .ref m_tokens, .ref m_afters, .ref m_afterOf, .int 0, .ref m_pile, .ref m_caseMany, .ref m_happen, .ref m_hasIf, .ref m_becomes, .ref m_goneOf, .ref m_heard, .ref m_pairs, .ref m_heaps, .int 0, .int 0, .ref m_led, .ref m_newAt, .ref m_knowing, .ref m_firsts, .int 0, .ref m_secrets, .ref m_tried, .ref m_lanes, .ref m_lengths, .ref m_cells]))] 0 0
  refine ww_iload_n C dX12_fewest_0 1 rfl rfl ?_
  refine ww_i2l (v := p0.toInt64) C dX12_fewest_1 rfl ?_
  refine ww_lconst (v := 0) C dX12_fewest_2 rfl ?_
  refine ww_lconst (v := 1) C dX12_fewest_3 rfl ?_
  refine ww_ci (wr := [(hm, .inr (12, [.ref m_manys, .ref m_reals, .ref m_factsOf, .ref m_possible, .int 0, .int 0, .ref m_tape, .int 0, .int 0, .int 0, .int 0, .int 0, .int 0, .int 0, .int 0, .ref m_ends, .ref m_letters, .ref m_actOf, .ref m_whom, .ref m_actMany, .ref m_tokens, .ref m_afters, .ref m_afterOf, .int 0, .ref m_pile, .ref m_caseMany, .ref m_happen, .ref m_hasIf, .ref m_becomes, .ref m_goneOf, .ref m_heard, .ref m_pairs, .ref m_heaps, .int 0, .int 0, .ref m_led, .ref m_newAt, .ref m_knowing, .ref m_firsts, .int 0, .ref m_secrets, .ref m_tried, .ref m_lanes, .ref m_lengths, .ref m_cells]))]) (k' := 0) (n' := 0) C (run_S (As := [.long p0.toInt64, .long 0, .long 1]) (rest := []) C (r_in X.2.1 E p0.toInt64 0 1 p0.toInt 0 1 (Int32.toInt_toInt64 _) rfl rfl) ms_X12_in wl_X12_115 rfl rfl rfl rfl dX12_fewest_4) [] [0] rfl rfl rfl rfl (fun r u hw => ?_)
  rcases hw with ⟨rfl, rfl, h_1, h_2⟩ | ⟨rfl, rfl, h_3⟩
  · refine ww_eq (ws' := [(hm, .inr (12, [.ref m_manys, .ref m_reals, .ref m_factsOf, .ref m_possible, .int 0, .int 0, .ref m_tape, .int 0, .int 0, .int 0, .int 0, .int 0, .int 0, .int 0, .int 0, .ref m_ends, .ref m_letters, .ref m_actOf, .ref m_whom, .ref m_actMany, .ref m_tokens, .ref m_afters, .ref m_afterOf, .int 0, .ref m_pile, .ref m_caseMany, .ref m_happen, .ref m_hasIf, .ref m_becomes, .ref m_goneOf, .ref m_heard, .ref m_pairs, .ref m_heaps, .int 0, .int 0, .ref m_led, .ref m_newAt, .ref m_knowing, .ref m_firsts, .int 0, .ref m_secrets, .ref m_tried, .ref m_lanes, .ref m_lengths, .ref m_cells]))]) ?_ rfl rfl rfl
    refine ww_if_ne_t (tgt := 12) C dX12_fewest_7 (by decide) (by decide) ?_
    refine ww_aload_n C dX12_fewest_12 0 rfl rfl ?_
    refine ww_get C fg_X12_332 0 rfl rfl dX12_fewest_13 ?_
    refine ww_if_ne_f (tgt := 22) C dX12_fewest_16 (by decide) (rfl) ?_
    refine ww_bipush (v := (-2)) C dX12_fewest_19 rfl ?_
    exact ww_iret (u := []) C hT [] rfl rfl rfl rfl dX12_fewest_21 (Or.inr ⟨rfl, rfl, (by first | assumption | omega | decide), (by first | assumption | omega | decide)⟩)
  · refine ww_eq (ws' := [(hm, .inr (12, [.ref m_manys, .ref m_reals, .ref m_factsOf, .ref m_possible, .int 0, .int 0, .ref m_tape, .int 0, .int 0, .int 0, .int 0, .int 0, .int 0, .int 0, .int 0, .ref m_ends, .ref m_letters, .ref m_actOf, .ref m_whom, .ref m_actMany, .ref m_tokens, .ref m_afters, .ref m_afterOf, .int 0, .ref m_pile, .ref m_caseMany, .ref m_happen, .ref m_hasIf, .ref m_becomes, .ref m_goneOf, .ref m_heard, .ref m_pairs, .ref m_heaps, .int 0, .int 0, .ref m_led, .ref m_newAt, .ref m_knowing, .ref m_firsts, .int 0, .ref m_secrets, .ref m_tried, .ref m_lanes, .ref m_lengths, .ref m_cells]))]) ?_ rfl rfl rfl
    refine ww_if_ne_f (tgt := 12) C dX12_fewest_7 (by decide) (rfl) ?_
    refine ww_iconst (v := (-1)) C dX12_fewest_10 rfl ?_
    exact ww_iret (u := []) C hT [] rfl rfl rfl rfl dX12_fewest_11 (Or.inl ⟨rfl, rfl, (by first | assumption | omega | decide)⟩)
theorem dX12_sheet_0 : decode cX12_sheet 0 = .ok (.iload_n 1, 1) := by decide +kernel
theorem dX12_sheet_1 : decode cX12_sheet 1 = .ok (.i2l, 1) := by decide +kernel
theorem dX12_sheet_2 : decode cX12_sheet 2 = .ok (.lconst 0, 1) := by decide +kernel
theorem dX12_sheet_3 : decode cX12_sheet 3 = .ok (.ldc2_w 113, 3) := by decide +kernel
theorem dX12_sheet_6 : decode cX12_sheet 6 = .ok (.invokestatic 115, 3) := by decide +kernel
theorem dX12_sheet_9 : decode cX12_sheet 9 = .ok (.ifCond .eq 21, 3) := by decide +kernel
theorem dX12_sheet_12 : decode cX12_sheet 12 = .ok (.iload_n 2, 1) := by decide +kernel
theorem dX12_sheet_13 : decode cX12_sheet 13 = .ok (.i2l, 1) := by decide +kernel
theorem dX12_sheet_14 : decode cX12_sheet 14 = .ok (.lconst 0, 1) := by decide +kernel
theorem dX12_sheet_15 : decode cX12_sheet 15 = .ok (.ldc2_w 254, 3) := by decide +kernel
theorem dX12_sheet_18 : decode cX12_sheet 18 = .ok (.invokestatic 115, 3) := by decide +kernel
theorem dX12_sheet_21 : decode cX12_sheet 21 = .ok (.ifCond .eq 9, 3) := by decide +kernel
theorem dX12_sheet_24 : decode cX12_sheet 24 = .ok (.iload_n 3, 1) := by decide +kernel
theorem dX12_sheet_25 : decode cX12_sheet 25 = .ok (.bipush 48, 2) := by decide +kernel
theorem dX12_sheet_27 : decode cX12_sheet 27 = .ok (.if_icmp .le 5, 3) := by decide +kernel
theorem dX12_sheet_32 : decode cX12_sheet 32 = .ok (.iload_n 3, 1) := by decide +kernel
theorem dX12_sheet_33 : decode cX12_sheet 33 = .ok (.ifCond .ge 6, 3) := by decide +kernel
theorem dX12_sheet_39 : decode cX12_sheet 39 = .ok (.aload_n 0, 1) := by decide +kernel
theorem dX12_sheet_40 : decode cX12_sheet 40 = .ok (.getfield 96, 3) := by decide +kernel
theorem fg_X12_96 : FG RX12 96 12 42 := ⟨RX12, TX12, 45, uw_X12, wf_X12_96, rfl, by decide, rfl⟩
theorem dX12_sheet_43 : decode cX12_sheet 43 = .ok (.iload_n 1, 1) := by decide +kernel
theorem dX12_sheet_44 : decode cX12_sheet 44 = .ok (.iload_n 2, 1) := by decide +kernel
theorem dX12_sheet_45 : decode cX12_sheet 45 = .ok (.iastore, 1) := by decide +kernel
theorem dX12_sheet_46 : decode cX12_sheet 46 = .ok (.aload_n 0, 1) := by decide +kernel
theorem dX12_sheet_47 : decode cX12_sheet 47 = .ok (.getfield 99, 3) := by decide +kernel
theorem fg_X12_99 : FG RX12 99 12 43 := ⟨RX12, TX12, 45, uw_X12, wf_X12_99, rfl, by decide, rfl⟩
theorem dX12_sheet_50 : decode cX12_sheet 50 = .ok (.iload_n 1, 1) := by decide +kernel
theorem dX12_sheet_51 : decode cX12_sheet 51 = .ok (.iload_n 3, 1) := by decide +kernel
theorem dX12_sheet_52 : decode cX12_sheet 52 = .ok (.iastore, 1) := by decide +kernel
theorem dX12_sheet_53 : decode cX12_sheet 53 = .ok (.iconst 0, 1) := by decide +kernel
theorem dX12_sheet_54 : decode cX12_sheet 54 = .ok (.istore 4, 2) := by decide +kernel
theorem dX12_sheet_56 : decode cX12_sheet 56 = .ok (.iload 4, 2) := by decide +kernel
theorem dX12_sheet_58 : decode cX12_sheet 58 = .ok (.bipush 48, 2) := by decide +kernel
theorem dX12_sheet_60 : decode cX12_sheet 60 = .ok (.if_icmp .ge 22, 3) := by decide +kernel
theorem dX12_sheet_82 : decode cX12_sheet 82 = .ok (.iconst 1, 1) := by decide +kernel
theorem dX12_sheet_83 : decode cX12_sheet 83 = .ok (.ireturn, 1) := by decide +kernel
theorem dX12_sheet_63 : decode cX12_sheet 63 = .ok (.aload_n 0, 1) := by decide +kernel
theorem dX12_sheet_64 : decode cX12_sheet 64 = .ok (.getfield 102, 3) := by decide +kernel
theorem fg_X12_102 : FG RX12 102 12 44 := ⟨RX12, TX12, 45, uw_X12, wf_X12_102, rfl, by decide, rfl⟩
theorem dX12_sheet_67 : decode cX12_sheet 67 = .ok (.bipush 48, 2) := by decide +kernel
theorem dX12_sheet_69 : decode cX12_sheet 69 = .ok (.iload_n 1, 1) := by decide +kernel
theorem dX12_sheet_70 : decode cX12_sheet 70 = .ok (.imul, 1) := by decide +kernel
theorem dX12_sheet_71 : decode cX12_sheet 71 = .ok (.iload 4, 2) := by decide +kernel
theorem dX12_sheet_73 : decode cX12_sheet 73 = .ok (.iadd, 1) := by decide +kernel
theorem dX12_sheet_74 : decode cX12_sheet 74 = .ok (.iconst 0, 1) := by decide +kernel
theorem dX12_sheet_75 : decode cX12_sheet 75 = .ok (.iastore, 1) := by decide +kernel
theorem dX12_sheet_76 : decode cX12_sheet 76 = .ok (.iinc 4 1, 3) := by decide +kernel
theorem dX12_sheet_79 : decode cX12_sheet 79 = .ok (.goto (-23), 3) := by decide +kernel
theorem dX12_sheet_36 : decode cX12_sheet 36 = .ok (.bipush (-14), 2) := by decide +kernel
theorem dX12_sheet_38 : decode cX12_sheet 38 = .ok (.ireturn, 1) := by decide +kernel
theorem dX12_sheet_30 : decode cX12_sheet 30 = .ok (.iconst (-1), 1) := by decide +kernel
theorem dX12_sheet_31 : decode cX12_sheet 31 = .ok (.ireturn, 1) := by decide +kernel
set_option maxRecDepth 100000 in
set_option maxHeartbeats 4000000 in
theorem y_sheet (l : Launch) (E : EV) (hm : Nat) (p0 : Int32) (p1 : Int32) (p2 : Int32) (m_manys : Nat) (m_reals : Nat) (m_factsOf : Nat) (m_possible : Nat) (m_tape : Nat) (m_ends : Nat) (m_letters : Nat) (m_actOf : Nat) (m_whom : Nat) (m_actMany : Nat) (m_tokens : Nat) (m_afters : Nat) (m_afterOf : Nat) (m_pile : Nat) (m_caseMany : Nat) (m_happen : Nat) (m_hasIf : Nat) (m_becomes : Nat) (m_goneOf : Nat) (m_heard : Nat) (m_pairs : Nat) (m_heaps : Nat) (m_led : Nat) (m_newAt : Nat) (m_knowing : Nat) (m_firsts : Nat) (m_secrets : Nat) (m_tried : Nat) (m_lanes : Nat) (m_lengths : Nat) (m_cells : Nat) (fl : Nat → Int32) (k_fl_0 : fl 0 = (-4)) (k_fl_1 : fl 1 = (-4)) (k_fl_2 : fl 2 = (-4)) (k_fl_3 : fl 3 = (-4)) : CT l yX12_sheet (Cond.code yX12_sheet cX12_sheet 5 (some .int) :: TB) ({ frames := 1, cells := 0, slots := 0, locals := 25 }) E [.ref hm, .int p0, .int p1, .int p2] [(hm, .inr (12, [.ref m_manys, .ref m_reals, .ref m_factsOf, .ref m_possible, .int 0, .int 0, .ref m_tape, .int 0, .int 0, .int 0, .int 0, .int 0, .int 0, .int 0, .int 0, .ref m_ends, .ref m_letters, .ref m_actOf, .ref m_whom, .ref m_actMany, .ref m_tokens, .ref m_afters, .ref m_afterOf, .int 0, .ref m_pile, .ref m_caseMany, .ref m_happen, .ref m_hasIf, .ref m_becomes, .ref m_goneOf, .ref m_heard, .ref m_pairs, .ref m_heaps, .int 0, .int 0, .ref m_led, .ref m_newAt, .ref m_knowing, .ref m_firsts, .int 0, .ref m_secrets, .ref m_tried, .ref m_lanes, .ref m_lengths, .ref m_cells])), (m_lanes, .inl (E.2.1 1, 4, .inl fl)), (m_lengths, .inl (E.2.1 1, 4, .inl (fun _ => 0))), (m_cells, .inl (E.2.1 1, 192, .inl (fun _ => 0)))] (Qi E (fun (r : Int32) u => (r = (-1) ∧ u = [] ∧ (p0.toInt < 0 ∨ 3 < p0.toInt ∨ p1.toInt < 0 ∨ 2 < p1.toInt ∨ 48 < p2.toInt)) ∨ (r = (-14) ∧ u = [] ∧ (0 ≤ p0.toInt) ∧ (p0.toInt ≤ 3) ∧ (0 ≤ p1.toInt) ∧ (p1.toInt ≤ 2) ∧ (p2.toInt < 0)) ∨ (r = 1 ∧ u = [] ∧ (0 ≤ p0.toInt) ∧ (p0.toInt ≤ 3) ∧ (0 ≤ p1.toInt) ∧ (p1.toInt ≤ 2) ∧ (0 ≤ p2.toInt) ∧ (p2.toInt ≤ 48)))) 0 0 := by
  refine ct_of rfl rfl ?_
  intro X C hT hin
  show WW X 5 E 0 [(0, .ref hm), (1, .int p0), (2, .int p1), (3, .int p2)] [] [(hm, .inr (12, [.ref m_manys, .ref m_reals, .ref m_factsOf, .ref m_possible, .int 0, .int 0, .ref m_tape, .int 0, .int 0, .int 0, .int 0, .int 0, .int 0, .int 0, .int 0, .ref m_ends, .ref m_letters, .ref m_actOf, .ref m_whom, .ref m_actMany, .ref m_tokens, .ref m_afters, .ref m_afterOf, .int 0, .ref m_pile, .ref m_caseMany, .ref m_happen, .ref m_hasIf, .ref m_becomes, .ref m_goneOf, .ref m_heard, .ref m_pairs, .ref m_heaps, .int 0, .int 0, .ref m_led, .ref m_newAt, .ref m_knowing, .ref m_firsts, .int 0, .ref m_secrets, .ref m_tried, .ref m_lanes, .ref m_lengths, .ref m_cells])), (m_lanes, .inl (E.2.1 1, 4, .inl fl)), (m_lengths, .inl (E.2.1 1, 4, .inl (fun _ => 0))), (m_cells, .inl (E.2.1 1, 192, .inl (fun _ => 0)))] 0 0
  refine ww_iload_n C dX12_sheet_0 1 rfl rfl ?_
  refine ww_i2l (v := p0.toInt64) C dX12_sheet_1 rfl ?_
  refine ww_lconst (v := 0) C dX12_sheet_2 rfl ?_
  refine ww_ldc2 C wv_X12_113 dX12_sheet_3 ?_
  refine ww_ci (wr := [(hm, .inr (12, [.ref m_manys, .ref m_reals, .ref m_factsOf, .ref m_possible, .int 0, .int 0, .ref m_tape, .int 0, .int 0, .int 0, .int 0, .int 0, .int 0, .int 0, .int 0, .ref m_ends, .ref m_letters, .ref m_actOf, .ref m_whom, .ref m_actMany, .ref m_tokens, .ref m_afters, .ref m_afterOf, .int 0, .ref m_pile, .ref m_caseMany, .ref m_happen, .ref m_hasIf, .ref m_becomes, .ref m_goneOf, .ref m_heard, .ref m_pairs, .ref m_heaps, .int 0, .int 0, .ref m_led, .ref m_newAt, .ref m_knowing, .ref m_firsts, .int 0, .ref m_secrets, .ref m_tried, .ref m_lanes, .ref m_lengths, .ref m_cells])), (m_lanes, .inl (E.2.1 1, 4, .inl fl)), (m_lengths, .inl (E.2.1 1, 4, .inl (fun _ => 0))), (m_cells, .inl (E.2.1 1, 192, .inl (fun _ => 0)))]) (k' := 0) (n' := 0) C (run_S (As := [.long p0.toInt64, .long 0, .long 3]) (rest := []) C (r_in X.2.1 E p0.toInt64 0 3 p0.toInt 0 3 (Int32.toInt_toInt64 _) rfl rfl) ms_X12_in wl_X12_115 rfl rfl rfl rfl dX12_sheet_6) [] [0, 1, 2, 3] rfl rfl rfl rfl (fun r u hw => ?_)
  rcases hw with ⟨rfl, rfl, h_1, h_2⟩ | ⟨rfl, rfl, h_3⟩
  · refine ww_eq (ws' := [(hm, .inr (12, [.ref m_manys, .ref m_reals, .ref m_factsOf, .ref m_possible, .int 0, .int 0, .ref m_tape, .int 0, .int 0, .int 0, .int 0, .int 0, .int 0, .int 0, .int 0, .ref m_ends, .ref m_letters, .ref m_actOf, .ref m_whom, .ref m_actMany, .ref m_tokens, .ref m_afters, .ref m_afterOf, .int 0, .ref m_pile, .ref m_caseMany, .ref m_happen, .ref m_hasIf, .ref m_becomes, .ref m_goneOf, .ref m_heard, .ref m_pairs, .ref m_heaps, .int 0, .int 0, .ref m_led, .ref m_newAt, .ref m_knowing, .ref m_firsts, .int 0, .ref m_secrets, .ref m_tried, .ref m_lanes, .ref m_lengths, .ref m_cells])), (m_lanes, .inl (E.2.1 1, 4, .inl fl)), (m_lengths, .inl (E.2.1 1, 4, .inl (fun _ => 0))), (m_cells, .inl (E.2.1 1, 192, .inl (fun _ => 0)))]) ?_ rfl rfl rfl
    refine ww_if_eq_f (tgt := 30) C dX12_sheet_9 (by decide) (by decide) ?_
    refine ww_iload_n C dX12_sheet_12 2 rfl rfl ?_
    refine ww_i2l (v := p1.toInt64) C dX12_sheet_13 rfl ?_
    refine ww_lconst (v := 0) C dX12_sheet_14 rfl ?_
    refine ww_ldc2 C wv_X12_254 dX12_sheet_15 ?_
    refine ww_ci (wr := [(hm, .inr (12, [.ref m_manys, .ref m_reals, .ref m_factsOf, .ref m_possible, .int 0, .int 0, .ref m_tape, .int 0, .int 0, .int 0, .int 0, .int 0, .int 0, .int 0, .int 0, .ref m_ends, .ref m_letters, .ref m_actOf, .ref m_whom, .ref m_actMany, .ref m_tokens, .ref m_afters, .ref m_afterOf, .int 0, .ref m_pile, .ref m_caseMany, .ref m_happen, .ref m_hasIf, .ref m_becomes, .ref m_goneOf, .ref m_heard, .ref m_pairs, .ref m_heaps, .int 0, .int 0, .ref m_led, .ref m_newAt, .ref m_knowing, .ref m_firsts, .int 0, .ref m_secrets, .ref m_tried, .ref m_lanes, .ref m_lengths, .ref m_cells])), (m_lanes, .inl (E.2.1 1, 4, .inl fl)), (m_lengths, .inl (E.2.1 1, 4, .inl (fun _ => 0))), (m_cells, .inl (E.2.1 1, 192, .inl (fun _ => 0)))]) (k' := 0) (n' := 0) C (run_S (As := [.long p1.toInt64, .long 0, .long 2]) (rest := []) C (r_in X.2.1 E p1.toInt64 0 2 p1.toInt 0 2 (Int32.toInt_toInt64 _) rfl rfl) ms_X12_in wl_X12_115 rfl rfl rfl rfl dX12_sheet_18) [] [0, 1, 2, 3] rfl rfl rfl rfl (fun r u hw => ?_)
    rcases hw with ⟨rfl, rfl, h_4, h_5⟩ | ⟨rfl, rfl, h_6⟩
    · refine ww_eq (ws' := [(hm, .inr (12, [.ref m_manys, .ref m_reals, .ref m_factsOf, .ref m_possible, .int 0, .int 0, .ref m_tape, .int 0, .int 0, .int 0, .int 0, .int 0, .int 0, .int 0, .int 0, .ref m_ends, .ref m_letters, .ref m_actOf, .ref m_whom, .ref m_actMany, .ref m_tokens, .ref m_afters, .ref m_afterOf, .int 0, .ref m_pile, .ref m_caseMany, .ref m_happen, .ref m_hasIf, .ref m_becomes, .ref m_goneOf, .ref m_heard, .ref m_pairs, .ref m_heaps, .int 0, .int 0, .ref m_led, .ref m_newAt, .ref m_knowing, .ref m_firsts, .int 0, .ref m_secrets, .ref m_tried, .ref m_lanes, .ref m_lengths, .ref m_cells])), (m_lanes, .inl (E.2.1 1, 4, .inl fl)), (m_lengths, .inl (E.2.1 1, 4, .inl (fun _ => 0))), (m_cells, .inl (E.2.1 1, 192, .inl (fun _ => 0)))]) ?_ rfl rfl rfl
      refine ww_if_eq_f (tgt := 30) C dX12_sheet_21 (by decide) (by decide) ?_
      refine ww_iload_n C dX12_sheet_24 3 rfl rfl ?_
      refine ww_bipush (v := 48) C dX12_sheet_25 rfl ?_
      refine ww_icmp_le (tgt := 32) C dX12_sheet_27 (by decide) (fun c_7 => ?_) (fun c_7 => ?_)
      · have zc_7 : p2.toInt ≤ 48 := i_le rfl rfl c_7
        refine ww_iload_n C dX12_sheet_32 3 rfl rfl ?_
        refine ww_if_ge (tgt := 39) C dX12_sheet_33 (by decide) (fun c_8 => ?_) (fun c_8 => ?_)
        · have zc_8 : p2.toInt ≥ 0 := i_le rfl rfl c_8
          obtain ⟨j_9, hj_9, rfl⟩ := i_nat (x := p0) (N := 3) (by omega) (by omega)
          refine ww_aload_n C dX12_sheet_39 0 rfl rfl ?_
          refine ww_get C fg_X12_96 0 rfl rfl dX12_sheet_40 ?_
          refine ww_iload_n C dX12_sheet_43 1 rfl rfl ?_
          refine ww_iload_n C dX12_sheet_44 2 rfl rfl ?_
          obtain ⟨f_10, ef_10⟩ : ∃ z : Nat → Int32, upd fl (nI j_9).toNatClampNeg p1 = z := ⟨_, rfl⟩
          refine ww_iast (ws' := [(hm, .inr (12, [.ref m_manys, .ref m_reals, .ref m_factsOf, .ref m_possible, .int 0, .int 0, .ref m_tape, .int 0, .int 0, .int 0, .int 0, .int 0, .int 0, .int 0, .int 0, .ref m_ends, .ref m_letters, .ref m_actOf, .ref m_whom, .ref m_actMany, .ref m_tokens, .ref m_afters, .ref m_afterOf, .int 0, .ref m_pile, .ref m_caseMany, .ref m_happen, .ref m_hasIf, .ref m_becomes, .ref m_goneOf, .ref m_heard, .ref m_pairs, .ref m_heaps, .int 0, .int 0, .ref m_led, .ref m_newAt, .ref m_knowing, .ref m_firsts, .int 0, .ref m_secrets, .ref m_tried, .ref m_lanes, .ref m_lengths, .ref m_cells])), (m_lanes, .inl (E.2.1 1, 4, .inl f_10)), (m_lengths, .inl (E.2.1 1, 4, .inl (fun _ => 0))), (m_cells, .inl (E.2.1 1, 192, .inl (fun _ => 0)))]) C 1 rfl (vp_in_nI (by omega) (by omega)) ef_10 rfl dX12_sheet_45 ?_
          refine ww_aload_n C dX12_sheet_46 0 rfl rfl ?_
          refine ww_get C fg_X12_99 0 rfl rfl dX12_sheet_47 ?_
          refine ww_iload_n C dX12_sheet_50 1 rfl rfl ?_
          refine ww_iload_n C dX12_sheet_51 3 rfl rfl ?_
          obtain ⟨f_11, ef_11⟩ : ∃ z : Nat → Int32, upd (fun _ => 0) (nI j_9).toNatClampNeg p2 = z := ⟨_, rfl⟩
          refine ww_iast (ws' := [(hm, .inr (12, [.ref m_manys, .ref m_reals, .ref m_factsOf, .ref m_possible, .int 0, .int 0, .ref m_tape, .int 0, .int 0, .int 0, .int 0, .int 0, .int 0, .int 0, .int 0, .ref m_ends, .ref m_letters, .ref m_actOf, .ref m_whom, .ref m_actMany, .ref m_tokens, .ref m_afters, .ref m_afterOf, .int 0, .ref m_pile, .ref m_caseMany, .ref m_happen, .ref m_hasIf, .ref m_becomes, .ref m_goneOf, .ref m_heard, .ref m_pairs, .ref m_heaps, .int 0, .int 0, .ref m_led, .ref m_newAt, .ref m_knowing, .ref m_firsts, .int 0, .ref m_secrets, .ref m_tried, .ref m_lanes, .ref m_lengths, .ref m_cells])), (m_lanes, .inl (E.2.1 1, 4, .inl f_10)), (m_lengths, .inl (E.2.1 1, 4, .inl f_11)), (m_cells, .inl (E.2.1 1, 192, .inl (fun _ => 0)))]) C 2 rfl (vp_in_nI (by omega) (by omega)) ef_11 rfl dX12_sheet_52 ?_
          refine ww_iconst (v := 0) C dX12_sheet_53 rfl ?_
          refine ww_istore (lv' := [(4, .int 0), (0, .ref hm), (1, .int (nI j_9)), (2, .int p1), (3, .int p2)]) C dX12_sheet_54 rfl rfl ?_
          have loop_56 : ∀ (nn : Nat) (ii : Nat) (ff : Nat → Int32), (ii ≤ 48) → 48 - ii < nn → WW X 5 E 56 [(0, .ref hm), (1, .int (nI j_9)), (2, .int p1), (3, .int p2), (4, .int (nI ii))] [] [(hm, .inr (12, [.ref m_manys, .ref m_reals, .ref m_factsOf, .ref m_possible, .int 0, .int 0, .ref m_tape, .int 0, .int 0, .int 0, .int 0, .int 0, .int 0, .int 0, .int 0, .ref m_ends, .ref m_letters, .ref m_actOf, .ref m_whom, .ref m_actMany, .ref m_tokens, .ref m_afters, .ref m_afterOf, .int 0, .ref m_pile, .ref m_caseMany, .ref m_happen, .ref m_hasIf, .ref m_becomes, .ref m_goneOf, .ref m_heard, .ref m_pairs, .ref m_heaps, .int 0, .int 0, .ref m_led, .ref m_newAt, .ref m_knowing, .ref m_firsts, .int 0, .ref m_secrets, .ref m_tried, .ref m_lanes, .ref m_lengths, .ref m_cells])), (m_lanes, .inl (E.2.1 1, 4, .inl f_10)), (m_lengths, .inl (E.2.1 1, 4, .inl f_11)), (m_cells, .inl (E.2.1 1, 192, .inl ff))] 0 0 := by
            intro nn
            induction nn with
            | zero => intro ii ff hi hmeas; exact absurd hmeas (Nat.not_lt_zero _)
            | succ nn ih_56 =>
              intro ii ff hi hmeas
              refine ww_iload C dX12_sheet_56 4 rfl ?_
              refine ww_bipush (v := 48) C dX12_sheet_58 rfl ?_
              refine ww_icmp_ge (tgt := 82) C dX12_sheet_60 (by decide) (fun c_12 => ?_) (fun c_12 => ?_)
              · have zc_12 : ((ii : Nat) : Int) ≥ 48 := i_le rfl (nI_toInt (by omega)) c_12
                refine ww_iconst (v := 1) C dX12_sheet_82 rfl ?_
                exact ww_iret (u := []) C hT [] rfl rfl rfl rfl dX12_sheet_83 (Or.inr (Or.inr ⟨rfl, rfl, (by first | assumption | omega | decide), (by first | assumption | omega | decide), (by first | assumption | omega | decide), (by first | assumption | omega | decide), (by first | assumption | omega | decide), (by first | assumption | omega | decide)⟩))
              · have zc_12 : ((ii : Nat) : Int) < 48 := i_nle rfl (nI_toInt (by omega)) c_12
                refine ww_aload_n C dX12_sheet_63 0 rfl rfl ?_
                refine ww_get C fg_X12_102 0 rfl rfl dX12_sheet_64 ?_
                refine ww_bipush (v := 48) C dX12_sheet_67 rfl ?_
                refine ww_iload_n C dX12_sheet_69 1 rfl rfl ?_
                refine ww_imul (v := (nI (48 * j_9))) C dX12_sheet_70 (pk_mul 48 j_9) ?_
                refine ww_iload C dX12_sheet_71 4 rfl ?_
                refine ww_iadd (v := (nI ((48 * j_9) + ii))) C dX12_sheet_73 (nI_add (48 * j_9) ii) ?_
                refine ww_iconst (v := 0) C dX12_sheet_74 rfl ?_
                obtain ⟨f_13, ef_13⟩ : ∃ z : Nat → Int32, upd ff (nI ((48 * j_9) + ii)).toNatClampNeg 0 = z := ⟨_, rfl⟩
                refine ww_iast (ws' := [(hm, .inr (12, [.ref m_manys, .ref m_reals, .ref m_factsOf, .ref m_possible, .int 0, .int 0, .ref m_tape, .int 0, .int 0, .int 0, .int 0, .int 0, .int 0, .int 0, .int 0, .ref m_ends, .ref m_letters, .ref m_actOf, .ref m_whom, .ref m_actMany, .ref m_tokens, .ref m_afters, .ref m_afterOf, .int 0, .ref m_pile, .ref m_caseMany, .ref m_happen, .ref m_hasIf, .ref m_becomes, .ref m_goneOf, .ref m_heard, .ref m_pairs, .ref m_heaps, .int 0, .int 0, .ref m_led, .ref m_newAt, .ref m_knowing, .ref m_firsts, .int 0, .ref m_secrets, .ref m_tried, .ref m_lanes, .ref m_lengths, .ref m_cells])), (m_lanes, .inl (E.2.1 1, 4, .inl f_10)), (m_lengths, .inl (E.2.1 1, 4, .inl f_11)), (m_cells, .inl (E.2.1 1, 192, .inl f_13))]) C 3 rfl (vp_in_nI (by omega) (by omega)) ef_13 rfl dX12_sheet_75 ?_
                refine ww_iinc (j := 4) (v := (nI (ii + 1))) (lv' := [(4, .int (nI (ii + 1))), (0, .ref hm), (1, .int (nI j_9)), (2, .int p1), (3, .int p2)]) C dX12_sheet_76 rfl (nI_add ii 1) rfl rfl ?_
                refine ww_goto (tgt := 56) C dX12_sheet_79 (by decide) ?_
                exact ww_lv [1, 2, 3, 4, 0] rfl (ww_sub [0, 1, 2, 3] rfl rfl (ih_56 (ii + 1) f_13 (by omega) (by omega)))
          exact ww_lv [1, 2, 3, 4, 0] rfl (ww_sub [0, 1, 2, 3] rfl rfl (loop_56 _ 0 (fun _ => 0) (by omega) (Nat.lt_succ_self _)))
        · have zc_8 : p2.toInt < 0 := i_nle rfl rfl c_8
          refine ww_bipush (v := (-14)) C dX12_sheet_36 rfl ?_
          exact ww_iret (u := []) C hT [] rfl rfl rfl rfl dX12_sheet_38 (Or.inr (Or.inl ⟨rfl, rfl, (by first | assumption | omega | decide), (by first | assumption | omega | decide), (by first | assumption | omega | decide), (by first | assumption | omega | decide), (by first | assumption | omega | decide)⟩))
      · have zc_7 : p2.toInt > 48 := i_nle rfl rfl c_7
        refine ww_iconst (v := (-1)) C dX12_sheet_30 rfl ?_
        exact ww_iret (u := []) C hT [] rfl rfl rfl rfl dX12_sheet_31 (Or.inl ⟨rfl, rfl, (by first | assumption | omega | decide)⟩)
    · refine ww_eq (ws' := [(hm, .inr (12, [.ref m_manys, .ref m_reals, .ref m_factsOf, .ref m_possible, .int 0, .int 0, .ref m_tape, .int 0, .int 0, .int 0, .int 0, .int 0, .int 0, .int 0, .int 0, .ref m_ends, .ref m_letters, .ref m_actOf, .ref m_whom, .ref m_actMany, .ref m_tokens, .ref m_afters, .ref m_afterOf, .int 0, .ref m_pile, .ref m_caseMany, .ref m_happen, .ref m_hasIf, .ref m_becomes, .ref m_goneOf, .ref m_heard, .ref m_pairs, .ref m_heaps, .int 0, .int 0, .ref m_led, .ref m_newAt, .ref m_knowing, .ref m_firsts, .int 0, .ref m_secrets, .ref m_tried, .ref m_lanes, .ref m_lengths, .ref m_cells])), (m_lanes, .inl (E.2.1 1, 4, .inl fl)), (m_lengths, .inl (E.2.1 1, 4, .inl (fun _ => 0))), (m_cells, .inl (E.2.1 1, 192, .inl (fun _ => 0)))]) ?_ rfl rfl rfl
      refine ww_if_eq_t (tgt := 30) C dX12_sheet_21 (by decide) (rfl) ?_
      refine ww_iconst (v := (-1)) C dX12_sheet_30 rfl ?_
      exact ww_iret (u := []) C hT [] rfl rfl rfl rfl dX12_sheet_31 (Or.inl ⟨rfl, rfl, (by first | assumption | omega | decide)⟩)
  · refine ww_eq (ws' := [(hm, .inr (12, [.ref m_manys, .ref m_reals, .ref m_factsOf, .ref m_possible, .int 0, .int 0, .ref m_tape, .int 0, .int 0, .int 0, .int 0, .int 0, .int 0, .int 0, .int 0, .ref m_ends, .ref m_letters, .ref m_actOf, .ref m_whom, .ref m_actMany, .ref m_tokens, .ref m_afters, .ref m_afterOf, .int 0, .ref m_pile, .ref m_caseMany, .ref m_happen, .ref m_hasIf, .ref m_becomes, .ref m_goneOf, .ref m_heard, .ref m_pairs, .ref m_heaps, .int 0, .int 0, .ref m_led, .ref m_newAt, .ref m_knowing, .ref m_firsts, .int 0, .ref m_secrets, .ref m_tried, .ref m_lanes, .ref m_lengths, .ref m_cells])), (m_lanes, .inl (E.2.1 1, 4, .inl fl)), (m_lengths, .inl (E.2.1 1, 4, .inl (fun _ => 0))), (m_cells, .inl (E.2.1 1, 192, .inl (fun _ => 0)))]) ?_ rfl rfl rfl
    refine ww_if_eq_t (tgt := 30) C dX12_sheet_9 (by decide) (rfl) ?_
    refine ww_iconst (v := (-1)) C dX12_sheet_30 rfl ?_
    exact ww_iret (u := []) C hT [] rfl rfl rfl rfl dX12_sheet_31 (Or.inl ⟨rfl, rfl, (by first | assumption | omega | decide)⟩)
theorem dX12_write_0 : decode cX12_write 0 = .ok (.iload_n 1, 1) := by decide +kernel
theorem dX12_write_1 : decode cX12_write 1 = .ok (.i2l, 1) := by decide +kernel
theorem dX12_write_2 : decode cX12_write 2 = .ok (.lconst 0, 1) := by decide +kernel
theorem dX12_write_3 : decode cX12_write 3 = .ok (.ldc2_w 113, 3) := by decide +kernel
theorem dX12_write_6 : decode cX12_write 6 = .ok (.invokestatic 115, 3) := by decide +kernel
theorem dX12_write_9 : decode cX12_write 9 = .ok (.ifCond .ne 5, 3) := by decide +kernel
theorem dX12_write_14 : decode cX12_write 14 = .ok (.aload_n 0, 1) := by decide +kernel
theorem dX12_write_15 : decode cX12_write 15 = .ok (.getfield 96, 3) := by decide +kernel
theorem dX12_write_18 : decode cX12_write 18 = .ok (.iload_n 1, 1) := by decide +kernel
theorem dX12_write_19 : decode cX12_write 19 = .ok (.iaload, 1) := by decide +kernel
theorem dX12_write_20 : decode cX12_write 20 = .ok (.bipush (-4), 2) := by decide +kernel
theorem dX12_write_22 : decode cX12_write 22 = .ok (.if_icmp .ne 6, 3) := by decide +kernel
theorem dX12_write_25 : decode cX12_write 25 = .ok (.bipush (-11), 2) := by decide +kernel
theorem dX12_write_27 : decode cX12_write 27 = .ok (.ireturn, 1) := by decide +kernel
theorem dX12_write_12 : decode cX12_write 12 = .ok (.iconst (-1), 1) := by decide +kernel
theorem dX12_write_13 : decode cX12_write 13 = .ok (.ireturn, 1) := by decide +kernel
set_option maxRecDepth 100000 in
set_option maxHeartbeats 4000000 in
theorem y_write (l : Launch) (E : EV) (hm : Nat) (p0 : Int32) (p1 : Int32) (p2 : Int32) (m_manys : Nat) (m_reals : Nat) (m_factsOf : Nat) (m_possible : Nat) (m_tape : Nat) (m_ends : Nat) (m_letters : Nat) (m_actOf : Nat) (m_whom : Nat) (m_actMany : Nat) (m_tokens : Nat) (m_afters : Nat) (m_afterOf : Nat) (m_pile : Nat) (m_caseMany : Nat) (m_happen : Nat) (m_hasIf : Nat) (m_becomes : Nat) (m_goneOf : Nat) (m_heard : Nat) (m_pairs : Nat) (m_heaps : Nat) (m_led : Nat) (m_newAt : Nat) (m_knowing : Nat) (m_firsts : Nat) (m_secrets : Nat) (m_tried : Nat) (m_lanes : Nat) (m_lengths : Nat) (m_cells : Nat) (fl : Nat → Int32) (k_fl_0 : fl 0 = (-4)) (k_fl_1 : fl 1 = (-4)) (k_fl_2 : fl 2 = (-4)) (k_fl_3 : fl 3 = (-4)) : CT l yX12_write (Cond.code yX12_write cX12_write 4 (some .int) :: TB) ({ frames := 1, cells := 0, slots := 0, locals := 25 }) E [.ref hm, .int p0, .int p1, .int p2] [(hm, .inr (12, [.ref m_manys, .ref m_reals, .ref m_factsOf, .ref m_possible, .int 0, .int 0, .ref m_tape, .int 0, .int 0, .int 0, .int 0, .int 0, .int 0, .int 0, .int 0, .ref m_ends, .ref m_letters, .ref m_actOf, .ref m_whom, .ref m_actMany, .ref m_tokens, .ref m_afters, .ref m_afterOf, .int 0, .ref m_pile, .ref m_caseMany, .ref m_happen, .ref m_hasIf, .ref m_becomes, .ref m_goneOf, .ref m_heard, .ref m_pairs, .ref m_heaps, .int 0, .int 0, .ref m_led, .ref m_newAt, .ref m_knowing, .ref m_firsts, .int 0, .ref m_secrets, .ref m_tried, .ref m_lanes, .ref m_lengths, .ref m_cells])), (m_lanes, .inl (E.2.1 1, 4, .inl fl))] (Qi E (fun (r : Int32) u => (r = (-1) ∧ u = [] ∧ (p0.toInt < 0 ∨ 3 < p0.toInt)) ∨ (r = (-11) ∧ u = [] ∧ (0 ≤ p0.toInt) ∧ (p0.toInt ≤ 3)))) 0 0 := by
  refine ct_of rfl rfl ?_
  intro X C hT hin
  show WW X 4 E 0 [(0, .ref hm), (1, .int p0), (2, .int p1), (3, .int p2)] [] [(hm, .inr (12, [.ref m_manys, .ref m_reals, .ref m_factsOf, .ref m_possible, .int 0, .int 0, .ref m_tape, .int 0, .int 0, .int 0, .int 0, .int 0, .int 0, .int 0, .int 0, .ref m_ends, .ref m_letters, .ref m_actOf, .ref m_whom, .ref m_actMany, .ref m_tokens, .ref m_afters, .ref m_afterOf, .int 0, .ref m_pile, .ref m_caseMany, .ref m_happen, .ref m_hasIf, .ref m_becomes, .ref m_goneOf, .ref m_heard, .ref m_pairs, .ref m_heaps, .int 0, .int 0, .ref m_led, .ref m_newAt, .ref m_knowing, .ref m_firsts, .int 0, .ref m_secrets, .ref m_tried, .ref m_lanes, .ref m_lengths, .ref m_cells])), (m_lanes, .inl (E.2.1 1, 4, .inl fl))] 0 0
  refine ww_iload_n C dX12_write_0 1 rfl rfl ?_
  refine ww_i2l (v := p0.toInt64) C dX12_write_1 rfl ?_
  refine ww_lconst (v := 0) C dX12_write_2 rfl ?_
  refine ww_ldc2 C wv_X12_113 dX12_write_3 ?_
  refine ww_ci (wr := [(hm, .inr (12, [.ref m_manys, .ref m_reals, .ref m_factsOf, .ref m_possible, .int 0, .int 0, .ref m_tape, .int 0, .int 0, .int 0, .int 0, .int 0, .int 0, .int 0, .int 0, .ref m_ends, .ref m_letters, .ref m_actOf, .ref m_whom, .ref m_actMany, .ref m_tokens, .ref m_afters, .ref m_afterOf, .int 0, .ref m_pile, .ref m_caseMany, .ref m_happen, .ref m_hasIf, .ref m_becomes, .ref m_goneOf, .ref m_heard, .ref m_pairs, .ref m_heaps, .int 0, .int 0, .ref m_led, .ref m_newAt, .ref m_knowing, .ref m_firsts, .int 0, .ref m_secrets, .ref m_tried, .ref m_lanes, .ref m_lengths, .ref m_cells])), (m_lanes, .inl (E.2.1 1, 4, .inl fl))]) (k' := 0) (n' := 0) C (run_S (As := [.long p0.toInt64, .long 0, .long 3]) (rest := []) C (r_in X.2.1 E p0.toInt64 0 3 p0.toInt 0 3 (Int32.toInt_toInt64 _) rfl rfl) ms_X12_in wl_X12_115 rfl rfl rfl rfl dX12_write_6) [] [0, 1] rfl rfl rfl rfl (fun r u hw => ?_)
  rcases hw with ⟨rfl, rfl, h_1, h_2⟩ | ⟨rfl, rfl, h_3⟩
  · refine ww_eq (ws' := [(hm, .inr (12, [.ref m_manys, .ref m_reals, .ref m_factsOf, .ref m_possible, .int 0, .int 0, .ref m_tape, .int 0, .int 0, .int 0, .int 0, .int 0, .int 0, .int 0, .int 0, .ref m_ends, .ref m_letters, .ref m_actOf, .ref m_whom, .ref m_actMany, .ref m_tokens, .ref m_afters, .ref m_afterOf, .int 0, .ref m_pile, .ref m_caseMany, .ref m_happen, .ref m_hasIf, .ref m_becomes, .ref m_goneOf, .ref m_heard, .ref m_pairs, .ref m_heaps, .int 0, .int 0, .ref m_led, .ref m_newAt, .ref m_knowing, .ref m_firsts, .int 0, .ref m_secrets, .ref m_tried, .ref m_lanes, .ref m_lengths, .ref m_cells])), (m_lanes, .inl (E.2.1 1, 4, .inl fl))]) ?_ rfl rfl rfl
    refine ww_if_ne_t (tgt := 14) C dX12_write_9 (by decide) (by decide) ?_
    rcases sp_0_3 (x := p0) (by omega) (by omega) with rfl | rfl | rfl | rfl
    · refine ww_aload_n C dX12_write_14 0 rfl rfl ?_
      refine ww_get C fg_X12_96 0 rfl rfl dX12_write_15 ?_
      refine ww_iload_n C dX12_write_18 1 rfl rfl ?_
      refine ww_iald (v := (-4)) C 1 rfl (vin rfl) k_fl_0 dX12_write_19 ?_
      refine ww_bipush (v := (-4)) C dX12_write_20 rfl ?_
      refine ww_icmp_ne_f (tgt := 28) C dX12_write_22 (by decide) (rfl) ?_
      refine ww_bipush (v := (-11)) C dX12_write_25 rfl ?_
      exact ww_iret (u := []) C hT [] rfl rfl rfl rfl dX12_write_27 (Or.inr ⟨rfl, rfl, (by first | assumption | omega | decide), (by first | assumption | omega | decide)⟩)
    · refine ww_aload_n C dX12_write_14 0 rfl rfl ?_
      refine ww_get C fg_X12_96 0 rfl rfl dX12_write_15 ?_
      refine ww_iload_n C dX12_write_18 1 rfl rfl ?_
      refine ww_iald (v := (-4)) C 1 rfl (vin rfl) k_fl_1 dX12_write_19 ?_
      refine ww_bipush (v := (-4)) C dX12_write_20 rfl ?_
      refine ww_icmp_ne_f (tgt := 28) C dX12_write_22 (by decide) (rfl) ?_
      refine ww_bipush (v := (-11)) C dX12_write_25 rfl ?_
      exact ww_iret (u := []) C hT [] rfl rfl rfl rfl dX12_write_27 (Or.inr ⟨rfl, rfl, (by first | assumption | omega | decide), (by first | assumption | omega | decide)⟩)
    · refine ww_aload_n C dX12_write_14 0 rfl rfl ?_
      refine ww_get C fg_X12_96 0 rfl rfl dX12_write_15 ?_
      refine ww_iload_n C dX12_write_18 1 rfl rfl ?_
      refine ww_iald (v := (-4)) C 1 rfl (vin rfl) k_fl_2 dX12_write_19 ?_
      refine ww_bipush (v := (-4)) C dX12_write_20 rfl ?_
      refine ww_icmp_ne_f (tgt := 28) C dX12_write_22 (by decide) (rfl) ?_
      refine ww_bipush (v := (-11)) C dX12_write_25 rfl ?_
      exact ww_iret (u := []) C hT [] rfl rfl rfl rfl dX12_write_27 (Or.inr ⟨rfl, rfl, (by first | assumption | omega | decide), (by first | assumption | omega | decide)⟩)
    · refine ww_aload_n C dX12_write_14 0 rfl rfl ?_
      refine ww_get C fg_X12_96 0 rfl rfl dX12_write_15 ?_
      refine ww_iload_n C dX12_write_18 1 rfl rfl ?_
      refine ww_iald (v := (-4)) C 1 rfl (vin rfl) k_fl_3 dX12_write_19 ?_
      refine ww_bipush (v := (-4)) C dX12_write_20 rfl ?_
      refine ww_icmp_ne_f (tgt := 28) C dX12_write_22 (by decide) (rfl) ?_
      refine ww_bipush (v := (-11)) C dX12_write_25 rfl ?_
      exact ww_iret (u := []) C hT [] rfl rfl rfl rfl dX12_write_27 (Or.inr ⟨rfl, rfl, (by first | assumption | omega | decide), (by first | assumption | omega | decide)⟩)
  · refine ww_eq (ws' := [(hm, .inr (12, [.ref m_manys, .ref m_reals, .ref m_factsOf, .ref m_possible, .int 0, .int 0, .ref m_tape, .int 0, .int 0, .int 0, .int 0, .int 0, .int 0, .int 0, .int 0, .ref m_ends, .ref m_letters, .ref m_actOf, .ref m_whom, .ref m_actMany, .ref m_tokens, .ref m_afters, .ref m_afterOf, .int 0, .ref m_pile, .ref m_caseMany, .ref m_happen, .ref m_hasIf, .ref m_becomes, .ref m_goneOf, .ref m_heard, .ref m_pairs, .ref m_heaps, .int 0, .int 0, .ref m_led, .ref m_newAt, .ref m_knowing, .ref m_firsts, .int 0, .ref m_secrets, .ref m_tried, .ref m_lanes, .ref m_lengths, .ref m_cells])), (m_lanes, .inl (E.2.1 1, 4, .inl fl))]) ?_ rfl rfl rfl
    refine ww_if_ne_f (tgt := 14) C dX12_write_9 (by decide) (rfl) ?_
    refine ww_iconst (v := (-1)) C dX12_write_12 rfl ?_
    exact ww_iret (u := []) C hT [] rfl rfl rfl rfl dX12_write_13 (Or.inl ⟨rfl, rfl, (by first | assumption | omega | decide)⟩)
theorem dX12_read_0 : decode cX12_read 0 = .ok (.iload_n 1, 1) := by decide +kernel
theorem dX12_read_1 : decode cX12_read 1 = .ok (.i2l, 1) := by decide +kernel
theorem dX12_read_2 : decode cX12_read 2 = .ok (.lconst 0, 1) := by decide +kernel
theorem dX12_read_3 : decode cX12_read 3 = .ok (.ldc2_w 113, 3) := by decide +kernel
theorem dX12_read_6 : decode cX12_read 6 = .ok (.invokestatic 115, 3) := by decide +kernel
theorem dX12_read_9 : decode cX12_read 9 = .ok (.ifCond .eq 28, 3) := by decide +kernel
theorem dX12_read_12 : decode cX12_read 12 = .ok (.iload_n 2, 1) := by decide +kernel
theorem dX12_read_13 : decode cX12_read 13 = .ok (.i2l, 1) := by decide +kernel
theorem dX12_read_14 : decode cX12_read 14 = .ok (.lconst 0, 1) := by decide +kernel
theorem dX12_read_15 : decode cX12_read 15 = .ok (.ldc2_w 254, 3) := by decide +kernel
theorem dX12_read_18 : decode cX12_read 18 = .ok (.invokestatic 115, 3) := by decide +kernel
theorem dX12_read_21 : decode cX12_read 21 = .ok (.ifCond .eq 16, 3) := by decide +kernel
theorem dX12_read_24 : decode cX12_read 24 = .ok (.iload 4, 2) := by decide +kernel
theorem dX12_read_26 : decode cX12_read 26 = .ok (.i2l, 1) := by decide +kernel
theorem dX12_read_27 : decode cX12_read 27 = .ok (.lconst 0, 1) := by decide +kernel
theorem dX12_read_28 : decode cX12_read 28 = .ok (.ldc2_w 341, 3) := by decide +kernel
theorem wv_X12_341 : Cond.constantLong RX12 341 24 ∈ TB := tbm (tq7 (List.mem_of_getElem? (i := 88) (by decide +kernel))) (by decide +kernel)
theorem dX12_read_31 : decode cX12_read 31 = .ok (.invokestatic 115, 3) := by decide +kernel
theorem dX12_read_34 : decode cX12_read 34 = .ok (.ifCond .ne 5, 3) := by decide +kernel
theorem dX12_read_39 : decode cX12_read 39 = .ok (.aload_n 0, 1) := by decide +kernel
theorem dX12_read_40 : decode cX12_read 40 = .ok (.getfield 96, 3) := by decide +kernel
theorem dX12_read_43 : decode cX12_read 43 = .ok (.iload_n 1, 1) := by decide +kernel
theorem dX12_read_44 : decode cX12_read 44 = .ok (.iaload, 1) := by decide +kernel
theorem dX12_read_45 : decode cX12_read 45 = .ok (.iload_n 2, 1) := by decide +kernel
theorem dX12_read_46 : decode cX12_read 46 = .ok (.if_icmp .eq 22, 3) := by decide +kernel
theorem dX12_read_49 : decode cX12_read 49 = .ok (.aload_n 0, 1) := by decide +kernel
theorem dX12_read_50 : decode cX12_read 50 = .ok (.getfield 96, 3) := by decide +kernel
theorem dX12_read_53 : decode cX12_read 53 = .ok (.iload_n 1, 1) := by decide +kernel
theorem dX12_read_54 : decode cX12_read 54 = .ok (.iaload, 1) := by decide +kernel
theorem dX12_read_55 : decode cX12_read 55 = .ok (.bipush (-4), 2) := by decide +kernel
theorem dX12_read_57 : decode cX12_read 57 = .ok (.if_icmp .ne 8, 3) := by decide +kernel
theorem dX12_read_60 : decode cX12_read 60 = .ok (.bipush (-11), 2) := by decide +kernel
theorem dX12_read_62 : decode cX12_read 62 = .ok (.goto 5, 3) := by decide +kernel
theorem dX12_read_67 : decode cX12_read 67 = .ok (.ireturn, 1) := by decide +kernel
theorem dX12_read_37 : decode cX12_read 37 = .ok (.iconst (-1), 1) := by decide +kernel
theorem dX12_read_38 : decode cX12_read 38 = .ok (.ireturn, 1) := by decide +kernel
set_option maxRecDepth 100000 in
set_option maxHeartbeats 4000000 in
theorem y_read (l : Launch) (E : EV) (hm : Nat) (p0 : Int32) (p1 : Int32) (p2 : Int32) (p3 : Int32) (m_manys : Nat) (m_reals : Nat) (m_factsOf : Nat) (m_possible : Nat) (m_tape : Nat) (m_ends : Nat) (m_letters : Nat) (m_actOf : Nat) (m_whom : Nat) (m_actMany : Nat) (m_tokens : Nat) (m_afters : Nat) (m_afterOf : Nat) (m_pile : Nat) (m_caseMany : Nat) (m_happen : Nat) (m_hasIf : Nat) (m_becomes : Nat) (m_goneOf : Nat) (m_heard : Nat) (m_pairs : Nat) (m_heaps : Nat) (m_led : Nat) (m_newAt : Nat) (m_knowing : Nat) (m_firsts : Nat) (m_secrets : Nat) (m_tried : Nat) (m_lanes : Nat) (m_lengths : Nat) (m_cells : Nat) (fl : Nat → Int32) (k_fl_0 : fl 0 = (-4)) (k_fl_1 : fl 1 = (-4)) (k_fl_2 : fl 2 = (-4)) (k_fl_3 : fl 3 = (-4)) : CT l yX12_read (Cond.code yX12_read cX12_read 6 (some .int) :: TB) ({ frames := 1, cells := 0, slots := 0, locals := 25 }) E [.ref hm, .int p0, .int p1, .int p2, .int p3] [(hm, .inr (12, [.ref m_manys, .ref m_reals, .ref m_factsOf, .ref m_possible, .int 0, .int 0, .ref m_tape, .int 0, .int 0, .int 0, .int 0, .int 0, .int 0, .int 0, .int 0, .ref m_ends, .ref m_letters, .ref m_actOf, .ref m_whom, .ref m_actMany, .ref m_tokens, .ref m_afters, .ref m_afterOf, .int 0, .ref m_pile, .ref m_caseMany, .ref m_happen, .ref m_hasIf, .ref m_becomes, .ref m_goneOf, .ref m_heard, .ref m_pairs, .ref m_heaps, .int 0, .int 0, .ref m_led, .ref m_newAt, .ref m_knowing, .ref m_firsts, .int 0, .ref m_secrets, .ref m_tried, .ref m_lanes, .ref m_lengths, .ref m_cells])), (m_lanes, .inl (E.2.1 1, 4, .inl fl))] (Qi E (fun (r : Int32) u => (r = (-1) ∧ u = [] ∧ (p0.toInt < 0 ∨ 3 < p0.toInt ∨ p1.toInt < 0 ∨ 2 < p1.toInt ∨ p3.toInt < 0 ∨ 24 < p3.toInt)) ∨ (r = (-11) ∧ u = [] ∧ (0 ≤ p0.toInt) ∧ (p0.toInt ≤ 3) ∧ (0 ≤ p1.toInt) ∧ (p1.toInt ≤ 2) ∧ (0 ≤ p3.toInt) ∧ (p3.toInt ≤ 24)))) 0 0 := by
  refine ct_of rfl rfl ?_
  intro X C hT hin
  show WW X 6 E 0 [(0, .ref hm), (1, .int p0), (2, .int p1), (3, .int p2), (4, .int p3)] [] [(hm, .inr (12, [.ref m_manys, .ref m_reals, .ref m_factsOf, .ref m_possible, .int 0, .int 0, .ref m_tape, .int 0, .int 0, .int 0, .int 0, .int 0, .int 0, .int 0, .int 0, .ref m_ends, .ref m_letters, .ref m_actOf, .ref m_whom, .ref m_actMany, .ref m_tokens, .ref m_afters, .ref m_afterOf, .int 0, .ref m_pile, .ref m_caseMany, .ref m_happen, .ref m_hasIf, .ref m_becomes, .ref m_goneOf, .ref m_heard, .ref m_pairs, .ref m_heaps, .int 0, .int 0, .ref m_led, .ref m_newAt, .ref m_knowing, .ref m_firsts, .int 0, .ref m_secrets, .ref m_tried, .ref m_lanes, .ref m_lengths, .ref m_cells])), (m_lanes, .inl (E.2.1 1, 4, .inl fl))] 0 0
  refine ww_iload_n C dX12_read_0 1 rfl rfl ?_
  refine ww_i2l (v := p0.toInt64) C dX12_read_1 rfl ?_
  refine ww_lconst (v := 0) C dX12_read_2 rfl ?_
  refine ww_ldc2 C wv_X12_113 dX12_read_3 ?_
  refine ww_ci (wr := [(hm, .inr (12, [.ref m_manys, .ref m_reals, .ref m_factsOf, .ref m_possible, .int 0, .int 0, .ref m_tape, .int 0, .int 0, .int 0, .int 0, .int 0, .int 0, .int 0, .int 0, .ref m_ends, .ref m_letters, .ref m_actOf, .ref m_whom, .ref m_actMany, .ref m_tokens, .ref m_afters, .ref m_afterOf, .int 0, .ref m_pile, .ref m_caseMany, .ref m_happen, .ref m_hasIf, .ref m_becomes, .ref m_goneOf, .ref m_heard, .ref m_pairs, .ref m_heaps, .int 0, .int 0, .ref m_led, .ref m_newAt, .ref m_knowing, .ref m_firsts, .int 0, .ref m_secrets, .ref m_tried, .ref m_lanes, .ref m_lengths, .ref m_cells])), (m_lanes, .inl (E.2.1 1, 4, .inl fl))]) (k' := 0) (n' := 0) C (run_S (As := [.long p0.toInt64, .long 0, .long 3]) (rest := []) C (r_in X.2.1 E p0.toInt64 0 3 p0.toInt 0 3 (Int32.toInt_toInt64 _) rfl rfl) ms_X12_in wl_X12_115 rfl rfl rfl rfl dX12_read_6) [] [0, 1] rfl rfl rfl rfl (fun r u hw => ?_)
  rcases hw with ⟨rfl, rfl, h_1, h_2⟩ | ⟨rfl, rfl, h_3⟩
  · refine ww_eq (ws' := [(hm, .inr (12, [.ref m_manys, .ref m_reals, .ref m_factsOf, .ref m_possible, .int 0, .int 0, .ref m_tape, .int 0, .int 0, .int 0, .int 0, .int 0, .int 0, .int 0, .int 0, .ref m_ends, .ref m_letters, .ref m_actOf, .ref m_whom, .ref m_actMany, .ref m_tokens, .ref m_afters, .ref m_afterOf, .int 0, .ref m_pile, .ref m_caseMany, .ref m_happen, .ref m_hasIf, .ref m_becomes, .ref m_goneOf, .ref m_heard, .ref m_pairs, .ref m_heaps, .int 0, .int 0, .ref m_led, .ref m_newAt, .ref m_knowing, .ref m_firsts, .int 0, .ref m_secrets, .ref m_tried, .ref m_lanes, .ref m_lengths, .ref m_cells])), (m_lanes, .inl (E.2.1 1, 4, .inl fl))]) ?_ rfl rfl rfl
    refine ww_if_eq_f (tgt := 37) C dX12_read_9 (by decide) (by decide) ?_
    refine ww_iload_n C dX12_read_12 2 rfl rfl ?_
    refine ww_i2l (v := p1.toInt64) C dX12_read_13 rfl ?_
    refine ww_lconst (v := 0) C dX12_read_14 rfl ?_
    refine ww_ldc2 C wv_X12_254 dX12_read_15 ?_
    refine ww_ci (wr := [(hm, .inr (12, [.ref m_manys, .ref m_reals, .ref m_factsOf, .ref m_possible, .int 0, .int 0, .ref m_tape, .int 0, .int 0, .int 0, .int 0, .int 0, .int 0, .int 0, .int 0, .ref m_ends, .ref m_letters, .ref m_actOf, .ref m_whom, .ref m_actMany, .ref m_tokens, .ref m_afters, .ref m_afterOf, .int 0, .ref m_pile, .ref m_caseMany, .ref m_happen, .ref m_hasIf, .ref m_becomes, .ref m_goneOf, .ref m_heard, .ref m_pairs, .ref m_heaps, .int 0, .int 0, .ref m_led, .ref m_newAt, .ref m_knowing, .ref m_firsts, .int 0, .ref m_secrets, .ref m_tried, .ref m_lanes, .ref m_lengths, .ref m_cells])), (m_lanes, .inl (E.2.1 1, 4, .inl fl))]) (k' := 0) (n' := 0) C (run_S (As := [.long p1.toInt64, .long 0, .long 2]) (rest := []) C (r_in X.2.1 E p1.toInt64 0 2 p1.toInt 0 2 (Int32.toInt_toInt64 _) rfl rfl) ms_X12_in wl_X12_115 rfl rfl rfl rfl dX12_read_18) [] [0, 1] rfl rfl rfl rfl (fun r u hw => ?_)
    rcases hw with ⟨rfl, rfl, h_4, h_5⟩ | ⟨rfl, rfl, h_6⟩
    · refine ww_eq (ws' := [(hm, .inr (12, [.ref m_manys, .ref m_reals, .ref m_factsOf, .ref m_possible, .int 0, .int 0, .ref m_tape, .int 0, .int 0, .int 0, .int 0, .int 0, .int 0, .int 0, .int 0, .ref m_ends, .ref m_letters, .ref m_actOf, .ref m_whom, .ref m_actMany, .ref m_tokens, .ref m_afters, .ref m_afterOf, .int 0, .ref m_pile, .ref m_caseMany, .ref m_happen, .ref m_hasIf, .ref m_becomes, .ref m_goneOf, .ref m_heard, .ref m_pairs, .ref m_heaps, .int 0, .int 0, .ref m_led, .ref m_newAt, .ref m_knowing, .ref m_firsts, .int 0, .ref m_secrets, .ref m_tried, .ref m_lanes, .ref m_lengths, .ref m_cells])), (m_lanes, .inl (E.2.1 1, 4, .inl fl))]) ?_ rfl rfl rfl
      refine ww_if_eq_f (tgt := 37) C dX12_read_21 (by decide) (by decide) ?_
      refine ww_iload C dX12_read_24 4 rfl ?_
      refine ww_i2l (v := p3.toInt64) C dX12_read_26 rfl ?_
      refine ww_lconst (v := 0) C dX12_read_27 rfl ?_
      refine ww_ldc2 C wv_X12_341 dX12_read_28 ?_
      refine ww_ci (wr := [(hm, .inr (12, [.ref m_manys, .ref m_reals, .ref m_factsOf, .ref m_possible, .int 0, .int 0, .ref m_tape, .int 0, .int 0, .int 0, .int 0, .int 0, .int 0, .int 0, .int 0, .ref m_ends, .ref m_letters, .ref m_actOf, .ref m_whom, .ref m_actMany, .ref m_tokens, .ref m_afters, .ref m_afterOf, .int 0, .ref m_pile, .ref m_caseMany, .ref m_happen, .ref m_hasIf, .ref m_becomes, .ref m_goneOf, .ref m_heard, .ref m_pairs, .ref m_heaps, .int 0, .int 0, .ref m_led, .ref m_newAt, .ref m_knowing, .ref m_firsts, .int 0, .ref m_secrets, .ref m_tried, .ref m_lanes, .ref m_lengths, .ref m_cells])), (m_lanes, .inl (E.2.1 1, 4, .inl fl))]) (k' := 0) (n' := 0) C (run_S (As := [.long p3.toInt64, .long 0, .long 24]) (rest := []) C (r_in X.2.1 E p3.toInt64 0 24 p3.toInt 0 24 (Int32.toInt_toInt64 _) rfl rfl) ms_X12_in wl_X12_115 rfl rfl rfl rfl dX12_read_31) [] [0, 1] rfl rfl rfl rfl (fun r u hw => ?_)
      rcases hw with ⟨rfl, rfl, h_7, h_8⟩ | ⟨rfl, rfl, h_9⟩
      · refine ww_eq (ws' := [(hm, .inr (12, [.ref m_manys, .ref m_reals, .ref m_factsOf, .ref m_possible, .int 0, .int 0, .ref m_tape, .int 0, .int 0, .int 0, .int 0, .int 0, .int 0, .int 0, .int 0, .ref m_ends, .ref m_letters, .ref m_actOf, .ref m_whom, .ref m_actMany, .ref m_tokens, .ref m_afters, .ref m_afterOf, .int 0, .ref m_pile, .ref m_caseMany, .ref m_happen, .ref m_hasIf, .ref m_becomes, .ref m_goneOf, .ref m_heard, .ref m_pairs, .ref m_heaps, .int 0, .int 0, .ref m_led, .ref m_newAt, .ref m_knowing, .ref m_firsts, .int 0, .ref m_secrets, .ref m_tried, .ref m_lanes, .ref m_lengths, .ref m_cells])), (m_lanes, .inl (E.2.1 1, 4, .inl fl))]) ?_ rfl rfl rfl
        refine ww_if_ne_t (tgt := 39) C dX12_read_34 (by decide) (by decide) ?_
        rcases sp_0_3 (x := p0) (by omega) (by omega) with rfl | rfl | rfl | rfl
        · refine ww_aload_n C dX12_read_39 0 rfl rfl ?_
          refine ww_get C fg_X12_96 0 rfl rfl dX12_read_40 ?_
          refine ww_iload_n C dX12_read_43 1 rfl rfl ?_
          refine ww_iald (v := (-4)) C 1 rfl (vin rfl) k_fl_0 dX12_read_44 ?_
          refine ww_iload_n C dX12_read_45 2 rfl rfl ?_
          refine ww_icmp_eq (tgt := 68) C dX12_read_46 (by decide) (fun c_10 => ?_) (fun c_10 => ?_)
          · have zc_10 : (-4) = p1.toInt := i_eq rfl rfl c_10
            omega
          · have zc_10 : (-4) ≠ p1.toInt := i_ne rfl rfl c_10
            refine ww_aload_n C dX12_read_49 0 rfl rfl ?_
            refine ww_get C fg_X12_96 0 rfl rfl dX12_read_50 ?_
            refine ww_iload_n C dX12_read_53 1 rfl rfl ?_
            refine ww_iald (v := (-4)) C 1 rfl (vin rfl) k_fl_0 dX12_read_54 ?_
            refine ww_bipush (v := (-4)) C dX12_read_55 rfl ?_
            refine ww_icmp_ne_f (tgt := 65) C dX12_read_57 (by decide) (rfl) ?_
            refine ww_bipush (v := (-11)) C dX12_read_60 rfl ?_
            refine ww_goto (tgt := 67) C dX12_read_62 (by decide) ?_
            exact ww_iret (u := []) C hT [] rfl rfl rfl rfl dX12_read_67 (Or.inr ⟨rfl, rfl, (by first | assumption | omega | decide), (by first | assumption | omega | decide), (by first | assumption | omega | decide), (by first | assumption | omega | decide), (by first | assumption | omega | decide), (by first | assumption | omega | decide)⟩)
        · refine ww_aload_n C dX12_read_39 0 rfl rfl ?_
          refine ww_get C fg_X12_96 0 rfl rfl dX12_read_40 ?_
          refine ww_iload_n C dX12_read_43 1 rfl rfl ?_
          refine ww_iald (v := (-4)) C 1 rfl (vin rfl) k_fl_1 dX12_read_44 ?_
          refine ww_iload_n C dX12_read_45 2 rfl rfl ?_
          refine ww_icmp_eq (tgt := 68) C dX12_read_46 (by decide) (fun c_11 => ?_) (fun c_11 => ?_)
          · have zc_11 : (-4) = p1.toInt := i_eq rfl rfl c_11
            omega
          · have zc_11 : (-4) ≠ p1.toInt := i_ne rfl rfl c_11
            refine ww_aload_n C dX12_read_49 0 rfl rfl ?_
            refine ww_get C fg_X12_96 0 rfl rfl dX12_read_50 ?_
            refine ww_iload_n C dX12_read_53 1 rfl rfl ?_
            refine ww_iald (v := (-4)) C 1 rfl (vin rfl) k_fl_1 dX12_read_54 ?_
            refine ww_bipush (v := (-4)) C dX12_read_55 rfl ?_
            refine ww_icmp_ne_f (tgt := 65) C dX12_read_57 (by decide) (rfl) ?_
            refine ww_bipush (v := (-11)) C dX12_read_60 rfl ?_
            refine ww_goto (tgt := 67) C dX12_read_62 (by decide) ?_
            exact ww_iret (u := []) C hT [] rfl rfl rfl rfl dX12_read_67 (Or.inr ⟨rfl, rfl, (by first | assumption | omega | decide), (by first | assumption | omega | decide), (by first | assumption | omega | decide), (by first | assumption | omega | decide), (by first | assumption | omega | decide), (by first | assumption | omega | decide)⟩)
        · refine ww_aload_n C dX12_read_39 0 rfl rfl ?_
          refine ww_get C fg_X12_96 0 rfl rfl dX12_read_40 ?_
          refine ww_iload_n C dX12_read_43 1 rfl rfl ?_
          refine ww_iald (v := (-4)) C 1 rfl (vin rfl) k_fl_2 dX12_read_44 ?_
          refine ww_iload_n C dX12_read_45 2 rfl rfl ?_
          refine ww_icmp_eq (tgt := 68) C dX12_read_46 (by decide) (fun c_12 => ?_) (fun c_12 => ?_)
          · have zc_12 : (-4) = p1.toInt := i_eq rfl rfl c_12
            omega
          · have zc_12 : (-4) ≠ p1.toInt := i_ne rfl rfl c_12
            refine ww_aload_n C dX12_read_49 0 rfl rfl ?_
            refine ww_get C fg_X12_96 0 rfl rfl dX12_read_50 ?_
            refine ww_iload_n C dX12_read_53 1 rfl rfl ?_
            refine ww_iald (v := (-4)) C 1 rfl (vin rfl) k_fl_2 dX12_read_54 ?_
            refine ww_bipush (v := (-4)) C dX12_read_55 rfl ?_
            refine ww_icmp_ne_f (tgt := 65) C dX12_read_57 (by decide) (rfl) ?_
            refine ww_bipush (v := (-11)) C dX12_read_60 rfl ?_
            refine ww_goto (tgt := 67) C dX12_read_62 (by decide) ?_
            exact ww_iret (u := []) C hT [] rfl rfl rfl rfl dX12_read_67 (Or.inr ⟨rfl, rfl, (by first | assumption | omega | decide), (by first | assumption | omega | decide), (by first | assumption | omega | decide), (by first | assumption | omega | decide), (by first | assumption | omega | decide), (by first | assumption | omega | decide)⟩)
        · refine ww_aload_n C dX12_read_39 0 rfl rfl ?_
          refine ww_get C fg_X12_96 0 rfl rfl dX12_read_40 ?_
          refine ww_iload_n C dX12_read_43 1 rfl rfl ?_
          refine ww_iald (v := (-4)) C 1 rfl (vin rfl) k_fl_3 dX12_read_44 ?_
          refine ww_iload_n C dX12_read_45 2 rfl rfl ?_
          refine ww_icmp_eq (tgt := 68) C dX12_read_46 (by decide) (fun c_13 => ?_) (fun c_13 => ?_)
          · have zc_13 : (-4) = p1.toInt := i_eq rfl rfl c_13
            omega
          · have zc_13 : (-4) ≠ p1.toInt := i_ne rfl rfl c_13
            refine ww_aload_n C dX12_read_49 0 rfl rfl ?_
            refine ww_get C fg_X12_96 0 rfl rfl dX12_read_50 ?_
            refine ww_iload_n C dX12_read_53 1 rfl rfl ?_
            refine ww_iald (v := (-4)) C 1 rfl (vin rfl) k_fl_3 dX12_read_54 ?_
            refine ww_bipush (v := (-4)) C dX12_read_55 rfl ?_
            refine ww_icmp_ne_f (tgt := 65) C dX12_read_57 (by decide) (rfl) ?_
            refine ww_bipush (v := (-11)) C dX12_read_60 rfl ?_
            refine ww_goto (tgt := 67) C dX12_read_62 (by decide) ?_
            exact ww_iret (u := []) C hT [] rfl rfl rfl rfl dX12_read_67 (Or.inr ⟨rfl, rfl, (by first | assumption | omega | decide), (by first | assumption | omega | decide), (by first | assumption | omega | decide), (by first | assumption | omega | decide), (by first | assumption | omega | decide), (by first | assumption | omega | decide)⟩)
      · refine ww_eq (ws' := [(hm, .inr (12, [.ref m_manys, .ref m_reals, .ref m_factsOf, .ref m_possible, .int 0, .int 0, .ref m_tape, .int 0, .int 0, .int 0, .int 0, .int 0, .int 0, .int 0, .int 0, .ref m_ends, .ref m_letters, .ref m_actOf, .ref m_whom, .ref m_actMany, .ref m_tokens, .ref m_afters, .ref m_afterOf, .int 0, .ref m_pile, .ref m_caseMany, .ref m_happen, .ref m_hasIf, .ref m_becomes, .ref m_goneOf, .ref m_heard, .ref m_pairs, .ref m_heaps, .int 0, .int 0, .ref m_led, .ref m_newAt, .ref m_knowing, .ref m_firsts, .int 0, .ref m_secrets, .ref m_tried, .ref m_lanes, .ref m_lengths, .ref m_cells])), (m_lanes, .inl (E.2.1 1, 4, .inl fl))]) ?_ rfl rfl rfl
        refine ww_if_ne_f (tgt := 39) C dX12_read_34 (by decide) (rfl) ?_
        refine ww_iconst (v := (-1)) C dX12_read_37 rfl ?_
        exact ww_iret (u := []) C hT [] rfl rfl rfl rfl dX12_read_38 (Or.inl ⟨rfl, rfl, (by first | assumption | omega | decide)⟩)
    · refine ww_eq (ws' := [(hm, .inr (12, [.ref m_manys, .ref m_reals, .ref m_factsOf, .ref m_possible, .int 0, .int 0, .ref m_tape, .int 0, .int 0, .int 0, .int 0, .int 0, .int 0, .int 0, .int 0, .ref m_ends, .ref m_letters, .ref m_actOf, .ref m_whom, .ref m_actMany, .ref m_tokens, .ref m_afters, .ref m_afterOf, .int 0, .ref m_pile, .ref m_caseMany, .ref m_happen, .ref m_hasIf, .ref m_becomes, .ref m_goneOf, .ref m_heard, .ref m_pairs, .ref m_heaps, .int 0, .int 0, .ref m_led, .ref m_newAt, .ref m_knowing, .ref m_firsts, .int 0, .ref m_secrets, .ref m_tried, .ref m_lanes, .ref m_lengths, .ref m_cells])), (m_lanes, .inl (E.2.1 1, 4, .inl fl))]) ?_ rfl rfl rfl
      refine ww_if_eq_t (tgt := 37) C dX12_read_21 (by decide) (rfl) ?_
      refine ww_iconst (v := (-1)) C dX12_read_37 rfl ?_
      exact ww_iret (u := []) C hT [] rfl rfl rfl rfl dX12_read_38 (Or.inl ⟨rfl, rfl, (by first | assumption | omega | decide)⟩)
  · refine ww_eq (ws' := [(hm, .inr (12, [.ref m_manys, .ref m_reals, .ref m_factsOf, .ref m_possible, .int 0, .int 0, .ref m_tape, .int 0, .int 0, .int 0, .int 0, .int 0, .int 0, .int 0, .int 0, .ref m_ends, .ref m_letters, .ref m_actOf, .ref m_whom, .ref m_actMany, .ref m_tokens, .ref m_afters, .ref m_afterOf, .int 0, .ref m_pile, .ref m_caseMany, .ref m_happen, .ref m_hasIf, .ref m_becomes, .ref m_goneOf, .ref m_heard, .ref m_pairs, .ref m_heaps, .int 0, .int 0, .ref m_led, .ref m_newAt, .ref m_knowing, .ref m_firsts, .int 0, .ref m_secrets, .ref m_tried, .ref m_lanes, .ref m_lengths, .ref m_cells])), (m_lanes, .inl (E.2.1 1, 4, .inl fl))]) ?_ rfl rfl rfl
    refine ww_if_eq_t (tgt := 37) C dX12_read_9 (by decide) (rfl) ?_
    refine ww_iconst (v := (-1)) C dX12_read_37 rfl ?_
    exact ww_iret (u := []) C hT [] rfl rfl rfl rfl dX12_read_38 (Or.inl ⟨rfl, rfl, (by first | assumption | omega | decide)⟩)
theorem dX12_undo_0 : decode cX12_undo 0 = .ok (.aload_n 0, 1) := by decide +kernel
theorem dX12_undo_1 : decode cX12_undo 1 = .ok (.getfield 105, 3) := by decide +kernel
theorem dX12_undo_4 : decode cX12_undo 4 = .ok (.ifCond .ne 6, 3) := by decide +kernel
theorem dX12_undo_7 : decode cX12_undo 7 = .ok (.bipush (-4), 2) := by decide +kernel
theorem dX12_undo_9 : decode cX12_undo 9 = .ok (.ireturn, 1) := by decide +kernel
set_option maxRecDepth 100000 in
set_option maxHeartbeats 4000000 in
theorem y_undo (l : Launch) (E : EV) (hm : Nat) (m_manys : Nat) (m_reals : Nat) (m_factsOf : Nat) (m_possible : Nat) (m_tape : Nat) (m_ends : Nat) (m_letters : Nat) (m_actOf : Nat) (m_whom : Nat) (m_actMany : Nat) (m_tokens : Nat) (m_afters : Nat) (m_afterOf : Nat) (m_pile : Nat) (m_caseMany : Nat) (m_happen : Nat) (m_hasIf : Nat) (m_becomes : Nat) (m_goneOf : Nat) (m_heard : Nat) (m_pairs : Nat) (m_heaps : Nat) (m_led : Nat) (m_newAt : Nat) (m_knowing : Nat) (m_firsts : Nat) (m_secrets : Nat) (m_tried : Nat) (m_lanes : Nat) (m_lengths : Nat) (m_cells : Nat)  : CT l yX12_undo (Cond.code yX12_undo cX12_undo 1 (some .int) :: TB) ({ frames := 0, cells := 0, slots := 0, locals := 0 }) E [.ref hm] [(hm, .inr (12, [.ref m_manys, .ref m_reals, .ref m_factsOf, .ref m_possible, .int 0, .int 0, .ref m_tape, .int 0, .int 0, .int 0, .int 0, .int 0, .int 0, .int 0, .int 0, .ref m_ends, .ref m_letters, .ref m_actOf, .ref m_whom, .ref m_actMany, .ref m_tokens, .ref m_afters, .ref m_afterOf, .int 0, .ref m_pile, .ref m_caseMany, .ref m_happen, .ref m_hasIf, .ref m_becomes, .ref m_goneOf, .ref m_heard, .ref m_pairs, .ref m_heaps, .int 0, .int 0, .ref m_led, .ref m_newAt, .ref m_knowing, .ref m_firsts, .int 0, .ref m_secrets, .ref m_tried, .ref m_lanes, .ref m_lengths, .ref m_cells]))] (Qi E (fun (r : Int32) u => (r = (-4) ∧ u = []))) 0 0 := by
  refine ct_of rfl rfl ?_
  intro X C hT hin
  show WW X 1 E 0 [(0, .ref hm)] [] [(hm, .inr (12, [.ref m_manys, .ref m_reals, .ref m_factsOf, .ref m_possible, .int 0, .int 0, .ref m_tape, .int 0, .int 0, .int 0, .int 0, .int 0, .int 0, .int 0, .int 0, .ref m_ends, .ref m_letters, .ref m_actOf, .ref m_whom, .ref m_actMany, .ref m_tokens, .ref m_afters, .ref m_afterOf, .int 0, .ref m_pile, .ref m_caseMany, .ref m_happen, .ref m_hasIf, .ref m_becomes, .ref m_goneOf, .ref m_heard, .ref m_pairs, .ref m_heaps, .int 0, .int 0, .ref m_led, .ref m_newAt, .ref m_knowing, .ref m_firsts, .int 0, .ref m_secrets, .ref m_tried, .ref m_lanes, .ref m_lengths, .ref m_cells]))] 0 0
  refine ww_aload_n C dX12_undo_0 0 rfl rfl ?_
  refine ww_get C fg_X12_105 0 rfl rfl dX12_undo_1 ?_
  refine ww_if_ne_f (tgt := 10) C dX12_undo_4 (by decide) (rfl) ?_
  refine ww_bipush (v := (-4)) C dX12_undo_7 rfl ?_
  exact ww_iret (u := []) C hT [] rfl rfl rfl rfl dX12_undo_9 (⟨rfl, rfl⟩)
theorem dX12_count_0 : decode cX12_count 0 = .ok (.iconst 0, 1) := by decide +kernel
theorem dX12_count_1 : decode cX12_count 1 = .ok (.istore_n 2, 1) := by decide +kernel
theorem dX12_count_2 : decode cX12_count 2 = .ok (.iconst 0, 1) := by decide +kernel
theorem dX12_count_3 : decode cX12_count 3 = .ok (.istore_n 3, 1) := by decide +kernel
theorem dX12_count_4 : decode cX12_count 4 = .ok (.iconst 0, 1) := by decide +kernel
theorem dX12_count_5 : decode cX12_count 5 = .ok (.istore 4, 2) := by decide +kernel
theorem dX12_count_7 : decode cX12_count 7 = .ok (.iload 4, 2) := by decide +kernel
theorem dX12_count_9 : decode cX12_count 9 = .ok (.bipush 8, 2) := by decide +kernel
theorem dX12_count_11 : decode cX12_count 11 = .ok (.if_icmp .ge 27, 3) := by decide +kernel
theorem dX12_count_14 : decode cX12_count 14 = .ok (.iload_n 2, 1) := by decide +kernel
theorem dX12_count_15 : decode cX12_count 15 = .ok (.aload_n 0, 1) := by decide +kernel
theorem dX12_count_16 : decode cX12_count 16 = .ok (.getfield 40, 3) := by decide +kernel
theorem dX12_count_19 : decode cX12_count 19 = .ok (.iload 4, 2) := by decide +kernel
theorem dX12_count_21 : decode cX12_count 21 = .ok (.iaload, 1) := by decide +kernel
theorem dX12_count_22 : decode cX12_count 22 = .ok (.ifCond .le 7, 3) := by decide +kernel
theorem dX12_count_29 : decode cX12_count 29 = .ok (.iconst 0, 1) := by decide +kernel
theorem dX12_count_30 : decode cX12_count 30 = .ok (.iadd, 1) := by decide +kernel
theorem dX12_count_31 : decode cX12_count 31 = .ok (.istore_n 2, 1) := by decide +kernel
theorem dX12_count_32 : decode cX12_count 32 = .ok (.iinc 4 1, 3) := by decide +kernel
theorem dX12_count_35 : decode cX12_count 35 = .ok (.goto (-28), 3) := by decide +kernel
theorem dX12_count_38 : decode cX12_count 38 = .ok (.iconst 0, 1) := by decide +kernel
theorem dX12_count_39 : decode cX12_count 39 = .ok (.istore 4, 2) := by decide +kernel
theorem dX12_count_41 : decode cX12_count 41 = .ok (.iload 4, 2) := by decide +kernel
theorem dX12_count_43 : decode cX12_count 43 = .ok (.iconst 4, 1) := by decide +kernel
theorem dX12_count_44 : decode cX12_count 44 = .ok (.if_icmp .ge 27, 3) := by decide +kernel
theorem dX12_count_47 : decode cX12_count 47 = .ok (.iload_n 3, 1) := by decide +kernel
theorem dX12_count_48 : decode cX12_count 48 = .ok (.aload_n 0, 1) := by decide +kernel
theorem dX12_count_49 : decode cX12_count 49 = .ok (.getfield 52, 3) := by decide +kernel
theorem dX12_count_52 : decode cX12_count 52 = .ok (.iload 4, 2) := by decide +kernel
theorem dX12_count_54 : decode cX12_count 54 = .ok (.iaload, 1) := by decide +kernel
theorem dX12_count_55 : decode cX12_count 55 = .ok (.ifCond .le 7, 3) := by decide +kernel
theorem dX12_count_62 : decode cX12_count 62 = .ok (.iconst 0, 1) := by decide +kernel
theorem dX12_count_63 : decode cX12_count 63 = .ok (.iadd, 1) := by decide +kernel
theorem dX12_count_64 : decode cX12_count 64 = .ok (.istore_n 3, 1) := by decide +kernel
theorem dX12_count_65 : decode cX12_count 65 = .ok (.iinc 4 1, 3) := by decide +kernel
theorem dX12_count_68 : decode cX12_count 68 = .ok (.goto (-27), 3) := by decide +kernel
theorem dX12_count_71 : decode cX12_count 71 = .ok (.iload_n 1, 1) := by decide +kernel
theorem dX12_count_72 : decode cX12_count 72 = .ok (.tableswitch 127 0 8 #[52, 59, 80, 82, 84, 89, 94, 99, 104], 52) := by decide +kernel
theorem dX12_count_124 : decode cX12_count 124 = .ok (.aload_n 0, 1) := by decide +kernel
theorem dX12_count_125 : decode cX12_count 125 = .ok (.getfield 7, 3) := by decide +kernel
theorem dX12_count_128 : decode cX12_count 128 = .ok (.iconst 0, 1) := by decide +kernel
theorem dX12_count_129 : decode cX12_count 129 = .ok (.iaload, 1) := by decide +kernel
theorem dX12_count_130 : decode cX12_count 130 = .ok (.ireturn, 1) := by decide +kernel
theorem dX12_count_131 : decode cX12_count 131 = .ok (.aload_n 0, 1) := by decide +kernel
theorem dX12_count_132 : decode cX12_count 132 = .ok (.getfield 7, 3) := by decide +kernel
theorem dX12_count_135 : decode cX12_count 135 = .ok (.iconst 0, 1) := by decide +kernel
theorem dX12_count_136 : decode cX12_count 136 = .ok (.iaload, 1) := by decide +kernel
theorem dX12_count_137 : decode cX12_count 137 = .ok (.ifCond .ne 8, 3) := by decide +kernel
theorem dX12_count_140 : decode cX12_count 140 = .ok (.bipush (-4), 2) := by decide +kernel
theorem dX12_count_142 : decode cX12_count 142 = .ok (.goto 9, 3) := by decide +kernel
theorem dX12_count_151 : decode cX12_count 151 = .ok (.ireturn, 1) := by decide +kernel
theorem dX12_count_152 : decode cX12_count 152 = .ok (.iload_n 2, 1) := by decide +kernel
theorem dX12_count_153 : decode cX12_count 153 = .ok (.ireturn, 1) := by decide +kernel
theorem dX12_count_154 : decode cX12_count 154 = .ok (.iload_n 3, 1) := by decide +kernel
theorem dX12_count_155 : decode cX12_count 155 = .ok (.ireturn, 1) := by decide +kernel
theorem dX12_count_156 : decode cX12_count 156 = .ok (.aload_n 0, 1) := by decide +kernel
theorem dX12_count_157 : decode cX12_count 157 = .ok (.getfield 304, 3) := by decide +kernel
theorem dX12_count_160 : decode cX12_count 160 = .ok (.ireturn, 1) := by decide +kernel
theorem dX12_count_161 : decode cX12_count 161 = .ok (.aload_n 0, 1) := by decide +kernel
theorem dX12_count_162 : decode cX12_count 162 = .ok (.getfield 105, 3) := by decide +kernel
theorem dX12_count_165 : decode cX12_count 165 = .ok (.ireturn, 1) := by decide +kernel
theorem dX12_count_166 : decode cX12_count 166 = .ok (.aload_n 0, 1) := by decide +kernel
theorem dX12_count_167 : decode cX12_count 167 = .ok (.getfield 332, 3) := by decide +kernel
theorem dX12_count_170 : decode cX12_count 170 = .ok (.ireturn, 1) := by decide +kernel
theorem dX12_count_171 : decode cX12_count 171 = .ok (.aload_n 0, 1) := by decide +kernel
theorem dX12_count_172 : decode cX12_count 172 = .ok (.getfield 154, 3) := by decide +kernel
theorem dX12_count_175 : decode cX12_count 175 = .ok (.ireturn, 1) := by decide +kernel
theorem dX12_count_176 : decode cX12_count 176 = .ok (.aload_n 0, 1) := by decide +kernel
theorem dX12_count_177 : decode cX12_count 177 = .ok (.getfield 96, 3) := by decide +kernel
theorem dX12_count_180 : decode cX12_count 180 = .ok (.iconst 0, 1) := by decide +kernel
theorem dX12_count_181 : decode cX12_count 181 = .ok (.iaload, 1) := by decide +kernel
theorem dX12_count_182 : decode cX12_count 182 = .ok (.bipush (-4), 2) := by decide +kernel
theorem dX12_count_184 : decode cX12_count 184 = .ok (.if_icmp .ne 8, 3) := by decide +kernel
theorem dX12_count_187 : decode cX12_count 187 = .ok (.bipush (-4), 2) := by decide +kernel
theorem dX12_count_189 : decode cX12_count 189 = .ok (.goto 9, 3) := by decide +kernel
theorem dX12_count_198 : decode cX12_count 198 = .ok (.ireturn, 1) := by decide +kernel
theorem dX12_count_199 : decode cX12_count 199 = .ok (.iconst (-1), 1) := by decide +kernel
theorem dX12_count_200 : decode cX12_count 200 = .ok (.ireturn, 1) := by decide +kernel
set_option maxRecDepth 100000 in
set_option maxHeartbeats 4000000 in
theorem y_count (l : Launch) (E : EV) (hm : Nat) (p0 : Int32) (m_manys : Nat) (m_reals : Nat) (m_factsOf : Nat) (m_possible : Nat) (m_tape : Nat) (m_ends : Nat) (m_letters : Nat) (m_actOf : Nat) (m_whom : Nat) (m_actMany : Nat) (m_tokens : Nat) (m_afters : Nat) (m_afterOf : Nat) (m_pile : Nat) (m_caseMany : Nat) (m_happen : Nat) (m_hasIf : Nat) (m_becomes : Nat) (m_goneOf : Nat) (m_heard : Nat) (m_pairs : Nat) (m_heaps : Nat) (m_led : Nat) (m_newAt : Nat) (m_knowing : Nat) (m_firsts : Nat) (m_secrets : Nat) (m_tried : Nat) (m_lanes : Nat) (m_lengths : Nat) (m_cells : Nat) (fl : Nat → Int32) (k_fl_0 : fl 0 = (-4)) (k_fl_1 : fl 1 = (-4)) (k_fl_2 : fl 2 = (-4)) (k_fl_3 : fl 3 = (-4)) : CT l yX12_count (Cond.code yX12_count cX12_count 5 (some .int) :: TB) ({ frames := 0, cells := 0, slots := 0, locals := 0 }) E [.ref hm, .int p0] [(hm, .inr (12, [.ref m_manys, .ref m_reals, .ref m_factsOf, .ref m_possible, .int 0, .int 0, .ref m_tape, .int 0, .int 0, .int 0, .int 0, .int 0, .int 0, .int 0, .int 0, .ref m_ends, .ref m_letters, .ref m_actOf, .ref m_whom, .ref m_actMany, .ref m_tokens, .ref m_afters, .ref m_afterOf, .int 0, .ref m_pile, .ref m_caseMany, .ref m_happen, .ref m_hasIf, .ref m_becomes, .ref m_goneOf, .ref m_heard, .ref m_pairs, .ref m_heaps, .int 0, .int 0, .ref m_led, .ref m_newAt, .ref m_knowing, .ref m_firsts, .int 0, .ref m_secrets, .ref m_tried, .ref m_lanes, .ref m_lengths, .ref m_cells])), (m_tokens, .inl (E.2.1 1, 9, .inl (fun _ => 0))), (m_caseMany, .inl (E.2.1 1, 4, .inl (fun _ => 0))), (m_manys, .inl (E.2.1 1, 18, .inl (fun _ => 0))), (m_lanes, .inl (E.2.1 1, 4, .inl fl))] (Qi E (fun (r : Int32) u => (r = (-1) ∧ u = [] ∧ (p0.toInt < 0 ∨ 8 < p0.toInt)) ∨ (r = 0 ∧ u = [] ∧ (0 ≤ p0.toInt) ∧ (p0.toInt ≤ 7) ∧ (p0.toInt ≠ 1)) ∨ (r = (-4) ∧ u = [] ∧ (p0.toInt = 1 ∨ p0.toInt = 8)))) 0 0 := by
  refine ct_of rfl rfl ?_
  intro X C hT hin
  show WW X 5 E 0 [(0, .ref hm), (1, .int p0)] [] [(hm, .inr (12, [.ref m_manys, .ref m_reals, .ref m_factsOf, .ref m_possible, .int 0, .int 0, .ref m_tape, .int 0, .int 0, .int 0, .int 0, .int 0, .int 0, .int 0, .int 0, .ref m_ends, .ref m_letters, .ref m_actOf, .ref m_whom, .ref m_actMany, .ref m_tokens, .ref m_afters, .ref m_afterOf, .int 0, .ref m_pile, .ref m_caseMany, .ref m_happen, .ref m_hasIf, .ref m_becomes, .ref m_goneOf, .ref m_heard, .ref m_pairs, .ref m_heaps, .int 0, .int 0, .ref m_led, .ref m_newAt, .ref m_knowing, .ref m_firsts, .int 0, .ref m_secrets, .ref m_tried, .ref m_lanes, .ref m_lengths, .ref m_cells])), (m_tokens, .inl (E.2.1 1, 9, .inl (fun _ => 0))), (m_caseMany, .inl (E.2.1 1, 4, .inl (fun _ => 0))), (m_manys, .inl (E.2.1 1, 18, .inl (fun _ => 0))), (m_lanes, .inl (E.2.1 1, 4, .inl fl))] 0 0
  refine ww_iconst (v := 0) C dX12_count_0 rfl ?_
  refine ww_istore_n (lv' := [(2, .int 0), (0, .ref hm), (1, .int p0)]) C dX12_count_1 rfl rfl rfl ?_
  refine ww_iconst (v := 0) C dX12_count_2 rfl ?_
  refine ww_istore_n (lv' := [(3, .int 0), (2, .int 0), (0, .ref hm), (1, .int p0)]) C dX12_count_3 rfl rfl rfl ?_
  refine ww_iconst (v := 0) C dX12_count_4 rfl ?_
  refine ww_istore (lv' := [(4, .int 0), (3, .int 0), (2, .int 0), (0, .ref hm), (1, .int p0)]) C dX12_count_5 rfl rfl ?_
  refine ww_iload C dX12_count_7 0 rfl ?_
  refine ww_bipush (v := 8) C dX12_count_9 rfl ?_
  refine ww_icmp_ge_f (tgt := 38) C dX12_count_11 (by decide) (by decide) ?_
  refine ww_iload_n C dX12_count_14 2 rfl rfl ?_
  refine ww_aload_n C dX12_count_15 3 rfl rfl ?_
  refine ww_get C fg_X12_40 0 rfl rfl dX12_count_16 ?_
  refine ww_iload C dX12_count_19 0 rfl ?_
  refine ww_iald (v := 0) C 1 rfl (vin rfl) rfl dX12_count_21 ?_
  refine ww_if_le_t (tgt := 29) C dX12_count_22 (by decide) (by decide) ?_
  refine ww_iconst (v := 0) C dX12_count_29 rfl ?_
  refine ww_iadd (v := 0) C dX12_count_30 (by decide) ?_
  refine ww_istore_n (lv' := [(2, .int 0), (4, .int 0), (3, .int 0), (0, .ref hm), (1, .int p0)]) C dX12_count_31 rfl rfl rfl ?_
  refine ww_iinc (j := 1) (v := 1) (lv' := [(4, .int 1), (2, .int 0), (3, .int 0), (0, .ref hm), (1, .int p0)]) C dX12_count_32 rfl rfl rfl rfl ?_
  refine ww_goto (tgt := 7) C dX12_count_35 (by decide) ?_
  refine ww_iload C dX12_count_7 0 rfl ?_
  refine ww_bipush (v := 8) C dX12_count_9 rfl ?_
  refine ww_icmp_ge_f (tgt := 38) C dX12_count_11 (by decide) (by decide) ?_
  refine ww_iload_n C dX12_count_14 1 rfl rfl ?_
  refine ww_aload_n C dX12_count_15 3 rfl rfl ?_
  refine ww_get C fg_X12_40 0 rfl rfl dX12_count_16 ?_
  refine ww_iload C dX12_count_19 0 rfl ?_
  refine ww_iald (v := 0) C 1 rfl (vin rfl) rfl dX12_count_21 ?_
  refine ww_if_le_t (tgt := 29) C dX12_count_22 (by decide) (by decide) ?_
  refine ww_iconst (v := 0) C dX12_count_29 rfl ?_
  refine ww_iadd (v := 0) C dX12_count_30 (by decide) ?_
  refine ww_istore_n (lv' := [(2, .int 0), (4, .int 1), (3, .int 0), (0, .ref hm), (1, .int p0)]) C dX12_count_31 rfl rfl rfl ?_
  refine ww_iinc (j := 1) (v := 2) (lv' := [(4, .int 2), (2, .int 0), (3, .int 0), (0, .ref hm), (1, .int p0)]) C dX12_count_32 rfl rfl rfl rfl ?_
  refine ww_goto (tgt := 7) C dX12_count_35 (by decide) ?_
  refine ww_iload C dX12_count_7 0 rfl ?_
  refine ww_bipush (v := 8) C dX12_count_9 rfl ?_
  refine ww_icmp_ge_f (tgt := 38) C dX12_count_11 (by decide) (by decide) ?_
  refine ww_iload_n C dX12_count_14 1 rfl rfl ?_
  refine ww_aload_n C dX12_count_15 3 rfl rfl ?_
  refine ww_get C fg_X12_40 0 rfl rfl dX12_count_16 ?_
  refine ww_iload C dX12_count_19 0 rfl ?_
  refine ww_iald (v := 0) C 1 rfl (vin rfl) rfl dX12_count_21 ?_
  refine ww_if_le_t (tgt := 29) C dX12_count_22 (by decide) (by decide) ?_
  refine ww_iconst (v := 0) C dX12_count_29 rfl ?_
  refine ww_iadd (v := 0) C dX12_count_30 (by decide) ?_
  refine ww_istore_n (lv' := [(2, .int 0), (4, .int 2), (3, .int 0), (0, .ref hm), (1, .int p0)]) C dX12_count_31 rfl rfl rfl ?_
  refine ww_iinc (j := 1) (v := 3) (lv' := [(4, .int 3), (2, .int 0), (3, .int 0), (0, .ref hm), (1, .int p0)]) C dX12_count_32 rfl rfl rfl rfl ?_
  refine ww_goto (tgt := 7) C dX12_count_35 (by decide) ?_
  refine ww_iload C dX12_count_7 0 rfl ?_
  refine ww_bipush (v := 8) C dX12_count_9 rfl ?_
  refine ww_icmp_ge_f (tgt := 38) C dX12_count_11 (by decide) (by decide) ?_
  refine ww_iload_n C dX12_count_14 1 rfl rfl ?_
  refine ww_aload_n C dX12_count_15 3 rfl rfl ?_
  refine ww_get C fg_X12_40 0 rfl rfl dX12_count_16 ?_
  refine ww_iload C dX12_count_19 0 rfl ?_
  refine ww_iald (v := 0) C 1 rfl (vin rfl) rfl dX12_count_21 ?_
  refine ww_if_le_t (tgt := 29) C dX12_count_22 (by decide) (by decide) ?_
  refine ww_iconst (v := 0) C dX12_count_29 rfl ?_
  refine ww_iadd (v := 0) C dX12_count_30 (by decide) ?_
  refine ww_istore_n (lv' := [(2, .int 0), (4, .int 3), (3, .int 0), (0, .ref hm), (1, .int p0)]) C dX12_count_31 rfl rfl rfl ?_
  refine ww_iinc (j := 1) (v := 4) (lv' := [(4, .int 4), (2, .int 0), (3, .int 0), (0, .ref hm), (1, .int p0)]) C dX12_count_32 rfl rfl rfl rfl ?_
  refine ww_goto (tgt := 7) C dX12_count_35 (by decide) ?_
  refine ww_iload C dX12_count_7 0 rfl ?_
  refine ww_bipush (v := 8) C dX12_count_9 rfl ?_
  refine ww_icmp_ge_f (tgt := 38) C dX12_count_11 (by decide) (by decide) ?_
  refine ww_iload_n C dX12_count_14 1 rfl rfl ?_
  refine ww_aload_n C dX12_count_15 3 rfl rfl ?_
  refine ww_get C fg_X12_40 0 rfl rfl dX12_count_16 ?_
  refine ww_iload C dX12_count_19 0 rfl ?_
  refine ww_iald (v := 0) C 1 rfl (vin rfl) rfl dX12_count_21 ?_
  refine ww_if_le_t (tgt := 29) C dX12_count_22 (by decide) (by decide) ?_
  refine ww_iconst (v := 0) C dX12_count_29 rfl ?_
  refine ww_iadd (v := 0) C dX12_count_30 (by decide) ?_
  refine ww_istore_n (lv' := [(2, .int 0), (4, .int 4), (3, .int 0), (0, .ref hm), (1, .int p0)]) C dX12_count_31 rfl rfl rfl ?_
  refine ww_iinc (j := 1) (v := 5) (lv' := [(4, .int 5), (2, .int 0), (3, .int 0), (0, .ref hm), (1, .int p0)]) C dX12_count_32 rfl rfl rfl rfl ?_
  refine ww_goto (tgt := 7) C dX12_count_35 (by decide) ?_
  refine ww_iload C dX12_count_7 0 rfl ?_
  refine ww_bipush (v := 8) C dX12_count_9 rfl ?_
  refine ww_icmp_ge_f (tgt := 38) C dX12_count_11 (by decide) (by decide) ?_
  refine ww_iload_n C dX12_count_14 1 rfl rfl ?_
  refine ww_aload_n C dX12_count_15 3 rfl rfl ?_
  refine ww_get C fg_X12_40 0 rfl rfl dX12_count_16 ?_
  refine ww_iload C dX12_count_19 0 rfl ?_
  refine ww_iald (v := 0) C 1 rfl (vin rfl) rfl dX12_count_21 ?_
  refine ww_if_le_t (tgt := 29) C dX12_count_22 (by decide) (by decide) ?_
  refine ww_iconst (v := 0) C dX12_count_29 rfl ?_
  refine ww_iadd (v := 0) C dX12_count_30 (by decide) ?_
  refine ww_istore_n (lv' := [(2, .int 0), (4, .int 5), (3, .int 0), (0, .ref hm), (1, .int p0)]) C dX12_count_31 rfl rfl rfl ?_
  refine ww_iinc (j := 1) (v := 6) (lv' := [(4, .int 6), (2, .int 0), (3, .int 0), (0, .ref hm), (1, .int p0)]) C dX12_count_32 rfl rfl rfl rfl ?_
  refine ww_goto (tgt := 7) C dX12_count_35 (by decide) ?_
  refine ww_iload C dX12_count_7 0 rfl ?_
  refine ww_bipush (v := 8) C dX12_count_9 rfl ?_
  refine ww_icmp_ge_f (tgt := 38) C dX12_count_11 (by decide) (by decide) ?_
  refine ww_iload_n C dX12_count_14 1 rfl rfl ?_
  refine ww_aload_n C dX12_count_15 3 rfl rfl ?_
  refine ww_get C fg_X12_40 0 rfl rfl dX12_count_16 ?_
  refine ww_iload C dX12_count_19 0 rfl ?_
  refine ww_iald (v := 0) C 1 rfl (vin rfl) rfl dX12_count_21 ?_
  refine ww_if_le_t (tgt := 29) C dX12_count_22 (by decide) (by decide) ?_
  refine ww_iconst (v := 0) C dX12_count_29 rfl ?_
  refine ww_iadd (v := 0) C dX12_count_30 (by decide) ?_
  refine ww_istore_n (lv' := [(2, .int 0), (4, .int 6), (3, .int 0), (0, .ref hm), (1, .int p0)]) C dX12_count_31 rfl rfl rfl ?_
  refine ww_iinc (j := 1) (v := 7) (lv' := [(4, .int 7), (2, .int 0), (3, .int 0), (0, .ref hm), (1, .int p0)]) C dX12_count_32 rfl rfl rfl rfl ?_
  refine ww_goto (tgt := 7) C dX12_count_35 (by decide) ?_
  refine ww_iload C dX12_count_7 0 rfl ?_
  refine ww_bipush (v := 8) C dX12_count_9 rfl ?_
  refine ww_icmp_ge_f (tgt := 38) C dX12_count_11 (by decide) (by decide) ?_
  refine ww_iload_n C dX12_count_14 1 rfl rfl ?_
  refine ww_aload_n C dX12_count_15 3 rfl rfl ?_
  refine ww_get C fg_X12_40 0 rfl rfl dX12_count_16 ?_
  refine ww_iload C dX12_count_19 0 rfl ?_
  refine ww_iald (v := 0) C 1 rfl (vin rfl) rfl dX12_count_21 ?_
  refine ww_if_le_t (tgt := 29) C dX12_count_22 (by decide) (by decide) ?_
  refine ww_iconst (v := 0) C dX12_count_29 rfl ?_
  refine ww_iadd (v := 0) C dX12_count_30 (by decide) ?_
  refine ww_istore_n (lv' := [(2, .int 0), (4, .int 7), (3, .int 0), (0, .ref hm), (1, .int p0)]) C dX12_count_31 rfl rfl rfl ?_
  refine ww_iinc (j := 1) (v := 8) (lv' := [(4, .int 8), (2, .int 0), (3, .int 0), (0, .ref hm), (1, .int p0)]) C dX12_count_32 rfl rfl rfl rfl ?_
  refine ww_goto (tgt := 7) C dX12_count_35 (by decide) ?_
  refine ww_iload C dX12_count_7 0 rfl ?_
  refine ww_bipush (v := 8) C dX12_count_9 rfl ?_
  refine ww_icmp_ge_t (tgt := 38) C dX12_count_11 (by decide) (by decide) ?_
  refine ww_iconst (v := 0) C dX12_count_38 rfl ?_
  refine ww_istore (lv' := [(4, .int 0), (2, .int 0), (3, .int 0), (0, .ref hm), (1, .int p0)]) C dX12_count_39 rfl rfl ?_
  refine ww_iload C dX12_count_41 0 rfl ?_
  refine ww_iconst (v := 4) C dX12_count_43 rfl ?_
  refine ww_icmp_ge_f (tgt := 71) C dX12_count_44 (by decide) (by decide) ?_
  refine ww_iload_n C dX12_count_47 2 rfl rfl ?_
  refine ww_aload_n C dX12_count_48 3 rfl rfl ?_
  refine ww_get C fg_X12_52 0 rfl rfl dX12_count_49 ?_
  refine ww_iload C dX12_count_52 0 rfl ?_
  refine ww_iald (v := 0) C 2 rfl (vin rfl) rfl dX12_count_54 ?_
  refine ww_if_le_t (tgt := 62) C dX12_count_55 (by decide) (by decide) ?_
  refine ww_iconst (v := 0) C dX12_count_62 rfl ?_
  refine ww_iadd (v := 0) C dX12_count_63 (by decide) ?_
  refine ww_istore_n (lv' := [(3, .int 0), (4, .int 0), (2, .int 0), (0, .ref hm), (1, .int p0)]) C dX12_count_64 rfl rfl rfl ?_
  refine ww_iinc (j := 1) (v := 1) (lv' := [(4, .int 1), (3, .int 0), (2, .int 0), (0, .ref hm), (1, .int p0)]) C dX12_count_65 rfl rfl rfl rfl ?_
  refine ww_goto (tgt := 41) C dX12_count_68 (by decide) ?_
  refine ww_iload C dX12_count_41 0 rfl ?_
  refine ww_iconst (v := 4) C dX12_count_43 rfl ?_
  refine ww_icmp_ge_f (tgt := 71) C dX12_count_44 (by decide) (by decide) ?_
  refine ww_iload_n C dX12_count_47 1 rfl rfl ?_
  refine ww_aload_n C dX12_count_48 3 rfl rfl ?_
  refine ww_get C fg_X12_52 0 rfl rfl dX12_count_49 ?_
  refine ww_iload C dX12_count_52 0 rfl ?_
  refine ww_iald (v := 0) C 2 rfl (vin rfl) rfl dX12_count_54 ?_
  refine ww_if_le_t (tgt := 62) C dX12_count_55 (by decide) (by decide) ?_
  refine ww_iconst (v := 0) C dX12_count_62 rfl ?_
  refine ww_iadd (v := 0) C dX12_count_63 (by decide) ?_
  refine ww_istore_n (lv' := [(3, .int 0), (4, .int 1), (2, .int 0), (0, .ref hm), (1, .int p0)]) C dX12_count_64 rfl rfl rfl ?_
  refine ww_iinc (j := 1) (v := 2) (lv' := [(4, .int 2), (3, .int 0), (2, .int 0), (0, .ref hm), (1, .int p0)]) C dX12_count_65 rfl rfl rfl rfl ?_
  refine ww_goto (tgt := 41) C dX12_count_68 (by decide) ?_
  refine ww_iload C dX12_count_41 0 rfl ?_
  refine ww_iconst (v := 4) C dX12_count_43 rfl ?_
  refine ww_icmp_ge_f (tgt := 71) C dX12_count_44 (by decide) (by decide) ?_
  refine ww_iload_n C dX12_count_47 1 rfl rfl ?_
  refine ww_aload_n C dX12_count_48 3 rfl rfl ?_
  refine ww_get C fg_X12_52 0 rfl rfl dX12_count_49 ?_
  refine ww_iload C dX12_count_52 0 rfl ?_
  refine ww_iald (v := 0) C 2 rfl (vin rfl) rfl dX12_count_54 ?_
  refine ww_if_le_t (tgt := 62) C dX12_count_55 (by decide) (by decide) ?_
  refine ww_iconst (v := 0) C dX12_count_62 rfl ?_
  refine ww_iadd (v := 0) C dX12_count_63 (by decide) ?_
  refine ww_istore_n (lv' := [(3, .int 0), (4, .int 2), (2, .int 0), (0, .ref hm), (1, .int p0)]) C dX12_count_64 rfl rfl rfl ?_
  refine ww_iinc (j := 1) (v := 3) (lv' := [(4, .int 3), (3, .int 0), (2, .int 0), (0, .ref hm), (1, .int p0)]) C dX12_count_65 rfl rfl rfl rfl ?_
  refine ww_goto (tgt := 41) C dX12_count_68 (by decide) ?_
  refine ww_iload C dX12_count_41 0 rfl ?_
  refine ww_iconst (v := 4) C dX12_count_43 rfl ?_
  refine ww_icmp_ge_f (tgt := 71) C dX12_count_44 (by decide) (by decide) ?_
  refine ww_iload_n C dX12_count_47 1 rfl rfl ?_
  refine ww_aload_n C dX12_count_48 3 rfl rfl ?_
  refine ww_get C fg_X12_52 0 rfl rfl dX12_count_49 ?_
  refine ww_iload C dX12_count_52 0 rfl ?_
  refine ww_iald (v := 0) C 2 rfl (vin rfl) rfl dX12_count_54 ?_
  refine ww_if_le_t (tgt := 62) C dX12_count_55 (by decide) (by decide) ?_
  refine ww_iconst (v := 0) C dX12_count_62 rfl ?_
  refine ww_iadd (v := 0) C dX12_count_63 (by decide) ?_
  refine ww_istore_n (lv' := [(3, .int 0), (4, .int 3), (2, .int 0), (0, .ref hm), (1, .int p0)]) C dX12_count_64 rfl rfl rfl ?_
  refine ww_iinc (j := 1) (v := 4) (lv' := [(4, .int 4), (3, .int 0), (2, .int 0), (0, .ref hm), (1, .int p0)]) C dX12_count_65 rfl rfl rfl rfl ?_
  refine ww_goto (tgt := 41) C dX12_count_68 (by decide) ?_
  refine ww_iload C dX12_count_41 0 rfl ?_
  refine ww_iconst (v := 4) C dX12_count_43 rfl ?_
  refine ww_icmp_ge_t (tgt := 71) C dX12_count_44 (by decide) (by decide) ?_
  refine ww_iload_n C dX12_count_71 4 rfl rfl ?_
  by_cases c_1 : (0 : Int) ≤ p0.toInt ∧ p0.toInt ≤ 8
  · rcases sp_0_8 (x := p0) (by omega) (by omega) with rfl | rfl | rfl | rfl | rfl | rfl | rfl | rfl | rfl
    · refine ww_tableIn (tgt := 124) C dX12_count_72 (by decide) (by decide) rfl (by decide) ?_
      refine ww_aload_n C dX12_count_124 3 rfl rfl ?_
      refine ww_get C fg_X12_7 0 rfl rfl dX12_count_125 ?_
      refine ww_iconst (v := 0) C dX12_count_128 rfl ?_
      refine ww_iald (v := 0) C 3 rfl (vin rfl) rfl dX12_count_129 ?_
      exact ww_iret (u := []) C hT [] rfl rfl rfl rfl dX12_count_130 (Or.inr (Or.inl ⟨rfl, rfl, (by first | assumption | omega | decide), (by first | assumption | omega | decide), (by first | assumption | omega | decide)⟩))
    · refine ww_tableIn (tgt := 131) C dX12_count_72 (by decide) (by decide) rfl (by decide) ?_
      refine ww_aload_n C dX12_count_131 3 rfl rfl ?_
      refine ww_get C fg_X12_7 0 rfl rfl dX12_count_132 ?_
      refine ww_iconst (v := 0) C dX12_count_135 rfl ?_
      refine ww_iald (v := 0) C 3 rfl (vin rfl) rfl dX12_count_136 ?_
      refine ww_if_ne_f (tgt := 145) C dX12_count_137 (by decide) (rfl) ?_
      refine ww_bipush (v := (-4)) C dX12_count_140 rfl ?_
      refine ww_goto (tgt := 151) C dX12_count_142 (by decide) ?_
      exact ww_iret (u := []) C hT [] rfl rfl rfl rfl dX12_count_151 (Or.inr (Or.inr ⟨rfl, rfl, (by first | assumption | omega | decide)⟩))
    · refine ww_tableIn (tgt := 152) C dX12_count_72 (by decide) (by decide) rfl (by decide) ?_
      refine ww_iload_n C dX12_count_152 2 rfl rfl ?_
      exact ww_iret (u := []) C hT [] rfl rfl rfl rfl dX12_count_153 (Or.inr (Or.inl ⟨rfl, rfl, (by first | assumption | omega | decide), (by first | assumption | omega | decide), (by first | assumption | omega | decide)⟩))
    · refine ww_tableIn (tgt := 154) C dX12_count_72 (by decide) (by decide) rfl (by decide) ?_
      refine ww_iload_n C dX12_count_154 1 rfl rfl ?_
      exact ww_iret (u := []) C hT [] rfl rfl rfl rfl dX12_count_155 (Or.inr (Or.inl ⟨rfl, rfl, (by first | assumption | omega | decide), (by first | assumption | omega | decide), (by first | assumption | omega | decide)⟩))
    · refine ww_tableIn (tgt := 156) C dX12_count_72 (by decide) (by decide) rfl (by decide) ?_
      refine ww_aload_n C dX12_count_156 3 rfl rfl ?_
      refine ww_get C fg_X12_304 0 rfl rfl dX12_count_157 ?_
      exact ww_iret (u := []) C hT [] rfl rfl rfl rfl dX12_count_160 (Or.inr (Or.inl ⟨rfl, rfl, (by first | assumption | omega | decide), (by first | assumption | omega | decide), (by first | assumption | omega | decide)⟩))
    · refine ww_tableIn (tgt := 161) C dX12_count_72 (by decide) (by decide) rfl (by decide) ?_
      refine ww_aload_n C dX12_count_161 3 rfl rfl ?_
      refine ww_get C fg_X12_105 0 rfl rfl dX12_count_162 ?_
      exact ww_iret (u := []) C hT [] rfl rfl rfl rfl dX12_count_165 (Or.inr (Or.inl ⟨rfl, rfl, (by first | assumption | omega | decide), (by first | assumption | omega | decide), (by first | assumption | omega | decide)⟩))
    · refine ww_tableIn (tgt := 166) C dX12_count_72 (by decide) (by decide) rfl (by decide) ?_
      refine ww_aload_n C dX12_count_166 3 rfl rfl ?_
      refine ww_get C fg_X12_332 0 rfl rfl dX12_count_167 ?_
      exact ww_iret (u := []) C hT [] rfl rfl rfl rfl dX12_count_170 (Or.inr (Or.inl ⟨rfl, rfl, (by first | assumption | omega | decide), (by first | assumption | omega | decide), (by first | assumption | omega | decide)⟩))
    · refine ww_tableIn (tgt := 171) C dX12_count_72 (by decide) (by decide) rfl (by decide) ?_
      refine ww_aload_n C dX12_count_171 3 rfl rfl ?_
      refine ww_get C fg_X12_154 0 rfl rfl dX12_count_172 ?_
      exact ww_iret (u := []) C hT [] rfl rfl rfl rfl dX12_count_175 (Or.inr (Or.inl ⟨rfl, rfl, (by first | assumption | omega | decide), (by first | assumption | omega | decide), (by first | assumption | omega | decide)⟩))
    · refine ww_tableIn (tgt := 176) C dX12_count_72 (by decide) (by decide) rfl (by decide) ?_
      refine ww_aload_n C dX12_count_176 3 rfl rfl ?_
      refine ww_get C fg_X12_96 0 rfl rfl dX12_count_177 ?_
      refine ww_iconst (v := 0) C dX12_count_180 rfl ?_
      refine ww_iald (v := (-4)) C 4 rfl (vin rfl) k_fl_0 dX12_count_181 ?_
      refine ww_bipush (v := (-4)) C dX12_count_182 rfl ?_
      refine ww_icmp_ne_f (tgt := 192) C dX12_count_184 (by decide) (rfl) ?_
      refine ww_bipush (v := (-4)) C dX12_count_187 rfl ?_
      refine ww_goto (tgt := 198) C dX12_count_189 (by decide) ?_
      exact ww_iret (u := []) C hT [] rfl rfl rfl rfl dX12_count_198 (Or.inr (Or.inr ⟨rfl, rfl, (by first | assumption | omega | decide)⟩))
  · refine ww_tableOut (tgt := 199) C dX12_count_72 (by omega) (by decide) ?_
    refine ww_iconst (v := (-1)) C dX12_count_199 rfl ?_
    exact ww_iret (u := []) C hT [] rfl rfl rfl rfl dX12_count_200 (Or.inl ⟨rfl, rfl, (by first | assumption | omega | decide)⟩)
