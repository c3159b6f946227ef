theorem dX12_feed_0 : decode cX12_feed 0 = .ok (.aload_n 0, 1) := by decide +kernel
theorem dX12_feed_1 : decode cX12_feed 1 = .ok (.getfield 154, 3) := by decide +kernel
theorem wf_X12_154 : Cond.fieldLink RX12 154 RX12 "taped" "I" ∈ TB := tbm (tq5 (List.mem_of_getElem? (i := 85) (by decide +kernel))) (by decide +kernel)
theorem fg_X12_154 : FG RX12 154 12 7 := ⟨RX12, TX12, 45, uw_X12, wf_X12_154, rfl, by decide, rfl⟩
theorem dX12_feed_4 : decode cX12_feed 4 = .ok (.bipush 8, 2) := by decide +kernel
theorem dX12_feed_6 : decode cX12_feed 6 = .ok (.iadd, 1) := by decide +kernel
theorem dX12_feed_7 : decode cX12_feed 7 = .ok (.sipush 160, 3) := by decide +kernel
theorem dX12_feed_10 : decode cX12_feed 10 = .ok (.if_icmp .le 6, 3) := by decide +kernel
theorem dX12_feed_16 : decode cX12_feed 16 = .ok (.bipush 56, 2) := by decide +kernel
theorem dX12_feed_18 : decode cX12_feed 18 = .ok (.istore_n 3, 1) := by decide +kernel
theorem dX12_feed_19 : decode cX12_feed 19 = .ok (.iload_n 3, 1) := by decide +kernel
theorem dX12_feed_20 : decode cX12_feed 20 = .ok (.ifCond .lt 36, 3) := by decide +kernel
theorem dX12_feed_23 : decode cX12_feed 23 = .ok (.aload_n 0, 1) := by decide +kernel
theorem dX12_feed_24 : decode cX12_feed 24 = .ok (.getfield 22, 3) := by decide +kernel
theorem fg_X12_22 : FG RX12 22 12 6 := ⟨RX12, TX12, 45, uw_X12, wf_X12_22, rfl, by decide, rfl⟩
theorem dX12_feed_27 : decode cX12_feed 27 = .ok (.aload_n 0, 1) := by decide +kernel
theorem dX12_feed_28 : decode cX12_feed 28 = .ok (.getfield 154, 3) := by decide +kernel
theorem dX12_feed_31 : decode cX12_feed 31 = .ok (.lload_n 1, 1) := by decide +kernel
theorem dX12_feed_32 : decode cX12_feed 32 = .ok (.iload_n 3, 1) := by decide +kernel
theorem dX12_feed_33 : decode cX12_feed 33 = .ok (.lshr, 1) := by decide +kernel
theorem dX12_feed_34 : decode cX12_feed 34 = .ok (.l2i, 1) := by decide +kernel
theorem dX12_feed_35 : decode cX12_feed 35 = .ok (.sipush 255, 3) := by decide +kernel
theorem dX12_feed_38 : decode cX12_feed 38 = .ok (.iand, 1) := by decide +kernel
theorem dX12_feed_39 : decode cX12_feed 39 = .ok (.iastore, 1) := by decide +kernel
theorem dX12_feed_40 : decode cX12_feed 40 = .ok (.aload_n 0, 1) := by decide +kernel
theorem dX12_feed_41 : decode cX12_feed 41 = .ok (.dup, 1) := by decide +kernel
theorem dX12_feed_42 : decode cX12_feed 42 = .ok (.getfield 154, 3) := by decide +kernel
theorem dX12_feed_45 : decode cX12_feed 45 = .ok (.iconst 1, 1) := by decide +kernel
theorem dX12_feed_46 : decode cX12_feed 46 = .ok (.iadd, 1) := by decide +kernel
theorem dX12_feed_47 : decode cX12_feed 47 = .ok (.putfield 154, 3) := by decide +kernel
theorem fp_X12_154 : FP RX12 154 12 7 .int false := ⟨RX12, TX12, 45, tyX12, uw_X12, wf_X12_154, rfl, by decide, rfl, tyX12_ok, nmX12, rfl, by decide +kernel⟩
theorem dX12_feed_50 : decode cX12_feed 50 = .ok (.iinc 3 (-8), 3) := by decide +kernel
theorem dX12_feed_53 : decode cX12_feed 53 = .ok (.goto (-34), 3) := by decide +kernel
theorem dX12_feed_56 : decode cX12_feed 56 = .ok (.aload_n 0, 1) := by decide +kernel
theorem dX12_feed_57 : decode cX12_feed 57 = .ok (.getfield 154, 3) := by decide +kernel
theorem dX12_feed_60 : decode cX12_feed 60 = .ok (.ireturn, 1) := by decide +kernel
set_option maxRecDepth 100000 in
set_option maxHeartbeats 4000000 in
theorem y_feed (l : Launch) (E : EV) (hm : Nat) (p0 : Int64) (m_manys : Nat) (m_reals : Nat) (m_factsOf : Nat) (m_possible : Nat) (m_tape : Nat) (m_ends : Nat) (m_letters : Nat) (m_actOf : Nat) (m_whom : Nat) (m_actMany : Nat) (m_tokens : Nat) (m_afters : Nat) (m_afterOf : Nat) (m_pile : Nat) (m_caseMany : Nat) (m_happen : Nat) (m_hasIf : Nat) (m_becomes : Nat) (m_goneOf : Nat) (m_heard : Nat) (m_pairs : Nat) (m_heaps : Nat) (m_led : Nat) (m_newAt : Nat) (m_knowing : Nat) (m_firsts : Nat) (m_secrets : Nat) (m_tried : Nat) (m_lanes : Nat) (m_lengths : Nat) (m_cells : Nat)  : CT l yX12_feed (Cond.code yX12_feed cX12_feed 4 (some .int) :: TB) ({ frames := 0, cells := 0, slots := 0, locals := 0 }) E [.ref hm, .long p0] [(hm, .inr (12, [.ref m_manys, .ref m_reals, .ref m_factsOf, .ref m_possible, .int 0, .int 0, .ref m_tape, .int 0, .int 0, .int 0, .int 0, .int 0, .int 0, .int 0, .int 0, .ref m_ends, .ref m_letters, .ref m_actOf, .ref m_whom, .ref m_actMany, .ref m_tokens, .ref m_afters, .ref m_afterOf, .int 0, .ref m_pile, .ref m_caseMany, .ref m_happen, .ref m_hasIf, .ref m_becomes, .ref m_goneOf, .ref m_heard, .ref m_pairs, .ref m_heaps, .int 0, .int 0, .ref m_led, .ref m_newAt, .ref m_knowing, .ref m_firsts, .int 0, .ref m_secrets, .ref m_tried, .ref m_lanes, .ref m_lengths, .ref m_cells])), (m_tape, .inl (E.2.1 1, 160, .inl (fun _ => 0)))] (Qi E (fun (r : Int32) u => (r = 8 ∧ u = []))) 0 0 := by
  refine ct_of rfl rfl ?_
  intro X C hT hin
  show WW X 4 E 0 [(0, .ref hm), (1, .long p0)] [] [(hm, .inr (12, [.ref m_manys, .ref m_reals, .ref m_factsOf, .ref m_possible, .int 0, .int 0, .ref m_tape, .int 0, .int 0, .int 0, .int 0, .int 0, .int 0, .int 0, .int 0, .ref m_ends, .ref m_letters, .ref m_actOf, .ref m_whom, .ref m_actMany, .ref m_tokens, .ref m_afters, .ref m_afterOf, .int 0, .ref m_pile, .ref m_caseMany, .ref m_happen, .ref m_hasIf, .ref m_becomes, .ref m_goneOf, .ref m_heard, .ref m_pairs, .ref m_heaps, .int 0, .int 0, .ref m_led, .ref m_newAt, .ref m_knowing, .ref m_firsts, .int 0, .ref m_secrets, .ref m_tried, .ref m_lanes, .ref m_lengths, .ref m_cells])), (m_tape, .inl (E.2.1 1, 160, .inl (fun _ => 0)))] 0 0
  refine ww_aload_n C dX12_feed_0 0 rfl rfl ?_
  refine ww_get C fg_X12_154 0 rfl rfl dX12_feed_1 ?_
  refine ww_bipush (v := 8) C dX12_feed_4 rfl ?_
  refine ww_iadd (v := 8) C dX12_feed_6 (by decide) ?_
  refine ww_sipush (v := 160) C dX12_feed_7 rfl ?_
  refine ww_icmp_le_t (tgt := 16) C dX12_feed_10 (by decide) (by decide) ?_
  refine ww_bipush (v := 56) C dX12_feed_16 rfl ?_
  refine ww_istore_n (lv' := [(3, .int 56), (0, .ref hm), (1, .long p0)]) C dX12_feed_18 rfl rfl rfl ?_
  refine ww_iload_n C dX12_feed_19 0 rfl rfl ?_
  refine ww_if_lt_f (tgt := 56) C dX12_feed_20 (by decide) (by decide) ?_
  refine ww_aload_n C dX12_feed_23 1 rfl rfl ?_
  refine ww_get C fg_X12_22 0 rfl rfl dX12_feed_24 ?_
  refine ww_aload_n C dX12_feed_27 1 rfl rfl ?_
  refine ww_get C fg_X12_154 0 rfl rfl dX12_feed_28 ?_
  refine ww_lload_n C dX12_feed_31 2 rfl rfl ?_
  refine ww_iload_n C dX12_feed_32 0 rfl rfl ?_
  obtain ⟨l_1, el_1⟩ : ∃ z : Int64, p0 >>> ((56 : Int32).toInt64 &&& 63) = z := ⟨_, rfl⟩
  refine ww_lshr C dX12_feed_33 el_1 ?_
  obtain ⟨x_2, ex_2⟩ : ∃ z : Int32, l_1.toInt32 = z := ⟨_, rfl⟩
  refine ww_l2i (v := x_2) C dX12_feed_34 ex_2 ?_
  refine ww_sipush (v := 255) C dX12_feed_35 rfl ?_
  obtain ⟨x_3, ex_3⟩ : ∃ z : Int32, x_2 &&& (255 : Int32) = z := ⟨_, rfl⟩
  refine ww_iand (v := x_3) C dX12_feed_38 ex_3 ?_
  obtain ⟨f_4, ef_4⟩ : ∃ z : Nat → Int32, upd (fun _ => 0) 0 x_3 = z := ⟨_, rfl⟩
  refine ww_iast (ws' := [(hm, .inr (12, [.ref m_manys, .ref m_reals, .ref m_factsOf, .ref m_possible, .int 0, .int 0, .ref m_tape, .int 0, .int 0, .int 0, .int 0, .int 0, .int 0, .int 0, .int 0, .ref m_ends, .ref m_letters, .ref m_actOf, .ref m_whom, .ref m_actMany, .ref m_tokens, .ref m_afters, .ref m_afterOf, .int 0, .ref m_pile, .ref m_caseMany, .ref m_happen, .ref m_hasIf, .ref m_becomes, .ref m_goneOf, .ref m_heard, .ref m_pairs, .ref m_heaps, .int 0, .int 0, .ref m_led, .ref m_newAt, .ref m_knowing, .ref m_firsts, .int 0, .ref m_secrets, .ref m_tried, .ref m_lanes, .ref m_lengths, .ref m_cells])), (m_tape, .inl (E.2.1 1, 160, .inl f_4))]) C 1 rfl (vin rfl) ef_4 rfl dX12_feed_39 ?_
  refine ww_aload_n C dX12_feed_40 1 rfl rfl ?_
  refine ww_dup C dX12_feed_41 rfl ?_
  refine ww_get C fg_X12_154 0 rfl rfl dX12_feed_42 ?_
  refine ww_iconst (v := 1) C dX12_feed_45 rfl ?_
  refine ww_iadd (v := 1) C dX12_feed_46 (by decide) ?_
  refine ww_put (ws' := [(hm, .inr (12, [.ref m_manys, .ref m_reals, .ref m_factsOf, .ref m_possible, .int 0, .int 0, .ref m_tape, .int 1, .int 0, .int 0, .int 0, .int 0, .int 0, .int 0, .int 0, .ref m_ends, .ref m_letters, .ref m_actOf, .ref m_whom, .ref m_actMany, .ref m_tokens, .ref m_afters, .ref m_afterOf, .int 0, .ref m_pile, .ref m_caseMany, .ref m_happen, .ref m_hasIf, .ref m_becomes, .ref m_goneOf, .ref m_heard, .ref m_pairs, .ref m_heaps, .int 0, .int 0, .ref m_led, .ref m_newAt, .ref m_knowing, .ref m_firsts, .int 0, .ref m_secrets, .ref m_tried, .ref m_lanes, .ref m_lengths, .ref m_cells])), (m_tape, .inl (E.2.1 1, 160, .inl f_4))]) C fp_X12_154 0 rfl rfl rfl rfl rfl dX12_feed_47 ?_
  refine ww_iinc (j := 0) (v := 48) (lv' := [(3, .int 48), (0, .ref hm), (1, .long p0)]) C dX12_feed_50 rfl rfl rfl rfl ?_
  refine ww_goto (tgt := 19) C dX12_feed_53 (by decide) ?_
  refine ww_iload_n C dX12_feed_19 0 rfl rfl ?_
  refine ww_if_lt_f (tgt := 56) C dX12_feed_20 (by decide) (by decide) ?_
  refine ww_aload_n C dX12_feed_23 1 rfl rfl ?_
  refine ww_get C fg_X12_22 0 rfl rfl dX12_feed_24 ?_
  refine ww_aload_n C dX12_feed_27 1 rfl rfl ?_
  refine ww_get C fg_X12_154 0 rfl rfl dX12_feed_28 ?_
  refine ww_lload_n C dX12_feed_31 2 rfl rfl ?_
  refine ww_iload_n C dX12_feed_32 0 rfl rfl ?_
  obtain ⟨l_5, el_5⟩ : ∃ z : Int64, p0 >>> ((48 : Int32).toInt64 &&& 63) = z := ⟨_, rfl⟩
  refine ww_lshr C dX12_feed_33 el_5 ?_
  obtain ⟨x_6, ex_6⟩ : ∃ z : Int32, l_5.toInt32 = z := ⟨_, rfl⟩
  refine ww_l2i (v := x_6) C dX12_feed_34 ex_6 ?_
  refine ww_sipush (v := 255) C dX12_feed_35 rfl ?_
  obtain ⟨x_7, ex_7⟩ : ∃ z : Int32, x_6 &&& (255 : Int32) = z := ⟨_, rfl⟩
  refine ww_iand (v := x_7) C dX12_feed_38 ex_7 ?_
  obtain ⟨f_8, ef_8⟩ : ∃ z : Nat → Int32, upd f_4 1 x_7 = z := ⟨_, rfl⟩
  refine ww_iast (ws' := [(hm, .inr (12, [.ref m_manys, .ref m_reals, .ref m_factsOf, .ref m_possible, .int 0, .int 0, .ref m_tape, .int 1, .int 0, .int 0, .int 0, .int 0, .int 0, .int 0, .int 0, .ref m_ends, .ref m_letters, .ref m_actOf, .ref m_whom, .ref m_actMany, .ref m_tokens, .ref m_afters, .ref m_afterOf, .int 0, .ref m_pile, .ref m_caseMany, .ref m_happen, .ref m_hasIf, .ref m_becomes, .ref m_goneOf, .ref m_heard, .ref m_pairs, .ref m_heaps, .int 0, .int 0, .ref m_led, .ref m_newAt, .ref m_knowing, .ref m_firsts, .int 0, .ref m_secrets, .ref m_tried, .ref m_lanes, .ref m_lengths, .ref m_cells])), (m_tape, .inl (E.2.1 1, 160, .inl f_8))]) C 1 rfl (vin rfl) ef_8 rfl dX12_feed_39 ?_
  refine ww_aload_n C dX12_feed_40 1 rfl rfl ?_
  refine ww_dup C dX12_feed_41 rfl ?_
  refine ww_get C fg_X12_154 0 rfl rfl dX12_feed_42 ?_
  refine ww_iconst (v := 1) C dX12_feed_45 rfl ?_
  refine ww_iadd (v := 2) C dX12_feed_46 (by decide) ?_
  refine ww_put (ws' := [(hm, .inr (12, [.ref m_manys, .ref m_reals, .ref m_factsOf, .ref m_possible, .int 0, .int 0, .ref m_tape, .int 2, .int 0, .int 0, .int 0, .int 0, .int 0, .int 0, .int 0, .ref m_ends, .ref m_letters, .ref m_actOf, .ref m_whom, .ref m_actMany, .ref m_tokens, .ref m_afters, .ref m_afterOf, .int 0, .ref m_pile, .ref m_caseMany, .ref m_happen, .ref m_hasIf, .ref m_becomes, .ref m_goneOf, .ref m_heard, .ref m_pairs, .ref m_heaps, .int 0, .int 0, .ref m_led, .ref m_newAt, .ref m_knowing, .ref m_firsts, .int 0, .ref m_secrets, .ref m_tried, .ref m_lanes, .ref m_lengths, .ref m_cells])), (m_tape, .inl (E.2.1 1, 160, .inl f_8))]) C fp_X12_154 0 rfl rfl rfl rfl rfl dX12_feed_47 ?_
  refine ww_iinc (j := 0) (v := 40) (lv' := [(3, .int 40), (0, .ref hm), (1, .long p0)]) C dX12_feed_50 rfl rfl rfl rfl ?_
  refine ww_goto (tgt := 19) C dX12_feed_53 (by decide) ?_
  refine ww_iload_n C dX12_feed_19 0 rfl rfl ?_
  refine ww_if_lt_f (tgt := 56) C dX12_feed_20 (by decide) (by decide) ?_
  refine ww_aload_n C dX12_feed_23 1 rfl rfl ?_
  refine ww_get C fg_X12_22 0 rfl rfl dX12_feed_24 ?_
  refine ww_aload_n C dX12_feed_27 1 rfl rfl ?_
  refine ww_get C fg_X12_154 0 rfl rfl dX12_feed_28 ?_
  refine ww_lload_n C dX12_feed_31 2 rfl rfl ?_
  refine ww_iload_n C dX12_feed_32 0 rfl rfl ?_
  obtain ⟨l_9, el_9⟩ : ∃ z : Int64, p0 >>> ((40 : Int32).toInt64 &&& 63) = z := ⟨_, rfl⟩
  refine ww_lshr C dX12_feed_33 el_9 ?_
  obtain ⟨x_10, ex_10⟩ : ∃ z : Int32, l_9.toInt32 = z := ⟨_, rfl⟩
  refine ww_l2i (v := x_10) C dX12_feed_34 ex_10 ?_
  refine ww_sipush (v := 255) C dX12_feed_35 rfl ?_
  obtain ⟨x_11, ex_11⟩ : ∃ z : Int32, x_10 &&& (255 : Int32) = z := ⟨_, rfl⟩
  refine ww_iand (v := x_11) C dX12_feed_38 ex_11 ?_
  obtain ⟨f_12, ef_12⟩ : ∃ z : Nat → Int32, upd f_8 2 x_11 = z := ⟨_, rfl⟩
  refine ww_iast (ws' := [(hm, .inr (12, [.ref m_manys, .ref m_reals, .ref m_factsOf, .ref m_possible, .int 0, .int 0, .ref m_tape, .int 2, .int 0, .int 0, .int 0, .int 0, .int 0, .int 0, .int 0, .ref m_ends, .ref m_letters, .ref m_actOf, .ref m_whom, .ref m_actMany, .ref m_tokens, .ref m_afters, .ref m_afterOf, .int 0, .ref m_pile, .ref m_caseMany, .ref m_happen, .ref m_hasIf, .ref m_becomes, .ref m_goneOf, .ref m_heard, .ref m_pairs, .ref m_heaps, .int 0, .int 0, .ref m_led, .ref m_newAt, .ref m_knowing, .ref m_firsts, .int 0, .ref m_secrets, .ref m_tried, .ref m_lanes, .ref m_lengths, .ref m_cells])), (m_tape, .inl (E.2.1 1, 160, .inl f_12))]) C 1 rfl (vin rfl) ef_12 rfl dX12_feed_39 ?_
  refine ww_aload_n C dX12_feed_40 1 rfl rfl ?_
  refine ww_dup C dX12_feed_41 rfl ?_
  refine ww_get C fg_X12_154 0 rfl rfl dX12_feed_42 ?_
  refine ww_iconst (v := 1) C dX12_feed_45 rfl ?_
  refine ww_iadd (v := 3) C dX12_feed_46 (by decide) ?_
  refine ww_put (ws' := [(hm, .inr (12, [.ref m_manys, .ref m_reals, .ref m_factsOf, .ref m_possible, .int 0, .int 0, .ref m_tape, .int 3, .int 0, .int 0, .int 0, .int 0, .int 0, .int 0, .int 0, .ref m_ends, .ref m_letters, .ref m_actOf, .ref m_whom, .ref m_actMany, .ref m_tokens, .ref m_afters, .ref m_afterOf, .int 0, .ref m_pile, .ref m_caseMany, .ref m_happen, .ref m_hasIf, .ref m_becomes, .ref m_goneOf, .ref m_heard, .ref m_pairs, .ref m_heaps, .int 0, .int 0, .ref m_led, .ref m_newAt, .ref m_knowing, .ref m_firsts, .int 0, .ref m_secrets, .ref m_tried, .ref m_lanes, .ref m_lengths, .ref m_cells])), (m_tape, .inl (E.2.1 1, 160, .inl f_12))]) C fp_X12_154 0 rfl rfl rfl rfl rfl dX12_feed_47 ?_
  refine ww_iinc (j := 0) (v := 32) (lv' := [(3, .int 32), (0, .ref hm), (1, .long p0)]) C dX12_feed_50 rfl rfl rfl rfl ?_
  refine ww_goto (tgt := 19) C dX12_feed_53 (by decide) ?_
  refine ww_iload_n C dX12_feed_19 0 rfl rfl ?_
  refine ww_if_lt_f (tgt := 56) C dX12_feed_20 (by decide) (by decide) ?_
  refine ww_aload_n C dX12_feed_23 1 rfl rfl ?_
  refine ww_get C fg_X12_22 0 rfl rfl dX12_feed_24 ?_
  refine ww_aload_n C dX12_feed_27 1 rfl rfl ?_
  refine ww_get C fg_X12_154 0 rfl rfl dX12_feed_28 ?_
  refine ww_lload_n C dX12_feed_31 2 rfl rfl ?_
  refine ww_iload_n C dX12_feed_32 0 rfl rfl ?_
  obtain ⟨l_13, el_13⟩ : ∃ z : Int64, p0 >>> ((32 : Int32).toInt64 &&& 63) = z := ⟨_, rfl⟩
  refine ww_lshr C dX12_feed_33 el_13 ?_
  obtain ⟨x_14, ex_14⟩ : ∃ z : Int32, l_13.toInt32 = z := ⟨_, rfl⟩
  refine ww_l2i (v := x_14) C dX12_feed_34 ex_14 ?_
  refine ww_sipush (v := 255) C dX12_feed_35 rfl ?_
  obtain ⟨x_15, ex_15⟩ : ∃ z : Int32, x_14 &&& (255 : Int32) = z := ⟨_, rfl⟩
  refine ww_iand (v := x_15) C dX12_feed_38 ex_15 ?_
  obtain ⟨f_16, ef_16⟩ : ∃ z : Nat → Int32, upd f_12 3 x_15 = z := ⟨_, rfl⟩
  refine ww_iast (ws' := [(hm, .inr (12, [.ref m_manys, .ref m_reals, .ref m_factsOf, .ref m_possible, .int 0, .int 0, .ref m_tape, .int 3, .int 0, .int 0, .int 0, .int 0, .int 0, .int 0, .int 0, .ref m_ends, .ref m_letters, .ref m_actOf, .ref m_whom, .ref m_actMany, .ref m_tokens, .ref m_afters, .ref m_afterOf, .int 0, .ref m_pile, .ref m_caseMany, .ref m_happen, .ref m_hasIf, .ref m_becomes, .ref m_goneOf, .ref m_heard, .ref m_pairs, .ref m_heaps, .int 0, .int 0, .ref m_led, .ref m_newAt, .ref m_knowing, .ref m_firsts, .int 0, .ref m_secrets, .ref m_tried, .ref m_lanes, .ref m_lengths, .ref m_cells])), (m_tape, .inl (E.2.1 1, 160, .inl f_16))]) C 1 rfl (vin rfl) ef_16 rfl dX12_feed_39 ?_
  refine ww_aload_n C dX12_feed_40 1 rfl rfl ?_
  refine ww_dup C dX12_feed_41 rfl ?_
  refine ww_get C fg_X12_154 0 rfl rfl dX12_feed_42 ?_
  refine ww_iconst (v := 1) C dX12_feed_45 rfl ?_
  refine ww_iadd (v := 4) C dX12_feed_46 (by decide) ?_
  refine ww_put (ws' := [(hm, .inr (12, [.ref m_manys, .ref m_reals, .ref m_factsOf, .ref m_possible, .int 0, .int 0, .ref m_tape, .int 4, .int 0, .int 0, .int 0, .int 0, .int 0, .int 0, .int 0, .ref m_ends, .ref m_letters, .ref m_actOf, .ref m_whom, .ref m_actMany, .ref m_tokens, .ref m_afters, .ref m_afterOf, .int 0, .ref m_pile, .ref m_caseMany, .ref m_happen, .ref m_hasIf, .ref m_becomes, .ref m_goneOf, .ref m_heard, .ref m_pairs, .ref m_heaps, .int 0, .int 0, .ref m_led, .ref m_newAt, .ref m_knowing, .ref m_firsts, .int 0, .ref m_secrets, .ref m_tried, .ref m_lanes, .ref m_lengths, .ref m_cells])), (m_tape, .inl (E.2.1 1, 160, .inl f_16))]) C fp_X12_154 0 rfl rfl rfl rfl rfl dX12_feed_47 ?_
  refine ww_iinc (j := 0) (v := 24) (lv' := [(3, .int 24), (0, .ref hm), (1, .long p0)]) C dX12_feed_50 rfl rfl rfl rfl ?_
  refine ww_goto (tgt := 19) C dX12_feed_53 (by decide) ?_
  refine ww_iload_n C dX12_feed_19 0 rfl rfl ?_
  refine ww_if_lt_f (tgt := 56) C dX12_feed_20 (by decide) (by decide) ?_
  refine ww_aload_n C dX12_feed_23 1 rfl rfl ?_
  refine ww_get C fg_X12_22 0 rfl rfl dX12_feed_24 ?_
  refine ww_aload_n C dX12_feed_27 1 rfl rfl ?_
  refine ww_get C fg_X12_154 0 rfl rfl dX12_feed_28 ?_
  refine ww_lload_n C dX12_feed_31 2 rfl rfl ?_
  refine ww_iload_n C dX12_feed_32 0 rfl rfl ?_
  obtain ⟨l_17, el_17⟩ : ∃ z : Int64, p0 >>> ((24 : Int32).toInt64 &&& 63) = z := ⟨_, rfl⟩
  refine ww_lshr C dX12_feed_33 el_17 ?_
  obtain ⟨x_18, ex_18⟩ : ∃ z : Int32, l_17.toInt32 = z := ⟨_, rfl⟩
  refine ww_l2i (v := x_18) C dX12_feed_34 ex_18 ?_
  refine ww_sipush (v := 255) C dX12_feed_35 rfl ?_
  obtain ⟨x_19, ex_19⟩ : ∃ z : Int32, x_18 &&& (255 : Int32) = z := ⟨_, rfl⟩
  refine ww_iand (v := x_19) C dX12_feed_38 ex_19 ?_
  obtain ⟨f_20, ef_20⟩ : ∃ z : Nat → Int32, upd f_16 4 x_19 = z := ⟨_, rfl⟩
  refine ww_iast (ws' := [(hm, .inr (12, [.ref m_manys, .ref m_reals, .ref m_factsOf, .ref m_possible, .int 0, .int 0, .ref m_tape, .int 4, .int 0, .int 0, .int 0, .int 0, .int 0, .int 0, .int 0, .ref m_ends, .ref m_letters, .ref m_actOf, .ref m_whom, .ref m_actMany, .ref m_tokens, .ref m_afters, .ref m_afterOf, .int 0, .ref m_pile, .ref m_caseMany, .ref m_happen, .ref m_hasIf, .ref m_becomes, .ref m_goneOf, .ref m_heard, .ref m_pairs, .ref m_heaps, .int 0, .int 0, .ref m_led, .ref m_newAt, .ref m_knowing, .ref m_firsts, .int 0, .ref m_secrets, .ref m_tried, .ref m_lanes, .ref m_lengths, .ref m_cells])), (m_tape, .inl (E.2.1 1, 160, .inl f_20))]) C 1 rfl (vin rfl) ef_20 rfl dX12_feed_39 ?_
  refine ww_aload_n C dX12_feed_40 1 rfl rfl ?_
  refine ww_dup C dX12_feed_41 rfl ?_
  refine ww_get C fg_X12_154 0 rfl rfl dX12_feed_42 ?_
  refine ww_iconst (v := 1) C dX12_feed_45 rfl ?_
  refine ww_iadd (v := 5) C dX12_feed_46 (by decide) ?_
  refine ww_put (ws' := [(hm, .inr (12, [.ref m_manys, .ref m_reals, .ref m_factsOf, .ref m_possible, .int 0, .int 0, .ref m_tape, .int 5, .int 0, .int 0, .int 0, .int 0, .int 0, .int 0, .int 0, .ref m_ends, .ref m_letters, .ref m_actOf, .ref m_whom, .ref m_actMany, .ref m_tokens, .ref m_afters, .ref m_afterOf, .int 0, .ref m_pile, .ref m_caseMany, .ref m_happen, .ref m_hasIf, .ref m_becomes, .ref m_goneOf, .ref m_heard, .ref m_pairs, .ref m_heaps, .int 0, .int 0, .ref m_led, .ref m_newAt, .ref m_knowing, .ref m_firsts, .int 0, .ref m_secrets, .ref m_tried, .ref m_lanes, .ref m_lengths, .ref m_cells])), (m_tape, .inl (E.2.1 1, 160, .inl f_20))]) C fp_X12_154 0 rfl rfl rfl rfl rfl dX12_feed_47 ?_
  refine ww_iinc (j := 0) (v := 16) (lv' := [(3, .int 16), (0, .ref hm), (1, .long p0)]) C dX12_feed_50 rfl rfl rfl rfl ?_
  refine ww_goto (tgt := 19) C dX12_feed_53 (by decide) ?_
  refine ww_iload_n C dX12_feed_19 0 rfl rfl ?_
  refine ww_if_lt_f (tgt := 56) C dX12_feed_20 (by decide) (by decide) ?_
  refine ww_aload_n C dX12_feed_23 1 rfl rfl ?_
  refine ww_get C fg_X12_22 0 rfl rfl dX12_feed_24 ?_
  refine ww_aload_n C dX12_feed_27 1 rfl rfl ?_
  refine ww_get C fg_X12_154 0 rfl rfl dX12_feed_28 ?_
  refine ww_lload_n C dX12_feed_31 2 rfl rfl ?_
  refine ww_iload_n C dX12_feed_32 0 rfl rfl ?_
  obtain ⟨l_21, el_21⟩ : ∃ z : Int64, p0 >>> ((16 : Int32).toInt64 &&& 63) = z := ⟨_, rfl⟩
  refine ww_lshr C dX12_feed_33 el_21 ?_
  obtain ⟨x_22, ex_22⟩ : ∃ z : Int32, l_21.toInt32 = z := ⟨_, rfl⟩
  refine ww_l2i (v := x_22) C dX12_feed_34 ex_22 ?_
  refine ww_sipush (v := 255) C dX12_feed_35 rfl ?_
  obtain ⟨x_23, ex_23⟩ : ∃ z : Int32, x_22 &&& (255 : Int32) = z := ⟨_, rfl⟩
  refine ww_iand (v := x_23) C dX12_feed_38 ex_23 ?_
  obtain ⟨f_24, ef_24⟩ : ∃ z : Nat → Int32, upd f_20 5 x_23 = z := ⟨_, rfl⟩
  refine ww_iast (ws' := [(hm, .inr (12, [.ref m_manys, .ref m_reals, .ref m_factsOf, .ref m_possible, .int 0, .int 0, .ref m_tape, .int 5, .int 0, .int 0, .int 0, .int 0, .int 0, .int 0, .int 0, .ref m_ends, .ref m_letters, .ref m_actOf, .ref m_whom, .ref m_actMany, .ref m_tokens, .ref m_afters, .ref m_afterOf, .int 0, .ref m_pile, .ref m_caseMany, .ref m_happen, .ref m_hasIf, .ref m_becomes, .ref m_goneOf, .ref m_heard, .ref m_pairs, .ref m_heaps, .int 0, .int 0, .ref m_led, .ref m_newAt, .ref m_knowing, .ref m_firsts, .int 0, .ref m_secrets, .ref m_tried, .ref m_lanes, .ref m_lengths, .ref m_cells])), (m_tape, .inl (E.2.1 1, 160, .inl f_24))]) C 1 rfl (vin rfl) ef_24 rfl dX12_feed_39 ?_
  refine ww_aload_n C dX12_feed_40 1 rfl rfl ?_
  refine ww_dup C dX12_feed_41 rfl ?_
  refine ww_get C fg_X12_154 0 rfl rfl dX12_feed_42 ?_
  refine ww_iconst (v := 1) C dX12_feed_45 rfl ?_
  refine ww_iadd (v := 6) C dX12_feed_46 (by decide) ?_
  refine ww_put (ws' := [(hm, .inr (12, [.ref m_manys, .ref m_reals, .ref m_factsOf, .ref m_possible, .int 0, .int 0, .ref m_tape, .int 6, .int 0, .int 0, .int 0, .int 0, .int 0, .int 0, .int 0, .ref m_ends, .ref m_letters, .ref m_actOf, .ref m_whom, .ref m_actMany, .ref m_tokens, .ref m_afters, .ref m_afterOf, .int 0, .ref m_pile, .ref m_caseMany, .ref m_happen, .ref m_hasIf, .ref m_becomes, .ref m_goneOf, .ref m_heard, .ref m_pairs, .ref m_heaps, .int 0, .int 0, .ref m_led, .ref m_newAt, .ref m_knowing, .ref m_firsts, .int 0, .ref m_secrets, .ref m_tried, .ref m_lanes, .ref m_lengths, .ref m_cells])), (m_tape, .inl (E.2.1 1, 160, .inl f_24))]) C fp_X12_154 0 rfl rfl rfl rfl rfl dX12_feed_47 ?_
  refine ww_iinc (j := 0) (v := 8) (lv' := [(3, .int 8), (0, .ref hm), (1, .long p0)]) C dX12_feed_50 rfl rfl rfl rfl ?_
  refine ww_goto (tgt := 19) C dX12_feed_53 (by decide) ?_
  refine ww_iload_n C dX12_feed_19 0 rfl rfl ?_
  refine ww_if_lt_f (tgt := 56) C dX12_feed_20 (by decide) (by decide) ?_
  refine ww_aload_n C dX12_feed_23 1 rfl rfl ?_
  refine ww_get C fg_X12_22 0 rfl rfl dX12_feed_24 ?_
  refine ww_aload_n C dX12_feed_27 1 rfl rfl ?_
  refine ww_get C fg_X12_154 0 rfl rfl dX12_feed_28 ?_
  refine ww_lload_n C dX12_feed_31 2 rfl rfl ?_
  refine ww_iload_n C dX12_feed_32 0 rfl rfl ?_
  obtain ⟨l_25, el_25⟩ : ∃ z : Int64, p0 >>> ((8 : Int32).toInt64 &&& 63) = z := ⟨_, rfl⟩
  refine ww_lshr C dX12_feed_33 el_25 ?_
  obtain ⟨x_26, ex_26⟩ : ∃ z : Int32, l_25.toInt32 = z := ⟨_, rfl⟩
  refine ww_l2i (v := x_26) C dX12_feed_34 ex_26 ?_
  refine ww_sipush (v := 255) C dX12_feed_35 rfl ?_
  obtain ⟨x_27, ex_27⟩ : ∃ z : Int32, x_26 &&& (255 : Int32) = z := ⟨_, rfl⟩
  refine ww_iand (v := x_27) C dX12_feed_38 ex_27 ?_
  obtain ⟨f_28, ef_28⟩ : ∃ z : Nat → Int32, upd f_24 6 x_27 = z := ⟨_, rfl⟩
  refine ww_iast (ws' := [(hm, .inr (12, [.ref m_manys, .ref m_reals, .ref m_factsOf, .ref m_possible, .int 0, .int 0, .ref m_tape, .int 6, .int 0, .int 0, .int 0, .int 0, .int 0, .int 0, .int 0, .ref m_ends, .ref m_letters, .ref m_actOf, .ref m_whom, .ref m_actMany, .ref m_tokens, .ref m_afters, .ref m_afterOf, .int 0, .ref m_pile, .ref m_caseMany, .ref m_happen, .ref m_hasIf, .ref m_becomes, .ref m_goneOf, .ref m_heard, .ref m_pairs, .ref m_heaps, .int 0, .int 0, .ref m_led, .ref m_newAt, .ref m_knowing, .ref m_firsts, .int 0, .ref m_secrets, .ref m_tried, .ref m_lanes, .ref m_lengths, .ref m_cells])), (m_tape, .inl (E.2.1 1, 160, .inl f_28))]) C 1 rfl (vin rfl) ef_28 rfl dX12_feed_39 ?_
  refine ww_aload_n C dX12_feed_40 1 rfl rfl ?_
  refine ww_dup C dX12_feed_41 rfl ?_
  refine ww_get C fg_X12_154 0 rfl rfl dX12_feed_42 ?_
  refine ww_iconst (v := 1) C dX12_feed_45 rfl ?_
  refine ww_iadd (v := 7) C dX12_feed_46 (by decide) ?_
  refine ww_put (ws' := [(hm, .inr (12, [.ref m_manys, .ref m_reals, .ref m_factsOf, .ref m_possible, .int 0, .int 0, .ref m_tape, .int 7, .int 0, .int 0, .int 0, .int 0, .int 0, .int 0, .int 0, .ref m_ends, .ref m_letters, .ref m_actOf, .ref m_whom, .ref m_actMany, .ref m_tokens, .ref m_afters, .ref m_afterOf, .int 0, .ref m_pile, .ref m_caseMany, .ref m_happen, .ref m_hasIf, .ref m_becomes, .ref m_goneOf, .ref m_heard, .ref m_pairs, .ref m_heaps, .int 0, .int 0, .ref m_led, .ref m_newAt, .ref m_knowing, .ref m_firsts, .int 0, .ref m_secrets, .ref m_tried, .ref m_lanes, .ref m_lengths, .ref m_cells])), (m_tape, .inl (E.2.1 1, 160, .inl f_28))]) C fp_X12_154 0 rfl rfl rfl rfl rfl dX12_feed_47 ?_
  refine ww_iinc (j := 0) (v := 0) (lv' := [(3, .int 0), (0, .ref hm), (1, .long p0)]) C dX12_feed_50 rfl rfl rfl rfl ?_
  refine ww_goto (tgt := 19) C dX12_feed_53 (by decide) ?_
  refine ww_iload_n C dX12_feed_19 0 rfl rfl ?_
  refine ww_if_lt_f (tgt := 56) C dX12_feed_20 (by decide) (by decide) ?_
  refine ww_aload_n C dX12_feed_23 1 rfl rfl ?_
  refine ww_get C fg_X12_22 0 rfl rfl dX12_feed_24 ?_
  refine ww_aload_n C dX12_feed_27 1 rfl rfl ?_
  refine ww_get C fg_X12_154 0 rfl rfl dX12_feed_28 ?_
  refine ww_lload_n C dX12_feed_31 2 rfl rfl ?_
  refine ww_iload_n C dX12_feed_32 0 rfl rfl ?_
  obtain ⟨l_29, el_29⟩ : ∃ z : Int64, p0 >>> ((0 : Int32).toInt64 &&& 63) = z := ⟨_, rfl⟩
  refine ww_lshr C dX12_feed_33 el_29 ?_
  obtain ⟨x_30, ex_30⟩ : ∃ z : Int32, l_29.toInt32 = z := ⟨_, rfl⟩
  refine ww_l2i (v := x_30) C dX12_feed_34 ex_30 ?_
  refine ww_sipush (v := 255) C dX12_feed_35 rfl ?_
  obtain ⟨x_31, ex_31⟩ : ∃ z : Int32, x_30 &&& (255 : Int32) = z := ⟨_, rfl⟩
  refine ww_iand (v := x_31) C dX12_feed_38 ex_31 ?_
  obtain ⟨f_32, ef_32⟩ : ∃ z : Nat → Int32, upd f_28 7 x_31 = z := ⟨_, rfl⟩
  refine ww_iast (ws' := [(hm, .inr (12, [.ref m_manys, .ref m_reals, .ref m_factsOf, .ref m_possible, .int 0, .int 0, .ref m_tape, .int 7, .int 0, .int 0, .int 0, .int 0, .int 0, .int 0, .int 0, .ref m_ends, .ref m_letters, .ref m_actOf, .ref m_whom, .ref m_actMany, .ref m_tokens, .ref m_afters, .ref m_afterOf, .int 0, .ref m_pile, .ref m_caseMany, .ref m_happen, .ref m_hasIf, .ref m_becomes, .ref m_goneOf, .ref m_heard, .ref m_pairs, .ref m_heaps, .int 0, .int 0, .ref m_led, .ref m_newAt, .ref m_knowing, .ref m_firsts, .int 0, .ref m_secrets, .ref m_tried, .ref m_lanes, .ref m_lengths, .ref m_cells])), (m_tape, .inl (E.2.1 1, 160, .inl f_32))]) C 1 rfl (vin rfl) ef_32 rfl dX12_feed_39 ?_
  refine ww_aload_n C dX12_feed_40 1 rfl rfl ?_
  refine ww_dup C dX12_feed_41 rfl ?_
  refine ww_get C fg_X12_154 0 rfl rfl dX12_feed_42 ?_
  refine ww_iconst (v := 1) C dX12_feed_45 rfl ?_
  refine ww_iadd (v := 8) C dX12_feed_46 (by decide) ?_
  refine ww_put (ws' := [(hm, .inr (12, [.ref m_manys, .ref m_reals, .ref m_factsOf, .ref m_possible, .int 0, .int 0, .ref m_tape, .int 8, .int 0, .int 0, .int 0, .int 0, .int 0, .int 0, .int 0, .ref m_ends, .ref m_letters, .ref m_actOf, .ref m_whom, .ref m_actMany, .ref m_tokens, .ref m_afters, .ref m_afterOf, .int 0, .ref m_pile, .ref m_caseMany, .ref m_happen, .ref m_hasIf, .ref m_becomes, .ref m_goneOf, .ref m_heard, .ref m_pairs, .ref m_heaps, .int 0, .int 0, .ref m_led, .ref m_newAt, .ref m_knowing, .ref m_firsts, .int 0, .ref m_secrets, .ref m_tried, .ref m_lanes, .ref m_lengths, .ref m_cells])), (m_tape, .inl (E.2.1 1, 160, .inl f_32))]) C fp_X12_154 0 rfl rfl rfl rfl rfl dX12_feed_47 ?_
  refine ww_iinc (j := 0) (v := (-8)) (lv' := [(3, .int (-8)), (0, .ref hm), (1, .long p0)]) C dX12_feed_50 rfl rfl rfl rfl ?_
  refine ww_goto (tgt := 19) C dX12_feed_53 (by decide) ?_
  refine ww_iload_n C dX12_feed_19 0 rfl rfl ?_
  refine ww_if_lt_t (tgt := 56) C dX12_feed_20 (by decide) (by decide) ?_
  refine ww_aload_n C dX12_feed_56 1 rfl rfl ?_
  refine ww_get C fg_X12_154 0 rfl rfl dX12_feed_57 ?_
  exact ww_iret (u := []) C hT [] rfl rfl rfl rfl dX12_feed_60 (⟨rfl, rfl⟩)
theorem dX12_end_0 : decode cX12_end 0 = .ok (.iload_n 1, 1) := by decide +kernel
theorem dX12_end_1 : decode cX12_end 1 = .ok (.i2l, 1) := by decide +kernel
theorem dX12_end_2 : decode cX12_end 2 = .ok (.lconst 0, 1) := by decide +kernel
theorem dX12_end_3 : decode cX12_end 3 = .ok (.aload_n 0, 1) := by decide +kernel
theorem dX12_end_4 : decode cX12_end 4 = .ok (.getfield 154, 3) := by decide +kernel
theorem dX12_end_7 : decode cX12_end 7 = .ok (.i2l, 1) := by decide +kernel
theorem dX12_end_8 : decode cX12_end 8 = .ok (.invokestatic 115, 3) := by decide +kernel
theorem dX12_end_11 : decode cX12_end 11 = .ok (.ifCond .ne 5, 3) := by decide +kernel
theorem dX12_end_16 : decode cX12_end 16 = .ok (.aload_n 0, 1) := by decide +kernel
theorem dX12_end_17 : decode cX12_end 17 = .ok (.getfield 154, 3) := by decide +kernel
theorem dX12_end_20 : decode cX12_end 20 = .ok (.istore_n 2, 1) := by decide +kernel
theorem dX12_end_21 : decode cX12_end 21 = .ok (.aload_n 0, 1) := by decide +kernel
theorem dX12_end_22 : decode cX12_end 22 = .ok (.iload_n 1, 1) := by decide +kernel
theorem dX12_end_23 : decode cX12_end 23 = .ok (.putfield 154, 3) := by decide +kernel
theorem dX12_end_26 : decode cX12_end 26 = .ok (.iload_n 2, 1) := by decide +kernel
theorem dX12_end_27 : decode cX12_end 27 = .ok (.ireturn, 1) := by decide +kernel
theorem dX12_end_14 : decode cX12_end 14 = .ok (.iconst (-1), 1) := by decide +kernel
theorem dX12_end_15 : decode cX12_end 15 = .ok (.ireturn, 1) := by decide +kernel
set_option maxRecDepth 100000 in
set_option maxHeartbeats 4000000 in
theorem y_end (l : Launch) (E : EV) (hm : Nat) (p0 : Int32) (m_manys : Nat) (m_reals : Nat) (m_factsOf : Nat) (m_possible : Nat) (m_tape : Nat) (m_ends : Nat) (m_letters : Nat) (m_actOf : Nat) (m_whom : Nat) (m_actMany : Nat) (m_tokens : Nat) (m_afters : Nat) (m_afterOf : Nat) (m_pile : Nat) (m_caseMany : Nat) (m_happen : Nat) (m_hasIf : Nat) (m_becomes : Nat) (m_goneOf : Nat) (m_heard : Nat) (m_pairs : Nat) (m_heaps : Nat) (m_led : Nat) (m_newAt : Nat) (m_knowing : Nat) (m_firsts : Nat) (m_secrets : Nat) (m_tried : Nat) (m_lanes : Nat) (m_lengths : Nat) (m_cells : Nat)  : CT l yX12_end (Cond.code yX12_end cX12_end 3 (some .int) :: TB) ({ frames := 1, cells := 0, slots := 0, locals := 25 }) E [.ref hm, .int p0] [(hm, .inr (12, [.ref m_manys, .ref m_reals, .ref m_factsOf, .ref m_possible, .int 0, .int 0, .ref m_tape, .int 0, .int 0, .int 0, .int 0, .int 0, .int 0, .int 0, .int 0, .ref m_ends, .ref m_letters, .ref m_actOf, .ref m_whom, .ref m_actMany, .ref m_tokens, .ref m_afters, .ref m_afterOf, .int 0, .ref m_pile, .ref m_caseMany, .ref m_happen, .ref m_hasIf, .ref m_becomes, .ref m_goneOf, .ref m_heard, .ref m_pairs, .ref m_heaps, .int 0, .int 0, .ref m_led, .ref m_newAt, .ref m_knowing, .ref m_firsts, .int 0, .ref m_secrets, .ref m_tried, .ref m_lanes, .ref m_lengths, .ref m_cells]))] (Qi E (fun (r : Int32) u => (r = 0 ∧ u = [] ∧ (p0.toInt = 0)) ∨ (r = (-1) ∧ u = [] ∧ (p0.toInt < 0 ∨ 0 < p0.toInt)))) 0 0 := by
  refine ct_of rfl rfl ?_
  intro X C hT hin
  show WW X 3 E 0 [(0, .ref hm), (1, .int p0)] [] [(hm, .inr (12, [.ref m_manys, .ref m_reals, .ref m_factsOf, .ref m_possible, .int 0, .int 0, .ref m_tape, .int 0, .int 0, .int 0, .int 0, .int 0, .int 0, .int 0, .int 0, .ref m_ends, .ref m_letters, .ref m_actOf, .ref m_whom, .ref m_actMany, .ref m_tokens, .ref m_afters, .ref m_afterOf, .int 0, .ref m_pile, .ref m_caseMany, .ref m_happen, .ref m_hasIf, .ref m_becomes, .ref m_goneOf, .ref m_heard, .ref m_pairs, .ref m_heaps, .int 0, .int 0, .ref m_led, .ref m_newAt, .ref m_knowing, .ref m_firsts, .int 0, .ref m_secrets, .ref m_tried, .ref m_lanes, .ref m_lengths, .ref m_cells]))] 0 0
  refine ww_iload_n C dX12_end_0 1 rfl rfl ?_
  refine ww_i2l (v := p0.toInt64) C dX12_end_1 rfl ?_
  refine ww_lconst (v := 0) C dX12_end_2 rfl ?_
  refine ww_aload_n C dX12_end_3 0 rfl rfl ?_
  refine ww_get C fg_X12_154 0 rfl rfl dX12_end_4 ?_
  refine ww_i2l (v := 0) C dX12_end_7 rfl ?_
  refine ww_ci (wr := [(hm, .inr (12, [.ref m_manys, .ref m_reals, .ref m_factsOf, .ref m_possible, .int 0, .int 0, .ref m_tape, .int 0, .int 0, .int 0, .int 0, .int 0, .int 0, .int 0, .int 0, .ref m_ends, .ref m_letters, .ref m_actOf, .ref m_whom, .ref m_actMany, .ref m_tokens, .ref m_afters, .ref m_afterOf, .int 0, .ref m_pile, .ref m_caseMany, .ref m_happen, .ref m_hasIf, .ref m_becomes, .ref m_goneOf, .ref m_heard, .ref m_pairs, .ref m_heaps, .int 0, .int 0, .ref m_led, .ref m_newAt, .ref m_knowing, .ref m_firsts, .int 0, .ref m_secrets, .ref m_tried, .ref m_lanes, .ref m_lengths, .ref m_cells]))]) (k' := 0) (n' := 0) C (run_S (As := [.long p0.toInt64, .long 0, .long 0]) (rest := []) C (r_in X.2.1 E p0.toInt64 0 0 p0.toInt 0 0 (Int32.toInt_toInt64 _) rfl rfl) ms_X12_in wl_X12_115 rfl rfl rfl rfl dX12_end_8) [] [0] rfl rfl rfl rfl (fun r u hw => ?_)
  rcases hw with ⟨rfl, rfl, h_1, h_2⟩ | ⟨rfl, rfl, h_3⟩
  · refine ww_eq (ws' := [(hm, .inr (12, [.ref m_manys, .ref m_reals, .ref m_factsOf, .ref m_possible, .int 0, .int 0, .ref m_tape, .int 0, .int 0, .int 0, .int 0, .int 0, .int 0, .int 0, .int 0, .ref m_ends, .ref m_letters, .ref m_actOf, .ref m_whom, .ref m_actMany, .ref m_tokens, .ref m_afters, .ref m_afterOf, .int 0, .ref m_pile, .ref m_caseMany, .ref m_happen, .ref m_hasIf, .ref m_becomes, .ref m_goneOf, .ref m_heard, .ref m_pairs, .ref m_heaps, .int 0, .int 0, .ref m_led, .ref m_newAt, .ref m_knowing, .ref m_firsts, .int 0, .ref m_secrets, .ref m_tried, .ref m_lanes, .ref m_lengths, .ref m_cells]))]) ?_ rfl rfl rfl
    refine ww_if_ne_t (tgt := 16) C dX12_end_11 (by decide) (by decide) ?_
    refine ww_aload_n C dX12_end_16 0 rfl rfl ?_
    refine ww_get C fg_X12_154 0 rfl rfl dX12_end_17 ?_
    refine ww_istore_n (lv' := [(2, .int 0), (0, .ref hm), (1, .int p0)]) C dX12_end_20 rfl rfl rfl ?_
    refine ww_aload_n C dX12_end_21 1 rfl rfl ?_
    refine ww_iload_n C dX12_end_22 2 rfl rfl ?_
    refine ww_put (ws' := [(hm, .inr (12, [.ref m_manys, .ref m_reals, .ref m_factsOf, .ref m_possible, .int 0, .int 0, .ref m_tape, .int p0, .int 0, .int 0, .int 0, .int 0, .int 0, .int 0, .int 0, .ref m_ends, .ref m_letters, .ref m_actOf, .ref m_whom, .ref m_actMany, .ref m_tokens, .ref m_afters, .ref m_afterOf, .int 0, .ref m_pile, .ref m_caseMany, .ref m_happen, .ref m_hasIf, .ref m_becomes, .ref m_goneOf, .ref m_heard, .ref m_pairs, .ref m_heaps, .int 0, .int 0, .ref m_led, .ref m_newAt, .ref m_knowing, .ref m_firsts, .int 0, .ref m_secrets, .ref m_tried, .ref m_lanes, .ref m_lengths, .ref m_cells]))]) C fp_X12_154 0 rfl rfl rfl rfl rfl dX12_end_23 ?_
    refine ww_iload_n C dX12_end_26 0 rfl rfl ?_
    exact ww_iret (u := []) C hT [] rfl rfl rfl rfl dX12_end_27 (Or.inl ⟨rfl, rfl, (by first | assumption | omega | decide)⟩)
  · refine ww_eq (ws' := [(hm, .inr (12, [.ref m_manys, .ref m_reals, .ref m_factsOf, .ref m_possible, .int 0, .int 0, .ref m_tape, .int 0, .int 0, .int 0, .int 0, .int 0, .int 0, .int 0, .int 0, .ref m_ends, .ref m_letters, .ref m_actOf, .ref m_whom, .ref m_actMany, .ref m_tokens, .ref m_afters, .ref m_afterOf, .int 0, .ref m_pile, .ref m_caseMany, .ref m_happen, .ref m_hasIf, .ref m_becomes, .ref m_goneOf, .ref m_heard, .ref m_pairs, .ref m_heaps, .int 0, .int 0, .ref m_led, .ref m_newAt, .ref m_knowing, .ref m_firsts, .int 0, .ref m_secrets, .ref m_tried, .ref m_lanes, .ref m_lengths, .ref m_cells]))]) ?_ rfl rfl rfl
    refine ww_if_ne_f (tgt := 16) C dX12_end_11 (by decide) (rfl) ?_
    refine ww_iconst (v := (-1)) C dX12_end_14 rfl ?_
    exact ww_iret (u := []) C hT [] rfl rfl rfl rfl dX12_end_15 (Or.inr ⟨rfl, rfl, (by first | assumption | omega | decide)⟩)
theorem dX12_byteAt_0 : decode cX12_byteAt 0 = .ok (.iload_n 1, 1) := by decide +kernel
theorem dX12_byteAt_1 : decode cX12_byteAt 1 = .ok (.aload_n 0, 1) := by decide +kernel
theorem dX12_byteAt_2 : decode cX12_byteAt 2 = .ok (.getfield 154, 3) := by decide +kernel
theorem dX12_byteAt_5 : decode cX12_byteAt 5 = .ok (.if_icmp .ge 12, 3) := by decide +kernel
theorem dX12_byteAt_17 : decode cX12_byteAt 17 = .ok (.bipush (-4), 2) := by decide +kernel
theorem dX12_byteAt_19 : decode cX12_byteAt 19 = .ok (.ireturn, 1) := by decide +kernel
set_option maxRecDepth 100000 in
set_option maxHeartbeats 4000000 in
theorem r_byteAt (l : Launch) (E : EV) (hm : Nat) (m_manys : Nat) (m_reals : Nat) (m_factsOf : Nat) (m_possible : Nat) (m_tape : Nat) (m_ends : Nat) (m_letters : Nat) (m_actOf : Nat) (m_whom : Nat) (m_actMany : Nat) (m_tokens : Nat) (m_afters : Nat) (m_afterOf : Nat) (m_pile : Nat) (m_caseMany : Nat) (m_happen : Nat) (m_hasIf : Nat) (m_becomes : Nat) (m_goneOf : Nat) (m_heard : Nat) (m_pairs : Nat) (m_heaps : Nat) (m_led : Nat) (m_newAt : Nat) (m_knowing : Nat) (m_firsts : Nat) (m_secrets : Nat) (m_tried : Nat) (m_lanes : Nat) (m_lengths : Nat) (m_cells : Nat)  : CT l yX12_byteAt (Cond.code yX12_byteAt cX12_byteAt 2 (some .int) :: TB) ({ frames := 0, cells := 0, slots := 0, locals := 0 }) E [.ref hm, .int 0] [(hm, .inr (12, [.ref m_manys, .ref m_reals, .ref m_factsOf, .ref m_possible, .int 0, .int 0, .ref m_tape, .int 0, .int 0, .int 0, .int 0, .int 0, .int 0, .int 0, .int 0, .ref m_ends, .ref m_letters, .ref m_actOf, .ref m_whom, .ref m_actMany, .ref m_tokens, .ref m_afters, .ref m_afterOf, .int 0, .ref m_pile, .ref m_caseMany, .ref m_happen, .ref m_hasIf, .ref m_becomes, .ref m_goneOf, .ref m_heard, .ref m_pairs, .ref m_heaps, .int 0, .int 0, .ref m_led, .ref m_newAt, .ref m_knowing, .ref m_firsts, .int 0, .ref m_secrets, .ref m_tried, .ref m_lanes, .ref m_lengths, .ref m_cells]))] (Qi E (fun (r : Int32) u => (r = (-4) ∧ u = [(hm, .inr (12, [.ref m_manys, .ref m_reals, .ref m_factsOf, .ref m_possible, .int 0, .int 0, .ref m_tape, .int 0, .int 0, .int 0, .int 0, .int 0, .int 0, .int 0, .int 0, .ref m_ends, .ref m_letters, .ref m_actOf, .ref m_whom, .ref m_actMany, .ref m_tokens, .ref m_afters, .ref m_afterOf, .int 0, .ref m_pile, .ref m_caseMany, .ref m_happen, .ref m_hasIf, .ref m_becomes, .ref m_goneOf, .ref m_heard, .ref m_pairs, .ref m_heaps, .int 0, .int 0, .ref m_led, .ref m_newAt, .ref m_knowing, .ref m_firsts, .int 0, .ref m_secrets, .ref m_tried, .ref m_lanes, .ref m_lengths, .ref m_cells]))]))) 0 0 := by
  refine ct_of rfl rfl ?_
  intro X C hT hin
  show WW X 2 E 0 [(0, .ref hm), (1, .int 0)] [] [(hm, .inr (12, [.ref m_manys, .ref m_reals, .ref m_factsOf, .ref m_possible, .int 0, .int 0, .ref m_tape, .int 0, .int 0, .int 0, .int 0, .int 0, .int 0, .int 0, .int 0, .ref m_ends, .ref m_letters, .ref m_actOf, .ref m_whom, .ref m_actMany, .ref m_tokens, .ref m_afters, .ref m_afterOf, .int 0, .ref m_pile, .ref m_caseMany, .ref m_happen, .ref m_hasIf, .ref m_becomes, .ref m_goneOf, .ref m_heard, .ref m_pairs, .ref m_heaps, .int 0, .int 0, .ref m_led, .ref m_newAt, .ref m_knowing, .ref m_firsts, .int 0, .ref m_secrets, .ref m_tried, .ref m_lanes, .ref m_lengths, .ref m_cells]))] 0 0
  refine ww_iload_n C dX12_byteAt_0 1 rfl rfl ?_
  refine ww_aload_n C dX12_byteAt_1 0 rfl rfl ?_
  refine ww_get C fg_X12_154 0 rfl rfl dX12_byteAt_2 ?_
  refine ww_icmp_ge_t (tgt := 17) C dX12_byteAt_5 (by decide) (by decide) ?_
  refine ww_bipush (v := (-4)) C dX12_byteAt_17 rfl ?_
  exact ww_iret (u := [(hm, .inr (12, [.ref m_manys, .ref m_reals, .ref m_factsOf, .ref m_possible, .int 0, .int 0, .ref m_tape, .int 0, .int 0, .int 0, .int 0, .int 0, .int 0, .int 0, .int 0, .ref m_ends, .ref m_letters, .ref m_actOf, .ref m_whom, .ref m_actMany, .ref m_tokens, .ref m_afters, .ref m_afterOf, .int 0, .ref m_pile, .ref m_caseMany, .ref m_happen, .ref m_hasIf, .ref m_becomes, .ref m_goneOf, .ref m_heard, .ref m_pairs, .ref m_heaps, .int 0, .int 0, .ref m_led, .ref m_newAt, .ref m_knowing, .ref m_firsts, .int 0, .ref m_secrets, .ref m_tried, .ref m_lanes, .ref m_lengths, .ref m_cells]))]) C hT [0] rfl rfl rfl rfl dX12_byteAt_19 (⟨rfl, rfl⟩)
theorem dX12_fails_0 : decode cX12_fails 0 = .ok (.aload_n 0, 1) := by decide +kernel
theorem dX12_fails_1 : decode cX12_fails 1 = .ok (.getfield 157, 3) := by decide +kernel
theorem wf_X12_157 : Cond.fieldLink RX12 157 RX12 "wrong" "I" ∈ TB := tbm (tq5 (List.mem_of_getElem? (i := 87) (by decide +kernel))) (by decide +kernel)
theorem fg_X12_157 : FG RX12 157 12 9 := ⟨RX12, TX12, 45, uw_X12, wf_X12_157, rfl, by decide, rfl⟩
theorem dX12_fails_4 : decode cX12_fails 4 = .ok (.ifCond .ne 16, 3) := by decide +kernel
theorem dX12_fails_7 : decode cX12_fails 7 = .ok (.aload_n 0, 1) := by decide +kernel
theorem dX12_fails_8 : decode cX12_fails 8 = .ok (.iload_n 1, 1) := by decide +kernel
theorem dX12_fails_9 : decode cX12_fails 9 = .ok (.putfield 157, 3) := by decide +kernel
theorem fp_X12_157 : FP RX12 157 12 9 .int false := ⟨RX12, TX12, 45, tyX12, uw_X12, wf_X12_157, rfl, by decide, rfl, tyX12_ok, nmX12, rfl, by decide +kernel⟩
theorem dX12_fails_12 : decode cX12_fails 12 = .ok (.aload_n 0, 1) := by decide +kernel
theorem dX12_fails_13 : decode cX12_fails 13 = .ok (.aload_n 0, 1) := by decide +kernel
theorem dX12_fails_14 : decode cX12_fails 14 = .ok (.getfield 160, 3) := by decide +kernel
theorem wf_X12_160 : Cond.fieldLink RX12 160 RX12 "place" "I" ∈ TB := tbm (tq5 (List.mem_of_getElem? (i := 90) (by decide +kernel))) (by decide +kernel)
theorem fg_X12_160 : FG RX12 160 12 12 := ⟨RX12, TX12, 45, uw_X12, wf_X12_160, rfl, by decide, rfl⟩
theorem dX12_fails_17 : decode cX12_fails 17 = .ok (.putfield 163, 3) := by decide +kernel
theorem wf_X12_163 : Cond.fieldLink RX12 163 RX12 "wrongAt" "I" ∈ TB := tbm (tq5 (List.mem_of_getElem? (i := 88) (by decide +kernel))) (by decide +kernel)
theorem fp_X12_163 : FP RX12 163 12 10 .int false := ⟨RX12, TX12, 45, tyX12, uw_X12, wf_X12_163, rfl, by decide, rfl, tyX12_ok, nmX12, rfl, by decide +kernel⟩
theorem dX12_fails_20 : decode cX12_fails 20 = .ok (.return_, 1) := by decide +kernel
set_option maxRecDepth 100000 in
set_option maxHeartbeats 4000000 in
theorem r_fails (l : Launch) (E : EV) (hm : Nat) (m_manys : Nat) (m_reals : Nat) (m_factsOf : Nat) (m_possible : Nat) (m_tape : Nat) (m_ends : Nat) (m_letters : Nat) (m_actOf : Nat) (m_whom : Nat) (m_actMany : Nat) (m_tokens : Nat) (m_afters : Nat) (m_afterOf : Nat) (m_pile : Nat) (m_caseMany : Nat) (m_happen : Nat) (m_hasIf : Nat) (m_becomes : Nat) (m_goneOf : Nat) (m_heard : Nat) (m_pairs : Nat) (m_heaps : Nat) (m_led : Nat) (m_newAt : Nat) (m_knowing : Nat) (m_firsts : Nat) (m_secrets : Nat) (m_tried : Nat) (m_lanes : Nat) (m_lengths : Nat) (m_cells : Nat)  : CT l yX12_fails (Cond.code yX12_fails cX12_fails 2 none :: TB) ({ frames := 0, cells := 0, slots := 0, locals := 0 }) E [.ref hm, .int 2] [(hm, .inr (12, [.ref m_manys, .ref m_reals, .ref m_factsOf, .ref m_possible, .int 0, .int 0, .ref m_tape, .int 0, .int 0, .int 0, .int 0, .int 0, .int 0, .int 0, .int 0, .ref m_ends, .ref m_letters, .ref m_actOf, .ref m_whom, .ref m_actMany, .ref m_tokens, .ref m_afters, .ref m_afterOf, .int 1, .ref m_pile, .ref m_caseMany, .ref m_happen, .ref m_hasIf, .ref m_becomes, .ref m_goneOf, .ref m_heard, .ref m_pairs, .ref m_heaps, .int 0, .int 0, .ref m_led, .ref m_newAt, .ref m_knowing, .ref m_firsts, .int 0, .ref m_secrets, .ref m_tried, .ref m_lanes, .ref m_lengths, .ref m_cells]))] (Qv E (fun u => (u = [(hm, .inr (12, [.ref m_manys, .ref m_reals, .ref m_factsOf, .ref m_possible, .int 0, .int 0, .ref m_tape, .int 0, .int 0, .int 2, .int 0, .int 0, .int 0, .int 0, .int 0, .ref m_ends, .ref m_letters, .ref m_actOf, .ref m_whom, .ref m_actMany, .ref m_tokens, .ref m_afters, .ref m_afterOf, .int 1, .ref m_pile, .ref m_caseMany, .ref m_happen, .ref m_hasIf, .ref m_becomes, .ref m_goneOf, .ref m_heard, .ref m_pairs, .ref m_heaps, .int 0, .int 0, .ref m_led, .ref m_newAt, .ref m_knowing, .ref m_firsts, .int 0, .ref m_secrets, .ref m_tried, .ref m_lanes, .ref m_lengths, .ref m_cells]))]))) 0 0 := by
  refine ct_of rfl rfl ?_
  intro X C hT hin
  show WW X 2 E 0 [(0, .ref hm), (1, .int 2)] [] [(hm, .inr (12, [.ref m_manys, .ref m_reals, .ref m_factsOf, .ref m_possible, .int 0, .int 0, .ref m_tape, .int 0, .int 0, .int 0, .int 0, .int 0, .int 0, .int 0, .int 0, .ref m_ends, .ref m_letters, .ref m_actOf, .ref m_whom, .ref m_actMany, .ref m_tokens, .ref m_afters, .ref m_afterOf, .int 1, .ref m_pile, .ref m_caseMany, .ref m_happen, .ref m_hasIf, .ref m_becomes, .ref m_goneOf, .ref m_heard, .ref m_pairs, .ref m_heaps, .int 0, .int 0, .ref m_led, .ref m_newAt, .ref m_knowing, .ref m_firsts, .int 0, .ref m_secrets, .ref m_tried, .ref m_lanes, .ref m_lengths, .ref m_cells]))] 0 0
  refine ww_aload_n C dX12_fails_0 0 rfl rfl ?_
  refine ww_get C fg_X12_157 0 rfl rfl dX12_fails_1 ?_
  refine ww_if_ne_f (tgt := 20) C dX12_fails_4 (by decide) (rfl) ?_
  refine ww_aload_n C dX12_fails_7 0 rfl rfl ?_
  refine ww_iload_n C dX12_fails_8 1 rfl rfl ?_
  refine ww_put (ws' := [(hm, .inr (12, [.ref m_manys, .ref m_reals, .ref m_factsOf, .ref m_possible, .int 0, .int 0, .ref m_tape, .int 0, .int 0, .int 2, .int 0, .int 0, .int 0, .int 0, .int 0, .ref m_ends, .ref m_letters, .ref m_actOf, .ref m_whom, .ref m_actMany, .ref m_tokens, .ref m_afters, .ref m_afterOf, .int 1, .ref m_pile, .ref m_caseMany, .ref m_happen, .ref m_hasIf, .ref m_becomes, .ref m_goneOf, .ref m_heard, .ref m_pairs, .ref m_heaps, .int 0, .int 0, .ref m_led, .ref m_newAt, .ref m_knowing, .ref m_firsts, .int 0, .ref m_secrets, .ref m_tried, .ref m_lanes, .ref m_lengths, .ref m_cells]))]) C fp_X12_157 0 rfl rfl rfl rfl rfl dX12_fails_9 ?_
  refine ww_aload_n C dX12_fails_12 0 rfl rfl ?_
  refine ww_aload_n C dX12_fails_13 0 rfl rfl ?_
  refine ww_get C fg_X12_160 0 rfl rfl dX12_fails_14 ?_
  refine ww_put (ws' := [(hm, .inr (12, [.ref m_manys, .ref m_reals, .ref m_factsOf, .ref m_possible, .int 0, .int 0, .ref m_tape, .int 0, .int 0, .int 2, .int 0, .int 0, .int 0, .int 0, .int 0, .ref m_ends, .ref m_letters, .ref m_actOf, .ref m_whom, .ref m_actMany, .ref m_tokens, .ref m_afters, .ref m_afterOf, .int 1, .ref m_pile, .ref m_caseMany, .ref m_happen, .ref m_hasIf, .ref m_becomes, .ref m_goneOf, .ref m_heard, .ref m_pairs, .ref m_heaps, .int 0, .int 0, .ref m_led, .ref m_newAt, .ref m_knowing, .ref m_firsts, .int 0, .ref m_secrets, .ref m_tried, .ref m_lanes, .ref m_lengths, .ref m_cells]))]) C fp_X12_163 0 rfl rfl rfl rfl rfl dX12_fails_17 ?_
  exact ww_vret (u := [(hm, .inr (12, [.ref m_manys, .ref m_reals, .ref m_factsOf, .ref m_possible, .int 0, .int 0, .ref m_tape, .int 0, .int 0, .int 2, .int 0, .int 0, .int 0, .int 0, .int 0, .ref m_ends, .ref m_letters, .ref m_actOf, .ref m_whom, .ref m_actMany, .ref m_tokens, .ref m_afters, .ref m_afterOf, .int 1, .ref m_pile, .ref m_caseMany, .ref m_happen, .ref m_hasIf, .ref m_becomes, .ref m_goneOf, .ref m_heard, .ref m_pairs, .ref m_heaps, .int 0, .int 0, .ref m_led, .ref m_newAt, .ref m_knowing, .ref m_firsts, .int 0, .ref m_secrets, .ref m_tried, .ref m_lanes, .ref m_lengths, .ref m_cells]))]) C hT [0] rfl rfl rfl rfl dX12_fails_20 (rfl)
theorem dX12_next_0 : decode cX12_next 0 = .ok (.aload_n 0, 1) := by decide +kernel
theorem dX12_next_1 : decode cX12_next 1 = .ok (.getfield 157, 3) := by decide +kernel
theorem dX12_next_4 : decode cX12_next 4 = .ok (.ifCond .le 4, 3) := by decide +kernel
theorem dX12_next_8 : decode cX12_next 8 = .ok (.aload_n 0, 1) := by decide +kernel
theorem dX12_next_9 : decode cX12_next 9 = .ok (.aload_n 0, 1) := by decide +kernel
theorem dX12_next_10 : decode cX12_next 10 = .ok (.getfield 166, 3) := by decide +kernel
theorem wf_X12_166 : Cond.fieldLink RX12 166 RX12 "spot" "I" ∈ TB := tbm (tq5 (List.mem_of_getElem? (i := 89) (by decide +kernel))) (by decide +kernel)
theorem fg_X12_166 : FG RX12 166 12 11 := ⟨RX12, TX12, 45, uw_X12, wf_X12_166, rfl, by decide, rfl⟩
theorem dX12_next_13 : decode cX12_next 13 = .ok (.invokevirtual 169, 3) := by decide +kernel
theorem wl_X12_169 : Cond.methodLink RX12 169 yX12_byteAt ∈ TB := tbm (tq6 (List.mem_of_getElem? (i := 57) (by decide +kernel))) (by decide +kernel)
theorem wc_X12_byteAt : Cond.code yX12_byteAt cX12_byteAt 2 (some .int) ∈ TB := tbm (tq6 (List.mem_of_getElem? (i := 60) (rfl))) (by decide +kernel)
theorem wi_X12_byteAt : Cond.instanceMethod yX12_byteAt ∈ TB := tbm (tq6 (List.mem_of_getElem? (i := 59) (by decide +kernel))) (by decide +kernel)
theorem ws_X12_byteAt : Cond.selects RX12 yX12_byteAt yX12_byteAt ∈ TB := tbm (tq0 (List.mem_of_getElem? (i := 44) (by decide +kernel))) (by decide +kernel)
theorem mi_X12_byteAt : MI yX12_byteAt cX12_byteAt 2 (some .int) 1 := ⟨wc_X12_byteAt, wn_X12, ⟨by decide +kernel, by decide +kernel, by decide +kernel⟩, wi_X12_byteAt, ws_X12_byteAt⟩
theorem dX12_next_16 : decode cX12_next 16 = .ok (.bipush 32, 2) := by decide +kernel
theorem dX12_next_18 : decode cX12_next 18 = .ok (.if_icmp .ne 16, 3) := by decide +kernel
theorem dX12_next_34 : decode cX12_next 34 = .ok (.aload_n 0, 1) := by decide +kernel
theorem dX12_next_35 : decode cX12_next 35 = .ok (.aload_n 0, 1) := by decide +kernel
theorem dX12_next_36 : decode cX12_next 36 = .ok (.getfield 166, 3) := by decide +kernel
theorem dX12_next_39 : decode cX12_next 39 = .ok (.putfield 160, 3) := by decide +kernel
theorem fp_X12_160 : FP RX12 160 12 12 .int false := ⟨RX12, TX12, 45, tyX12, uw_X12, wf_X12_160, rfl, by decide, rfl, tyX12_ok, nmX12, rfl, by decide +kernel⟩
theorem dX12_next_42 : decode cX12_next 42 = .ok (.aload_n 0, 1) := by decide +kernel
theorem dX12_next_43 : decode cX12_next 43 = .ok (.aload_n 0, 1) := by decide +kernel
theorem dX12_next_44 : decode cX12_next 44 = .ok (.getfield 166, 3) := by decide +kernel
theorem dX12_next_47 : decode cX12_next 47 = .ok (.invokevirtual 169, 3) := by decide +kernel
theorem dX12_next_50 : decode cX12_next 50 = .ok (.istore_n 1, 1) := by decide +kernel
theorem dX12_next_51 : decode cX12_next 51 = .ok (.aload_n 0, 1) := by decide +kernel
theorem dX12_next_52 : decode cX12_next 52 = .ok (.iconst 0, 1) := by decide +kernel
theorem dX12_next_53 : decode cX12_next 53 = .ok (.putfield 172, 3) := by decide +kernel
theorem wf_X12_172 : Cond.fieldLink RX12 172 RX12 "value" "I" ∈ TB := tbm (tq5 (List.mem_of_getElem? (i := 92) (by decide +kernel))) (by decide +kernel)
theorem fp_X12_172 : FP RX12 172 12 14 .int false := ⟨RX12, TX12, 45, tyX12, uw_X12, wf_X12_172, rfl, by decide, rfl, tyX12_ok, nmX12, rfl, by decide +kernel⟩
theorem dX12_next_56 : decode cX12_next 56 = .ok (.iload_n 1, 1) := by decide +kernel
theorem dX12_next_57 : decode cX12_next 57 = .ok (.bipush (-4), 2) := by decide +kernel
theorem dX12_next_59 : decode cX12_next 59 = .ok (.if_icmp .ne 11, 3) := by decide +kernel
theorem dX12_next_62 : decode cX12_next 62 = .ok (.aload_n 0, 1) := by decide +kernel
theorem dX12_next_63 : decode cX12_next 63 = .ok (.iconst 0, 1) := by decide +kernel
theorem dX12_next_64 : decode cX12_next 64 = .ok (.putfield 175, 3) := by decide +kernel
theorem wf_X12_175 : Cond.fieldLink RX12 175 RX12 "token" "I" ∈ TB := tbm (tq5 (List.mem_of_getElem? (i := 91) (by decide +kernel))) (by decide +kernel)
theorem fp_X12_175 : FP RX12 175 12 13 .int false := ⟨RX12, TX12, 45, tyX12, uw_X12, wf_X12_175, rfl, by decide, rfl, tyX12_ok, nmX12, rfl, by decide +kernel⟩
theorem dX12_next_67 : decode cX12_next 67 = .ok (.goto 146, 3) := by decide +kernel
theorem dX12_next_213 : decode cX12_next 213 = .ok (.return_, 1) := by decide +kernel
set_option maxRecDepth 100000 in
set_option maxHeartbeats 4000000 in
theorem r_next0 (l : Launch) (E : EV) (hm : Nat) (m_manys : Nat) (m_reals : Nat) (m_factsOf : Nat) (m_possible : Nat) (m_tape : Nat) (m_ends : Nat) (m_letters : Nat) (m_actOf : Nat) (m_whom : Nat) (m_actMany : Nat) (m_tokens : Nat) (m_afters : Nat) (m_afterOf : Nat) (m_pile : Nat) (m_caseMany : Nat) (m_happen : Nat) (m_hasIf : Nat) (m_becomes : Nat) (m_goneOf : Nat) (m_heard : Nat) (m_pairs : Nat) (m_heaps : Nat) (m_led : Nat) (m_newAt : Nat) (m_knowing : Nat) (m_firsts : Nat) (m_secrets : Nat) (m_tried : Nat) (m_lanes : Nat) (m_lengths : Nat) (m_cells : Nat)  : CT l yX12_next (Cond.code yX12_next cX12_next 2 none :: TB) ({ frames := 1, cells := 0, slots := 0, locals := 21 }) E [.ref hm] [(hm, .inr (12, [.ref m_manys, .ref m_reals, .ref m_factsOf, .ref m_possible, .int 0, .int 0, .ref m_tape, .int 0, .int 0, .int 0, .int 0, .int 0, .int 0, .int 0, .int 0, .ref m_ends, .ref m_letters, .ref m_actOf, .ref m_whom, .ref m_actMany, .ref m_tokens, .ref m_afters, .ref m_afterOf, .int 0, .ref m_pile, .ref m_caseMany, .ref m_happen, .ref m_hasIf, .ref m_becomes, .ref m_goneOf, .ref m_heard, .ref m_pairs, .ref m_heaps, .int 0, .int 0, .ref m_led, .ref m_newAt, .ref m_knowing, .ref m_firsts, .int 0, .ref m_secrets, .ref m_tried, .ref m_lanes, .ref m_lengths, .ref m_cells]))] (Qv E (fun u => (u = [(hm, .inr (12, [.ref m_manys, .ref m_reals, .ref m_factsOf, .ref m_possible, .int 0, .int 0, .ref m_tape, .int 0, .int 0, .int 0, .int 0, .int 0, .int 0, .int 0, .int 0, .ref m_ends, .ref m_letters, .ref m_actOf, .ref m_whom, .ref m_actMany, .ref m_tokens, .ref m_afters, .ref m_afterOf, .int 0, .ref m_pile, .ref m_caseMany, .ref m_happen, .ref m_hasIf, .ref m_becomes, .ref m_goneOf, .ref m_heard, .ref m_pairs, .ref m_heaps, .int 0, .int 0, .ref m_led, .ref m_newAt, .ref m_knowing, .ref m_firsts, .int 0, .ref m_secrets, .ref m_tried, .ref m_lanes, .ref m_lengths, .ref m_cells]))]))) 0 0 := by
  refine ct_of rfl rfl ?_
  intro X C hT hin
  show WW X 2 E 0 [(0, .ref hm)] [] [(hm, .inr (12, [.ref m_manys, .ref m_reals, .ref m_factsOf, .ref m_possible, .int 0, .int 0, .ref m_tape, .int 0, .int 0, .int 0, .int 0, .int 0, .int 0, .int 0, .int 0, .ref m_ends, .ref m_letters, .ref m_actOf, .ref m_whom, .ref m_actMany, .ref m_tokens, .ref m_afters, .ref m_afterOf, .int 0, .ref m_pile, .ref m_caseMany, .ref m_happen, .ref m_hasIf, .ref m_becomes, .ref m_goneOf, .ref m_heard, .ref m_pairs, .ref m_heaps, .int 0, .int 0, .ref m_led, .ref m_newAt, .ref m_knowing, .ref m_firsts, .int 0, .ref m_secrets, .ref m_tried, .ref m_lanes, .ref m_lengths, .ref m_cells]))] 0 0
  refine ww_aload_n C dX12_next_0 0 rfl rfl ?_
  refine ww_get C fg_X12_157 0 rfl rfl dX12_next_1 ?_
  refine ww_if_le_t (tgt := 8) C dX12_next_4 (by decide) (by decide) ?_
  refine ww_aload_n C dX12_next_8 0 rfl rfl ?_
  refine ww_aload_n C dX12_next_9 0 rfl rfl ?_
  refine ww_get C fg_X12_166 0 rfl rfl dX12_next_10 ?_
  refine ww_ci (wr := []) (k' := 0) (n' := 0) C (run_V (As := [.int 0]) (rest := []) C (r_byteAt X.2.1 E hm m_manys m_reals m_factsOf m_possible m_tape m_ends m_letters m_actOf m_whom m_actMany m_tokens m_afters m_afterOf m_pile m_caseMany m_happen m_hasIf m_becomes m_goneOf m_heard m_pairs m_heaps m_led m_newAt m_knowing m_firsts m_secrets m_tried m_lanes m_lengths m_cells) mi_X12_byteAt wl_X12_169 rfl 0 12 rfl rfl rfl rfl rfl dX12_next_13) [0] [] rfl rfl rfl rfl (fun r u hw => ?_)
  obtain ⟨rfl, rfl⟩ := hw
  refine ww_eq (ws' := [(hm, .inr (12, [.ref m_manys, .ref m_reals, .ref m_factsOf, .ref m_possible, .int 0, .int 0, .ref m_tape, .int 0, .int 0, .int 0, .int 0, .int 0, .int 0, .int 0, .int 0, .ref m_ends, .ref m_letters, .ref m_actOf, .ref m_whom, .ref m_actMany, .ref m_tokens, .ref m_afters, .ref m_afterOf, .int 0, .ref m_pile, .ref m_caseMany, .ref m_happen, .ref m_hasIf, .ref m_becomes, .ref m_goneOf, .ref m_heard, .ref m_pairs, .ref m_heaps, .int 0, .int 0, .ref m_led, .ref m_newAt, .ref m_knowing, .ref m_firsts, .int 0, .ref m_secrets, .ref m_tried, .ref m_lanes, .ref m_lengths, .ref m_cells]))]) ?_ rfl rfl rfl
  refine ww_bipush (v := 32) C dX12_next_16 rfl ?_
  refine ww_icmp_ne_t (tgt := 34) C dX12_next_18 (by decide) (by decide) ?_
  refine ww_aload_n C dX12_next_34 0 rfl rfl ?_
  refine ww_aload_n C dX12_next_35 0 rfl rfl ?_
  refine ww_get C fg_X12_166 0 rfl rfl dX12_next_36 ?_
  refine ww_put (ws' := [(hm, .inr (12, [.ref m_manys, .ref m_reals, .ref m_factsOf, .ref m_possible, .int 0, .int 0, .ref m_tape, .int 0, .int 0, .int 0, .int 0, .int 0, .int 0, .int 0, .int 0, .ref m_ends, .ref m_letters, .ref m_actOf, .ref m_whom, .ref m_actMany, .ref m_tokens, .ref m_afters, .ref m_afterOf, .int 0, .ref m_pile, .ref m_caseMany, .ref m_happen, .ref m_hasIf, .ref m_becomes, .ref m_goneOf, .ref m_heard, .ref m_pairs, .ref m_heaps, .int 0, .int 0, .ref m_led, .ref m_newAt, .ref m_knowing, .ref m_firsts, .int 0, .ref m_secrets, .ref m_tried, .ref m_lanes, .ref m_lengths, .ref m_cells]))]) C fp_X12_160 0 rfl rfl rfl rfl rfl dX12_next_39 ?_
  refine ww_aload_n C dX12_next_42 0 rfl rfl ?_
  refine ww_aload_n C dX12_next_43 0 rfl rfl ?_
  refine ww_get C fg_X12_166 0 rfl rfl dX12_next_44 ?_
  refine ww_ci (wr := []) (k' := 0) (n' := 0) C (run_V (As := [.int 0]) (rest := []) C (r_byteAt X.2.1 E hm m_manys m_reals m_factsOf m_possible m_tape m_ends m_letters m_actOf m_whom m_actMany m_tokens m_afters m_afterOf m_pile m_caseMany m_happen m_hasIf m_becomes m_goneOf m_heard m_pairs m_heaps m_led m_newAt m_knowing m_firsts m_secrets m_tried m_lanes m_lengths m_cells) mi_X12_byteAt wl_X12_169 rfl 0 12 rfl rfl rfl rfl rfl dX12_next_47) [0] [] rfl rfl rfl rfl (fun r u hw => ?_)
  obtain ⟨rfl, rfl⟩ := hw
  refine ww_eq (ws' := [(hm, .inr (12, [.ref m_manys, .ref m_reals, .ref m_factsOf, .ref m_possible, .int 0, .int 0, .ref m_tape, .int 0, .int 0, .int 0, .int 0, .int 0, .int 0, .int 0, .int 0, .ref m_ends, .ref m_letters, .ref m_actOf, .ref m_whom, .ref m_actMany, .ref m_tokens, .ref m_afters, .ref m_afterOf, .int 0, .ref m_pile, .ref m_caseMany, .ref m_happen, .ref m_hasIf, .ref m_becomes, .ref m_goneOf, .ref m_heard, .ref m_pairs, .ref m_heaps, .int 0, .int 0, .ref m_led, .ref m_newAt, .ref m_knowing, .ref m_firsts, .int 0, .ref m_secrets, .ref m_tried, .ref m_lanes, .ref m_lengths, .ref m_cells]))]) ?_ rfl rfl rfl
  refine ww_istore_n (lv' := [(1, .int (-4)), (0, .ref hm)]) C dX12_next_50 rfl rfl rfl ?_
  refine ww_aload_n C dX12_next_51 1 rfl rfl ?_
  refine ww_iconst (v := 0) C dX12_next_52 rfl ?_
  refine ww_put (ws' := [(hm, .inr (12, [.ref m_manys, .ref m_reals, .ref m_factsOf, .ref m_possible, .int 0, .int 0, .ref m_tape, .int 0, .int 0, .int 0, .int 0, .int 0, .int 0, .int 0, .int 0, .ref m_ends, .ref m_letters, .ref m_actOf, .ref m_whom, .ref m_actMany, .ref m_tokens, .ref m_afters, .ref m_afterOf, .int 0, .ref m_pile, .ref m_caseMany, .ref m_happen, .ref m_hasIf, .ref m_becomes, .ref m_goneOf, .ref m_heard, .ref m_pairs, .ref m_heaps, .int 0, .int 0, .ref m_led, .ref m_newAt, .ref m_knowing, .ref m_firsts, .int 0, .ref m_secrets, .ref m_tried, .ref m_lanes, .ref m_lengths, .ref m_cells]))]) C fp_X12_172 0 rfl rfl rfl rfl rfl dX12_next_53 ?_
  refine ww_iload_n C dX12_next_56 0 rfl rfl ?_
  refine ww_bipush (v := (-4)) C dX12_next_57 rfl ?_
  refine ww_icmp_ne_f (tgt := 70) C dX12_next_59 (by decide) (rfl) ?_
  refine ww_aload_n C dX12_next_62 1 rfl rfl ?_
  refine ww_iconst (v := 0) C dX12_next_63 rfl ?_
  refine ww_put (ws' := [(hm, .inr (12, [.ref m_manys, .ref m_reals, .ref m_factsOf, .ref m_possible, .int 0, .int 0, .ref m_tape, .int 0, .int 0, .int 0, .int 0, .int 0, .int 0, .int 0, .int 0, .ref m_ends, .ref m_letters, .ref m_actOf, .ref m_whom, .ref m_actMany, .ref m_tokens, .ref m_afters, .ref m_afterOf, .int 0, .ref m_pile, .ref m_caseMany, .ref m_happen, .ref m_hasIf, .ref m_becomes, .ref m_goneOf, .ref m_heard, .ref m_pairs, .ref m_heaps, .int 0, .int 0, .ref m_led, .ref m_newAt, .ref m_knowing, .ref m_firsts, .int 0, .ref m_secrets, .ref m_tried, .ref m_lanes, .ref m_lengths, .ref m_cells]))]) C fp_X12_175 0 rfl rfl rfl rfl rfl dX12_next_64 ?_
  refine ww_goto (tgt := 213) C dX12_next_67 (by decide) ?_
  exact ww_vret (u := [(hm, .inr (12, [.ref m_manys, .ref m_reals, .ref m_factsOf, .ref m_possible, .int 0, .int 0, .ref m_tape, .int 0, .int 0, .int 0, .int 0, .int 0, .int 0, .int 0, .int 0, .ref m_ends, .ref m_letters, .ref m_actOf, .ref m_whom, .ref m_actMany, .ref m_tokens, .ref m_afters, .ref m_afterOf, .int 0, .ref m_pile, .ref m_caseMany, .ref m_happen, .ref m_hasIf, .ref m_becomes, .ref m_goneOf, .ref m_heard, .ref m_pairs, .ref m_heaps, .int 0, .int 0, .ref m_led, .ref m_newAt, .ref m_knowing, .ref m_firsts, .int 0, .ref m_secrets, .ref m_tried, .ref m_lanes, .ref m_lengths, .ref m_cells]))]) C hT [0] rfl rfl rfl rfl dX12_next_213 (rfl)
theorem dX12_next_7 : decode cX12_next 7 = .ok (.return_, 1) := by decide +kernel
set_option maxRecDepth 100000 in
set_option maxHeartbeats 4000000 in
theorem r_next2 (l : Launch) (E : EV) (hm : Nat) (m_manys : Nat) (m_reals : Nat) (m_factsOf : Nat) (m_possible : Nat) (m_tape : Nat) (m_ends : Nat) (m_letters : Nat) (m_actOf : Nat) (m_whom : Nat) (m_actMany : Nat) (m_tokens : Nat) (m_afters : Nat) (m_afterOf : Nat) (m_pile : Nat) (m_caseMany : Nat) (m_happen : Nat) (m_hasIf : Nat) (m_becomes : Nat) (m_goneOf : Nat) (m_heard : Nat) (m_pairs : Nat) (m_heaps : Nat) (m_led : Nat) (m_newAt : Nat) (m_knowing : Nat) (m_firsts : Nat) (m_secrets : Nat) (m_tried : Nat) (m_lanes : Nat) (m_lengths : Nat) (m_cells : Nat)  : CT l yX12_next (Cond.code yX12_next cX12_next 2 none :: TB) ({ frames := 0, cells := 0, slots := 0, locals := 0 }) E [.ref hm] [(hm, .inr (12, [.ref m_manys, .ref m_reals, .ref m_factsOf, .ref m_possible, .int 0, .int 0, .ref m_tape, .int 0, .int 0, .int 2, .int 0, .int 0, .int 0, .int 0, .int 0, .ref m_ends, .ref m_letters, .ref m_actOf, .ref m_whom, .ref m_actMany, .ref m_tokens, .ref m_afters, .ref m_afterOf, .int 1, .ref m_pile, .ref m_caseMany, .ref m_happen, .ref m_hasIf, .ref m_becomes, .ref m_goneOf, .ref m_heard, .ref m_pairs, .ref m_heaps, .int 0, .int 0, .ref m_led, .ref m_newAt, .ref m_knowing, .ref m_firsts, .int 0, .ref m_secrets, .ref m_tried, .ref m_lanes, .ref m_lengths, .ref m_cells]))] (Qv E (fun u => (u = [(hm, .inr (12, [.ref m_manys, .ref m_reals, .ref m_factsOf, .ref m_possible, .int 0, .int 0, .ref m_tape, .int 0, .int 0, .int 2, .int 0, .int 0, .int 0, .int 0, .int 0, .ref m_ends, .ref m_letters, .ref m_actOf, .ref m_whom, .ref m_actMany, .ref m_tokens, .ref m_afters, .ref m_afterOf, .int 1, .ref m_pile, .ref m_caseMany, .ref m_happen, .ref m_hasIf, .ref m_becomes, .ref m_goneOf, .ref m_heard, .ref m_pairs, .ref m_heaps, .int 0, .int 0, .ref m_led, .ref m_newAt, .ref m_knowing, .ref m_firsts, .int 0, .ref m_secrets, .ref m_tried, .ref m_lanes, .ref m_lengths, .ref m_cells]))]))) 0 0 := by
  refine ct_of rfl rfl ?_
  intro X C hT hin
  show WW X 2 E 0 [(0, .ref hm)] [] [(hm, .inr (12, [.ref m_manys, .ref m_reals, .ref m_factsOf, .ref m_possible, .int 0, .int 0, .ref m_tape, .int 0, .int 0, .int 2, .int 0, .int 0, .int 0, .int 0, .int 0, .ref m_ends, .ref m_letters, .ref m_actOf, .ref m_whom, .ref m_actMany, .ref m_tokens, .ref m_afters, .ref m_afterOf, .int 1, .ref m_pile, .ref m_caseMany, .ref m_happen, .ref m_hasIf, .ref m_becomes, .ref m_goneOf, .ref m_heard, .ref m_pairs, .ref m_heaps, .int 0, .int 0, .ref m_led, .ref m_newAt, .ref m_knowing, .ref m_firsts, .int 0, .ref m_secrets, .ref m_tried, .ref m_lanes, .ref m_lengths, .ref m_cells]))] 0 0
  refine ww_aload_n C dX12_next_0 0 rfl rfl ?_
  refine ww_get C fg_X12_157 0 rfl rfl dX12_next_1 ?_
  refine ww_if_le_f (tgt := 8) C dX12_next_4 (by decide) (by decide) ?_
  exact ww_vret (u := [(hm, .inr (12, [.ref m_manys, .ref m_reals, .ref m_factsOf, .ref m_possible, .int 0, .int 0, .ref m_tape, .int 0, .int 0, .int 2, .int 0, .int 0, .int 0, .int 0, .int 0, .ref m_ends, .ref m_letters, .ref m_actOf, .ref m_whom, .ref m_actMany, .ref m_tokens, .ref m_afters, .ref m_afterOf, .int 1, .ref m_pile, .ref m_caseMany, .ref m_happen, .ref m_hasIf, .ref m_becomes, .ref m_goneOf, .ref m_heard, .ref m_pairs, .ref m_heaps, .int 0, .int 0, .ref m_led, .ref m_newAt, .ref m_knowing, .ref m_firsts, .int 0, .ref m_secrets, .ref m_tried, .ref m_lanes, .ref m_lengths, .ref m_cells]))]) C hT [0] rfl rfl rfl rfl dX12_next_7 (rfl)
theorem dX12_nameHere_0 : decode cX12_nameHere 0 = .ok (.iconst 0, 1) := by decide +kernel
theorem dX12_nameHere_1 : decode cX12_nameHere 1 = .ok (.istore_n 1, 1) := by decide +kernel
theorem dX12_nameHere_2 : decode cX12_nameHere 2 = .ok (.iload_n 1, 1) := by decide +kernel
theorem dX12_nameHere_3 : decode cX12_nameHere 3 = .ok (.bipush 14, 2) := by decide +kernel
theorem dX12_nameHere_5 : decode cX12_nameHere 5 = .ok (.if_icmp .ge 113, 3) := by decide +kernel
theorem dX12_nameHere_8 : decode cX12_nameHere 8 = .ok (.aload_n 0, 1) := by decide +kernel
theorem dX12_nameHere_9 : decode cX12_nameHere 9 = .ok (.getfield 175, 3) := by decide +kernel
theorem fg_X12_175 : FG RX12 175 12 13 := ⟨RX12, TX12, 45, uw_X12, wf_X12_175, rfl, by decide, rfl⟩
theorem dX12_nameHere_12 : decode cX12_nameHere 12 = .ok (.iconst 1, 1) := by decide +kernel
theorem dX12_nameHere_13 : decode cX12_nameHere 13 = .ok (.if_icmp .ne 34, 3) := by decide +kernel
theorem dX12_nameHere_47 : decode cX12_nameHere 47 = .ok (.iconst 0, 1) := by decide +kernel
theorem dX12_nameHere_48 : decode cX12_nameHere 48 = .ok (.istore_n 2, 1) := by decide +kernel
theorem dX12_nameHere_49 : decode cX12_nameHere 49 = .ok (.iconst 0, 1) := by decide +kernel
theorem dX12_nameHere_50 : decode cX12_nameHere 50 = .ok (.istore_n 3, 1) := by decide +kernel
theorem dX12_nameHere_51 : decode cX12_nameHere 51 = .ok (.iload_n 2, 1) := by decide +kernel
theorem dX12_nameHere_52 : decode cX12_nameHere 52 = .ok (.ifCond .eq 54, 3) := by decide +kernel
theorem dX12_nameHere_106 : decode cX12_nameHere 106 = .ok (.iload_n 2, 1) := by decide +kernel
theorem dX12_nameHere_107 : decode cX12_nameHere 107 = .ok (.ifCond .eq 5, 3) := by decide +kernel
theorem dX12_nameHere_112 : decode cX12_nameHere 112 = .ok (.iinc 1 1, 3) := by decide +kernel
theorem dX12_nameHere_115 : decode cX12_nameHere 115 = .ok (.goto (-113), 3) := by decide +kernel
theorem dX12_nameHere_118 : decode cX12_nameHere 118 = .ok (.bipush (-4), 2) := by decide +kernel
theorem dX12_nameHere_120 : decode cX12_nameHere 120 = .ok (.ireturn, 1) := by decide +kernel
set_option maxRecDepth 100000 in
set_option maxHeartbeats 4000000 in
theorem r_nameHere (l : Launch) (E : EV) (hm : Nat) (m_manys : Nat) (m_reals : Nat) (m_factsOf : Nat) (m_possible : Nat) (m_tape : Nat) (m_ends : Nat) (m_letters : Nat) (m_actOf : Nat) (m_whom : Nat) (m_actMany : Nat) (m_tokens : Nat) (m_afters : Nat) (m_afterOf : Nat) (m_pile : Nat) (m_caseMany : Nat) (m_happen : Nat) (m_hasIf : Nat) (m_becomes : Nat) (m_goneOf : Nat) (m_heard : Nat) (m_pairs : Nat) (m_heaps : Nat) (m_led : Nat) (m_newAt : Nat) (m_knowing : Nat) (m_firsts : Nat) (m_secrets : Nat) (m_tried : Nat) (m_lanes : Nat) (m_lengths : Nat) (m_cells : Nat)  : CT l yX12_nameHere (Cond.code yX12_nameHere cX12_nameHere 4 (some .int) :: TB) ({ frames := 0, cells := 0, slots := 0, locals := 0 }) E [.ref hm] [(hm, .inr (12, [.ref m_manys, .ref m_reals, .ref m_factsOf, .ref m_possible, .int 0, .int 0, .ref m_tape, .int 0, .int 0, .int 0, .int 0, .int 0, .int 0, .int 0, .int 0, .ref m_ends, .ref m_letters, .ref m_actOf, .ref m_whom, .ref m_actMany, .ref m_tokens, .ref m_afters, .ref m_afterOf, .int 0, .ref m_pile, .ref m_caseMany, .ref m_happen, .ref m_hasIf, .ref m_becomes, .ref m_goneOf, .ref m_heard, .ref m_pairs, .ref m_heaps, .int 0, .int 0, .ref m_led, .ref m_newAt, .ref m_knowing, .ref m_firsts, .int 0, .ref m_secrets, .ref m_tried, .ref m_lanes, .ref m_lengths, .ref m_cells]))] (Qi E (fun (r : Int32) u => (r = (-4) ∧ u = [(hm, .inr (12, [.ref m_manys, .ref m_reals, .ref m_factsOf, .ref m_possible, .int 0, .int 0, .ref m_tape, .int 0, .int 0, .int 0, .int 0, .int 0, .int 0, .int 0, .int 0, .ref m_ends, .ref m_letters, .ref m_actOf, .ref m_whom, .ref m_actMany, .ref m_tokens, .ref m_afters, .ref m_afterOf, .int 0, .ref m_pile, .ref m_caseMany, .ref m_happen, .ref m_hasIf, .ref m_becomes, .ref m_goneOf, .ref m_heard, .ref m_pairs, .ref m_heaps, .int 0, .int 0, .ref m_led, .ref m_newAt, .ref m_knowing, .ref m_firsts, .int 0, .ref m_secrets, .ref m_tried, .ref m_lanes, .ref m_lengths, .ref m_cells]))]))) 0 0 := by
  refine ct_of rfl rfl ?_
  intro X C hT hin
  show WW X 4 E 0 [(0, .ref hm)] [] [(hm, .inr (12, [.ref m_manys, .ref m_reals, .ref m_factsOf, .ref m_possible, .int 0, .int 0, .ref m_tape, .int 0, .int 0, .int 0, .int 0, .int 0, .int 0, .int 0, .int 0, .ref m_ends, .ref m_letters, .ref m_actOf, .ref m_whom, .ref m_actMany, .ref m_tokens, .ref m_afters, .ref m_afterOf, .int 0, .ref m_pile, .ref m_caseMany, .ref m_happen, .ref m_hasIf, .ref m_becomes, .ref m_goneOf, .ref m_heard, .ref m_pairs, .ref m_heaps, .int 0, .int 0, .ref m_led, .ref m_newAt, .ref m_knowing, .ref m_firsts, .int 0, .ref m_secrets, .ref m_tried, .ref m_lanes, .ref m_lengths, .ref m_cells]))] 0 0
  refine ww_iconst (v := 0) C dX12_nameHere_0 rfl ?_
  refine ww_istore_n (lv' := [(1, .int 0), (0, .ref hm)]) C dX12_nameHere_1 rfl rfl rfl ?_
  refine ww_iload_n C dX12_nameHere_2 0 rfl rfl ?_
  refine ww_bipush (v := 14) C dX12_nameHere_3 rfl ?_
  refine ww_icmp_ge_f (tgt := 118) C dX12_nameHere_5 (by decide) (by decide) ?_
  refine ww_aload_n C dX12_nameHere_8 1 rfl rfl ?_
  refine ww_get C fg_X12_175 0 rfl rfl dX12_nameHere_9 ?_
  refine ww_iconst (v := 1) C dX12_nameHere_12 rfl ?_
  refine ww_icmp_ne_t (tgt := 47) C dX12_nameHere_13 (by decide) (by decide) ?_
  refine ww_iconst (v := 0) C dX12_nameHere_47 rfl ?_
  refine ww_istore_n (lv' := [(2, .int 0), (1, .int 0), (0, .ref hm)]) C dX12_nameHere_48 rfl rfl rfl ?_
  refine ww_iconst (v := 0) C dX12_nameHere_49 rfl ?_
  refine ww_istore_n (lv' := [(3, .int 0), (2, .int 0), (1, .int 0), (0, .ref hm)]) C dX12_nameHere_50 rfl rfl rfl ?_
  refine ww_iload_n C dX12_nameHere_51 1 rfl rfl ?_
  refine ww_if_eq_t (tgt := 106) C dX12_nameHere_52 (by decide) (rfl) ?_
  refine ww_iload_n C dX12_nameHere_106 1 rfl rfl ?_
  refine ww_if_eq_t (tgt := 112) C dX12_nameHere_107 (by decide) (rfl) ?_
  refine ww_iinc (j := 2) (v := 1) (lv' := [(1, .int 1), (3, .int 0), (2, .int 0), (0, .ref hm)]) C dX12_nameHere_112 rfl rfl rfl rfl ?_
  refine ww_goto (tgt := 2) C dX12_nameHere_115 (by decide) ?_
  refine ww_iload_n C dX12_nameHere_2 0 rfl rfl ?_
  refine ww_bipush (v := 14) C dX12_nameHere_3 rfl ?_
  refine ww_icmp_ge_f (tgt := 118) C dX12_nameHere_5 (by decide) (by decide) ?_
  refine ww_aload_n C dX12_nameHere_8 3 rfl rfl ?_
  refine ww_get C fg_X12_175 0 rfl rfl dX12_nameHere_9 ?_
  refine ww_iconst (v := 1) C dX12_nameHere_12 rfl ?_
  refine ww_icmp_ne_t (tgt := 47) C dX12_nameHere_13 (by decide) (by decide) ?_
  refine ww_iconst (v := 0) C dX12_nameHere_47 rfl ?_
  refine ww_istore_n (lv' := [(2, .int 0), (1, .int 1), (3, .int 0), (0, .ref hm)]) C dX12_nameHere_48 rfl rfl rfl ?_
  refine ww_iconst (v := 0) C dX12_nameHere_49 rfl ?_
  refine ww_istore_n (lv' := [(3, .int 0), (2, .int 0), (1, .int 1), (0, .ref hm)]) C dX12_nameHere_50 rfl rfl rfl ?_
  refine ww_iload_n C dX12_nameHere_51 1 rfl rfl ?_
  refine ww_if_eq_t (tgt := 106) C dX12_nameHere_52 (by decide) (rfl) ?_
  refine ww_iload_n C dX12_nameHere_106 1 rfl rfl ?_
  refine ww_if_eq_t (tgt := 112) C dX12_nameHere_107 (by decide) (rfl) ?_
  refine ww_iinc (j := 2) (v := 2) (lv' := [(1, .int 2), (3, .int 0), (2, .int 0), (0, .ref hm)]) C dX12_nameHere_112 rfl rfl rfl rfl ?_
  refine ww_goto (tgt := 2) C dX12_nameHere_115 (by decide) ?_
  refine ww_iload_n C dX12_nameHere_2 0 rfl rfl ?_
  refine ww_bipush (v := 14) C dX12_nameHere_3 rfl ?_
  refine ww_icmp_ge_f (tgt := 118) C dX12_nameHere_5 (by decide) (by decide) ?_
  refine ww_aload_n C dX12_nameHere_8 3 rfl rfl ?_
  refine ww_get C fg_X12_175 0 rfl rfl dX12_nameHere_9 ?_
  refine ww_iconst (v := 1) C dX12_nameHere_12 rfl ?_
  refine ww_icmp_ne_t (tgt := 47) C dX12_nameHere_13 (by decide) (by decide) ?_
  refine ww_iconst (v := 0) C dX12_nameHere_47 rfl ?_
  refine ww_istore_n (lv' := [(2, .int 0), (1, .int 2), (3, .int 0), (0, .ref hm)]) C dX12_nameHere_48 rfl rfl rfl ?_
  refine ww_iconst (v := 0) C dX12_nameHere_49 rfl ?_
  refine ww_istore_n (lv' := [(3, .int 0), (2, .int 0), (1, .int 2), (0, .ref hm)]) C dX12_nameHere_50 rfl rfl rfl ?_
  refine ww_iload_n C dX12_nameHere_51 1 rfl rfl ?_
  refine ww_if_eq_t (tgt := 106) C dX12_nameHere_52 (by decide) (rfl) ?_
  refine ww_iload_n C dX12_nameHere_106 1 rfl rfl ?_
  refine ww_if_eq_t (tgt := 112) C dX12_nameHere_107 (by decide) (rfl) ?_
  refine ww_iinc (j := 2) (v := 3) (lv' := [(1, .int 3), (3, .int 0), (2, .int 0), (0, .ref hm)]) C dX12_nameHere_112 rfl rfl rfl rfl ?_
  refine ww_goto (tgt := 2) C dX12_nameHere_115 (by decide) ?_
  refine ww_iload_n C dX12_nameHere_2 0 rfl rfl ?_
  refine ww_bipush (v := 14) C dX12_nameHere_3 rfl ?_
  refine ww_icmp_ge_f (tgt := 118) C dX12_nameHere_5 (by decide) (by decide) ?_
  refine ww_aload_n C dX12_nameHere_8 3 rfl rfl ?_
  refine ww_get C fg_X12_175 0 rfl rfl dX12_nameHere_9 ?_
  refine ww_iconst (v := 1) C dX12_nameHere_12 rfl ?_
  refine ww_icmp_ne_t (tgt := 47) C dX12_nameHere_13 (by decide) (by decide) ?_
  refine ww_iconst (v := 0) C dX12_nameHere_47 rfl ?_
  refine ww_istore_n (lv' := [(2, .int 0), (1, .int 3), (3, .int 0), (0, .ref hm)]) C dX12_nameHere_48 rfl rfl rfl ?_
  refine ww_iconst (v := 0) C dX12_nameHere_49 rfl ?_
  refine ww_istore_n (lv' := [(3, .int 0), (2, .int 0), (1, .int 3), (0, .ref hm)]) C dX12_nameHere_50 rfl rfl rfl ?_
  refine ww_iload_n C dX12_nameHere_51 1 rfl rfl ?_
  refine ww_if_eq_t (tgt := 106) C dX12_nameHere_52 (by decide) (rfl) ?_
  refine ww_iload_n C dX12_nameHere_106 1 rfl rfl ?_
  refine ww_if_eq_t (tgt := 112) C dX12_nameHere_107 (by decide) (rfl) ?_
  refine ww_iinc (j := 2) (v := 4) (lv' := [(1, .int 4), (3, .int 0), (2, .int 0), (0, .ref hm)]) C dX12_nameHere_112 rfl rfl rfl rfl ?_
  refine ww_goto (tgt := 2) C dX12_nameHere_115 (by decide) ?_
  refine ww_iload_n C dX12_nameHere_2 0 rfl rfl ?_
  refine ww_bipush (v := 14) C dX12_nameHere_3 rfl ?_
  refine ww_icmp_ge_f (tgt := 118) C dX12_nameHere_5 (by decide) (by decide) ?_
  refine ww_aload_n C dX12_nameHere_8 3 rfl rfl ?_
  refine ww_get C fg_X12_175 0 rfl rfl dX12_nameHere_9 ?_
  refine ww_iconst (v := 1) C dX12_nameHere_12 rfl ?_
  refine ww_icmp_ne_t (tgt := 47) C dX12_nameHere_13 (by decide) (by decide) ?_
  refine ww_iconst (v := 0) C dX12_nameHere_47 rfl ?_
  refine ww_istore_n (lv' := [(2, .int 0), (1, .int 4), (3, .int 0), (0, .ref hm)]) C dX12_nameHere_48 rfl rfl rfl ?_
  refine ww_iconst (v := 0) C dX12_nameHere_49 rfl ?_
  refine ww_istore_n (lv' := [(3, .int 0), (2, .int 0), (1, .int 4), (0, .ref hm)]) C dX12_nameHere_50 rfl rfl rfl ?_
  refine ww_iload_n C dX12_nameHere_51 1 rfl rfl ?_
  refine ww_if_eq_t (tgt := 106) C dX12_nameHere_52 (by decide) (rfl) ?_
  refine ww_iload_n C dX12_nameHere_106 1 rfl rfl ?_
  refine ww_if_eq_t (tgt := 112) C dX12_nameHere_107 (by decide) (rfl) ?_
  refine ww_iinc (j := 2) (v := 5) (lv' := [(1, .int 5), (3, .int 0), (2, .int 0), (0, .ref hm)]) C dX12_nameHere_112 rfl rfl rfl rfl ?_
  refine ww_goto (tgt := 2) C dX12_nameHere_115 (by decide) ?_
  refine ww_iload_n C dX12_nameHere_2 0 rfl rfl ?_
  refine ww_bipush (v := 14) C dX12_nameHere_3 rfl ?_
  refine ww_icmp_ge_f (tgt := 118) C dX12_nameHere_5 (by decide) (by decide) ?_
  refine ww_aload_n C dX12_nameHere_8 3 rfl rfl ?_
  refine ww_get C fg_X12_175 0 rfl rfl dX12_nameHere_9 ?_
  refine ww_iconst (v := 1) C dX12_nameHere_12 rfl ?_
  refine ww_icmp_ne_t (tgt := 47) C dX12_nameHere_13 (by decide) (by decide) ?_
  refine ww_iconst (v := 0) C dX12_nameHere_47 rfl ?_
  refine ww_istore_n (lv' := [(2, .int 0), (1, .int 5), (3, .int 0), (0, .ref hm)]) C dX12_nameHere_48 rfl rfl rfl ?_
  refine ww_iconst (v := 0) C dX12_nameHere_49 rfl ?_
  refine ww_istore_n (lv' := [(3, .int 0), (2, .int 0), (1, .int 5), (0, .ref hm)]) C dX12_nameHere_50 rfl rfl rfl ?_
  refine ww_iload_n C dX12_nameHere_51 1 rfl rfl ?_
  refine ww_if_eq_t (tgt := 106) C dX12_nameHere_52 (by decide) (rfl) ?_
  refine ww_iload_n C dX12_nameHere_106 1 rfl rfl ?_
  refine ww_if_eq_t (tgt := 112) C dX12_nameHere_107 (by decide) (rfl) ?_
  refine ww_iinc (j := 2) (v := 6) (lv' := [(1, .int 6), (3, .int 0), (2, .int 0), (0, .ref hm)]) C dX12_nameHere_112 rfl rfl rfl rfl ?_
  refine ww_goto (tgt := 2) C dX12_nameHere_115 (by decide) ?_
  refine ww_iload_n C dX12_nameHere_2 0 rfl rfl ?_
  refine ww_bipush (v := 14) C dX12_nameHere_3 rfl ?_
  refine ww_icmp_ge_f (tgt := 118) C dX12_nameHere_5 (by decide) (by decide) ?_
  refine ww_aload_n C dX12_nameHere_8 3 rfl rfl ?_
  refine ww_get C fg_X12_175 0 rfl rfl dX12_nameHere_9 ?_
  refine ww_iconst (v := 1) C dX12_nameHere_12 rfl ?_
  refine ww_icmp_ne_t (tgt := 47) C dX12_nameHere_13 (by decide) (by decide) ?_
  refine ww_iconst (v := 0) C dX12_nameHere_47 rfl ?_
  refine ww_istore_n (lv' := [(2, .int 0), (1, .int 6), (3, .int 0), (0, .ref hm)]) C dX12_nameHere_48 rfl rfl rfl ?_
  refine ww_iconst (v := 0) C dX12_nameHere_49 rfl ?_
  refine ww_istore_n (lv' := [(3, .int 0), (2, .int 0), (1, .int 6), (0, .ref hm)]) C dX12_nameHere_50 rfl rfl rfl ?_
  refine ww_iload_n C dX12_nameHere_51 1 rfl rfl ?_
  refine ww_if_eq_t (tgt := 106) C dX12_nameHere_52 (by decide) (rfl) ?_
  refine ww_iload_n C dX12_nameHere_106 1 rfl rfl ?_
  refine ww_if_eq_t (tgt := 112) C dX12_nameHere_107 (by decide) (rfl) ?_
  refine ww_iinc (j := 2) (v := 7) (lv' := [(1, .int 7), (3, .int 0), (2, .int 0), (0, .ref hm)]) C dX12_nameHere_112 rfl rfl rfl rfl ?_
  refine ww_goto (tgt := 2) C dX12_nameHere_115 (by decide) ?_
  refine ww_iload_n C dX12_nameHere_2 0 rfl rfl ?_
  refine ww_bipush (v := 14) C dX12_nameHere_3 rfl ?_
  refine ww_icmp_ge_f (tgt := 118) C dX12_nameHere_5 (by decide) (by decide) ?_
  refine ww_aload_n C dX12_nameHere_8 3 rfl rfl ?_
  refine ww_get C fg_X12_175 0 rfl rfl dX12_nameHere_9 ?_
  refine ww_iconst (v := 1) C dX12_nameHere_12 rfl ?_
  refine ww_icmp_ne_t (tgt := 47) C dX12_nameHere_13 (by decide) (by decide) ?_
  refine ww_iconst (v := 0) C dX12_nameHere_47 rfl ?_
  refine ww_istore_n (lv' := [(2, .int 0), (1, .int 7), (3, .int 0), (0, .ref hm)]) C dX12_nameHere_48 rfl rfl rfl ?_
  refine ww_iconst (v := 0) C dX12_nameHere_49 rfl ?_
  refine ww_istore_n (lv' := [(3, .int 0), (2, .int 0), (1, .int 7), (0, .ref hm)]) C dX12_nameHere_50 rfl rfl rfl ?_
  refine ww_iload_n C dX12_nameHere_51 1 rfl rfl ?_
  refine ww_if_eq_t (tgt := 106) C dX12_nameHere_52 (by decide) (rfl) ?_
  refine ww_iload_n C dX12_nameHere_106 1 rfl rfl ?_
  refine ww_if_eq_t (tgt := 112) C dX12_nameHere_107 (by decide) (rfl) ?_
  refine ww_iinc (j := 2) (v := 8) (lv' := [(1, .int 8), (3, .int 0), (2, .int 0), (0, .ref hm)]) C dX12_nameHere_112 rfl rfl rfl rfl ?_
  refine ww_goto (tgt := 2) C dX12_nameHere_115 (by decide) ?_
  refine ww_iload_n C dX12_nameHere_2 0 rfl rfl ?_
  refine ww_bipush (v := 14) C dX12_nameHere_3 rfl ?_
  refine ww_icmp_ge_f (tgt := 118) C dX12_nameHere_5 (by decide) (by decide) ?_
  refine ww_aload_n C dX12_nameHere_8 3 rfl rfl ?_
  refine ww_get C fg_X12_175 0 rfl rfl dX12_nameHere_9 ?_
  refine ww_iconst (v := 1) C dX12_nameHere_12 rfl ?_
  refine ww_icmp_ne_t (tgt := 47) C dX12_nameHere_13 (by decide) (by decide) ?_
  refine ww_iconst (v := 0) C dX12_nameHere_47 rfl ?_
  refine ww_istore_n (lv' := [(2, .int 0), (1, .int 8), (3, .int 0), (0, .ref hm)]) C dX12_nameHere_48 rfl rfl rfl ?_
  refine ww_iconst (v := 0) C dX12_nameHere_49 rfl ?_
  refine ww_istore_n (lv' := [(3, .int 0), (2, .int 0), (1, .int 8), (0, .ref hm)]) C dX12_nameHere_50 rfl rfl rfl ?_
  refine ww_iload_n C dX12_nameHere_51 1 rfl rfl ?_
  refine ww_if_eq_t (tgt := 106) C dX12_nameHere_52 (by decide) (rfl) ?_
  refine ww_iload_n C dX12_nameHere_106 1 rfl rfl ?_
  refine ww_if_eq_t (tgt := 112) C dX12_nameHere_107 (by decide) (rfl) ?_
  refine ww_iinc (j := 2) (v := 9) (lv' := [(1, .int 9), (3, .int 0), (2, .int 0), (0, .ref hm)]) C dX12_nameHere_112 rfl rfl rfl rfl ?_
  refine ww_goto (tgt := 2) C dX12_nameHere_115 (by decide) ?_
  refine ww_iload_n C dX12_nameHere_2 0 rfl rfl ?_
  refine ww_bipush (v := 14) C dX12_nameHere_3 rfl ?_
  refine ww_icmp_ge_f (tgt := 118) C dX12_nameHere_5 (by decide) (by decide) ?_
  refine ww_aload_n C dX12_nameHere_8 3 rfl rfl ?_
  refine ww_get C fg_X12_175 0 rfl rfl dX12_nameHere_9 ?_
  refine ww_iconst (v := 1) C dX12_nameHere_12 rfl ?_
  refine ww_icmp_ne_t (tgt := 47) C dX12_nameHere_13 (by decide) (by decide) ?_
  refine ww_iconst (v := 0) C dX12_nameHere_47 rfl ?_
  refine ww_istore_n (lv' := [(2, .int 0), (1, .int 9), (3, .int 0), (0, .ref hm)]) C dX12_nameHere_48 rfl rfl rfl ?_
  refine ww_iconst (v := 0) C dX12_nameHere_49 rfl ?_
  refine ww_istore_n (lv' := [(3, .int 0), (2, .int 0), (1, .int 9), (0, .ref hm)]) C dX12_nameHere_50 rfl rfl rfl ?_
  refine ww_iload_n C dX12_nameHere_51 1 rfl rfl ?_
  refine ww_if_eq_t (tgt := 106) C dX12_nameHere_52 (by decide) (rfl) ?_
  refine ww_iload_n C dX12_nameHere_106 1 rfl rfl ?_
  refine ww_if_eq_t (tgt := 112) C dX12_nameHere_107 (by decide) (rfl) ?_
  refine ww_iinc (j := 2) (v := 10) (lv' := [(1, .int 10), (3, .int 0), (2, .int 0), (0, .ref hm)]) C dX12_nameHere_112 rfl rfl rfl rfl ?_
  refine ww_goto (tgt := 2) C dX12_nameHere_115 (by decide) ?_
  refine ww_iload_n C dX12_nameHere_2 0 rfl rfl ?_
  refine ww_bipush (v := 14) C dX12_nameHere_3 rfl ?_
  refine ww_icmp_ge_f (tgt := 118) C dX12_nameHere_5 (by decide) (by decide) ?_
  refine ww_aload_n C dX12_nameHere_8 3 rfl rfl ?_
  refine ww_get C fg_X12_175 0 rfl rfl dX12_nameHere_9 ?_
  refine ww_iconst (v := 1) C dX12_nameHere_12 rfl ?_
  refine ww_icmp_ne_t (tgt := 47) C dX12_nameHere_13 (by decide) (by decide) ?_
  refine ww_iconst (v := 0) C dX12_nameHere_47 rfl ?_
  refine ww_istore_n (lv' := [(2, .int 0), (1, .int 10), (3, .int 0), (0, .ref hm)]) C dX12_nameHere_48 rfl rfl rfl ?_
  refine ww_iconst (v := 0) C dX12_nameHere_49 rfl ?_
  refine ww_istore_n (lv' := [(3, .int 0), (2, .int 0), (1, .int 10), (0, .ref hm)]) C dX12_nameHere_50 rfl rfl rfl ?_
  refine ww_iload_n C dX12_nameHere_51 1 rfl rfl ?_
  refine ww_if_eq_t (tgt := 106) C dX12_nameHere_52 (by decide) (rfl) ?_
  refine ww_iload_n C dX12_nameHere_106 1 rfl rfl ?_
  refine ww_if_eq_t (tgt := 112) C dX12_nameHere_107 (by decide) (rfl) ?_
  refine ww_iinc (j := 2) (v := 11) (lv' := [(1, .int 11), (3, .int 0), (2, .int 0), (0, .ref hm)]) C dX12_nameHere_112 rfl rfl rfl rfl ?_
  refine ww_goto (tgt := 2) C dX12_nameHere_115 (by decide) ?_
  refine ww_iload_n C dX12_nameHere_2 0 rfl rfl ?_
  refine ww_bipush (v := 14) C dX12_nameHere_3 rfl ?_
  refine ww_icmp_ge_f (tgt := 118) C dX12_nameHere_5 (by decide) (by decide) ?_
  refine ww_aload_n C dX12_nameHere_8 3 rfl rfl ?_
  refine ww_get C fg_X12_175 0 rfl rfl dX12_nameHere_9 ?_
  refine ww_iconst (v := 1) C dX12_nameHere_12 rfl ?_
  refine ww_icmp_ne_t (tgt := 47) C dX12_nameHere_13 (by decide) (by decide) ?_
  refine ww_iconst (v := 0) C dX12_nameHere_47 rfl ?_
  refine ww_istore_n (lv' := [(2, .int 0), (1, .int 11), (3, .int 0), (0, .ref hm)]) C dX12_nameHere_48 rfl rfl rfl ?_
  refine ww_iconst (v := 0) C dX12_nameHere_49 rfl ?_
  refine ww_istore_n (lv' := [(3, .int 0), (2, .int 0), (1, .int 11), (0, .ref hm)]) C dX12_nameHere_50 rfl rfl rfl ?_
  refine ww_iload_n C dX12_nameHere_51 1 rfl rfl ?_
  refine ww_if_eq_t (tgt := 106) C dX12_nameHere_52 (by decide) (rfl) ?_
  refine ww_iload_n C dX12_nameHere_106 1 rfl rfl ?_
  refine ww_if_eq_t (tgt := 112) C dX12_nameHere_107 (by decide) (rfl) ?_
  refine ww_iinc (j := 2) (v := 12) (lv' := [(1, .int 12), (3, .int 0), (2, .int 0), (0, .ref hm)]) C dX12_nameHere_112 rfl rfl rfl rfl ?_
  refine ww_goto (tgt := 2) C dX12_nameHere_115 (by decide) ?_
  refine ww_iload_n C dX12_nameHere_2 0 rfl rfl ?_
  refine ww_bipush (v := 14) C dX12_nameHere_3 rfl ?_
  refine ww_icmp_ge_f (tgt := 118) C dX12_nameHere_5 (by decide) (by decide) ?_
  refine ww_aload_n C dX12_nameHere_8 3 rfl rfl ?_
  refine ww_get C fg_X12_175 0 rfl rfl dX12_nameHere_9 ?_
  refine ww_iconst (v := 1) C dX12_nameHere_12 rfl ?_
  refine ww_icmp_ne_t (tgt := 47) C dX12_nameHere_13 (by decide) (by decide) ?_
  refine ww_iconst (v := 0) C dX12_nameHere_47 rfl ?_
  refine ww_istore_n (lv' := [(2, .int 0), (1, .int 12), (3, .int 0), (0, .ref hm)]) C dX12_nameHere_48 rfl rfl rfl ?_
  refine ww_iconst (v := 0) C dX12_nameHere_49 rfl ?_
  refine ww_istore_n (lv' := [(3, .int 0), (2, .int 0), (1, .int 12), (0, .ref hm)]) C dX12_nameHere_50 rfl rfl rfl ?_
  refine ww_iload_n C dX12_nameHere_51 1 rfl rfl ?_
  refine ww_if_eq_t (tgt := 106) C dX12_nameHere_52 (by decide) (rfl) ?_
  refine ww_iload_n C dX12_nameHere_106 1 rfl rfl ?_
  refine ww_if_eq_t (tgt := 112) C dX12_nameHere_107 (by decide) (rfl) ?_
  refine ww_iinc (j := 2) (v := 13) (lv' := [(1, .int 13), (3, .int 0), (2, .int 0), (0, .ref hm)]) C dX12_nameHere_112 rfl rfl rfl rfl ?_
  refine ww_goto (tgt := 2) C dX12_nameHere_115 (by decide) ?_
  refine ww_iload_n C dX12_nameHere_2 0 rfl rfl ?_
  refine ww_bipush (v := 14) C dX12_nameHere_3 rfl ?_
  refine ww_icmp_ge_f (tgt := 118) C dX12_nameHere_5 (by decide) (by decide) ?_
  refine ww_aload_n C dX12_nameHere_8 3 rfl rfl ?_
  refine ww_get C fg_X12_175 0 rfl rfl dX12_nameHere_9 ?_
  refine ww_iconst (v := 1) C dX12_nameHere_12 rfl ?_
  refine ww_icmp_ne_t (tgt := 47) C dX12_nameHere_13 (by decide) (by decide) ?_
  refine ww_iconst (v := 0) C dX12_nameHere_47 rfl ?_
  refine ww_istore_n (lv' := [(2, .int 0), (1, .int 13), (3, .int 0), (0, .ref hm)]) C dX12_nameHere_48 rfl rfl rfl ?_
  refine ww_iconst (v := 0) C dX12_nameHere_49 rfl ?_
  refine ww_istore_n (lv' := [(3, .int 0), (2, .int 0), (1, .int 13), (0, .ref hm)]) C dX12_nameHere_50 rfl rfl rfl ?_
  refine ww_iload_n C dX12_nameHere_51 1 rfl rfl ?_
  refine ww_if_eq_t (tgt := 106) C dX12_nameHere_52 (by decide) (rfl) ?_
  refine ww_iload_n C dX12_nameHere_106 1 rfl rfl ?_
  refine ww_if_eq_t (tgt := 112) C dX12_nameHere_107 (by decide) (rfl) ?_
  refine ww_iinc (j := 2) (v := 14) (lv' := [(1, .int 14), (3, .int 0), (2, .int 0), (0, .ref hm)]) C dX12_nameHere_112 rfl rfl rfl rfl ?_
  refine ww_goto (tgt := 2) C dX12_nameHere_115 (by decide) ?_
  refine ww_iload_n C dX12_nameHere_2 0 rfl rfl ?_
  refine ww_bipush (v := 14) C dX12_nameHere_3 rfl ?_
  refine ww_icmp_ge_t (tgt := 118) C dX12_nameHere_5 (by decide) (by decide) ?_
  refine ww_bipush (v := (-4)) C dX12_nameHere_118 rfl ?_
  exact ww_iret (u := [(hm, .inr (12, [.ref m_manys, .ref m_reals, .ref m_factsOf, .ref m_possible, .int 0, .int 0, .ref m_tape, .int 0, .int 0, .int 0, .int 0, .int 0, .int 0, .int 0, .int 0, .ref m_ends, .ref m_letters, .ref m_actOf, .ref m_whom, .ref m_actMany, .ref m_tokens, .ref m_afters, .ref m_afterOf, .int 0, .ref m_pile, .ref m_caseMany, .ref m_happen, .ref m_hasIf, .ref m_becomes, .ref m_goneOf, .ref m_heard, .ref m_pairs, .ref m_heaps, .int 0, .int 0, .ref m_led, .ref m_newAt, .ref m_knowing, .ref m_firsts, .int 0, .ref m_secrets, .ref m_tried, .ref m_lanes, .ref m_lengths, .ref m_cells]))]) C hT [0] rfl rfl rfl rfl dX12_nameHere_120 (⟨rfl, rfl⟩)
theorem dX12_counts_0 : decode cX12_counts 0 = .ok (.aload_n 0, 1) := by decide +kernel
theorem dX12_counts_1 : decode cX12_counts 1 = .ok (.getfield 157, 3) := by decide +kernel
theorem dX12_counts_4 : decode cX12_counts 4 = .ok (.ifCond .ne 24, 3) := by decide +kernel
theorem dX12_counts_7 : decode cX12_counts 7 = .ok (.aload_n 0, 1) := by decide +kernel
theorem dX12_counts_8 : decode cX12_counts 8 = .ok (.getfield 175, 3) := by decide +kernel
theorem dX12_counts_11 : decode cX12_counts 11 = .ok (.ifCond .eq 17, 3) := by decide +kernel
theorem dX12_counts_28 : decode cX12_counts 28 = .ok (.aload_n 0, 1) := by decide +kernel
theorem dX12_counts_29 : decode cX12_counts 29 = .ok (.dup, 1) := by decide +kernel
theorem dX12_counts_30 : decode cX12_counts 30 = .ok (.getfield 191, 3) := by decide +kernel
theorem wf_X12_191 : Cond.fieldLink RX12 191 RX12 "counted" "I" ∈ TB := tbm (tq5 (List.mem_of_getElem? (i := 101) (by decide +kernel))) (by decide +kernel)
theorem fg_X12_191 : FG RX12 191 12 23 := ⟨RX12, TX12, 45, uw_X12, wf_X12_191, rfl, by decide, rfl⟩
theorem dX12_counts_33 : decode cX12_counts 33 = .ok (.iconst 1, 1) := by decide +kernel
theorem dX12_counts_34 : decode cX12_counts 34 = .ok (.iadd, 1) := by decide +kernel
theorem dX12_counts_35 : decode cX12_counts 35 = .ok (.putfield 191, 3) := by decide +kernel
theorem fp_X12_191 : FP RX12 191 12 23 .int false := ⟨RX12, TX12, 45, tyX12, uw_X12, wf_X12_191, rfl, by decide, rfl, tyX12_ok, nmX12, rfl, by decide +kernel⟩
theorem dX12_counts_38 : decode cX12_counts 38 = .ok (.return_, 1) := by decide +kernel
set_option maxRecDepth 100000 in
set_option maxHeartbeats 4000000 in
theorem r_counts (l : Launch) (E : EV) (hm : Nat) (m_manys : Nat) (m_reals : Nat) (m_factsOf : Nat) (m_possible : Nat) (m_tape : Nat) (m_ends : Nat) (m_letters : Nat) (m_actOf : Nat) (m_whom : Nat) (m_actMany : Nat) (m_tokens : Nat) (m_afters : Nat) (m_afterOf : Nat) (m_pile : Nat) (m_caseMany : Nat) (m_happen : Nat) (m_hasIf : Nat) (m_becomes : Nat) (m_goneOf : Nat) (m_heard : Nat) (m_pairs : Nat) (m_heaps : Nat) (m_led : Nat) (m_newAt : Nat) (m_knowing : Nat) (m_firsts : Nat) (m_secrets : Nat) (m_tried : Nat) (m_lanes : Nat) (m_lengths : Nat) (m_cells : Nat)  : CT l yX12_counts (Cond.code yX12_counts cX12_counts 1 none :: TB) ({ frames := 0, cells := 0, slots := 0, locals := 0 }) E [.ref hm] [(hm, .inr (12, [.ref m_manys, .ref m_reals, .ref m_factsOf, .ref m_possible, .int 0, .int 0, .ref m_tape, .int 0, .int 0, .int 0, .int 0, .int 0, .int 0, .int 0, .int 0, .ref m_ends, .ref m_letters, .ref m_actOf, .ref m_whom, .ref m_actMany, .ref m_tokens, .ref m_afters, .ref m_afterOf, .int 0, .ref m_pile, .ref m_caseMany, .ref m_happen, .ref m_hasIf, .ref m_becomes, .ref m_goneOf, .ref m_heard, .ref m_pairs, .ref m_heaps, .int 0, .int 0, .ref m_led, .ref m_newAt, .ref m_knowing, .ref m_firsts, .int 0, .ref m_secrets, .ref m_tried, .ref m_lanes, .ref m_lengths, .ref m_cells]))] (Qv E (fun u => (u = [(hm, .inr (12, [.ref m_manys, .ref m_reals, .ref m_factsOf, .ref m_possible, .int 0, .int 0, .ref m_tape, .int 0, .int 0, .int 0, .int 0, .int 0, .int 0, .int 0, .int 0, .ref m_ends, .ref m_letters, .ref m_actOf, .ref m_whom, .ref m_actMany, .ref m_tokens, .ref m_afters, .ref m_afterOf, .int 1, .ref m_pile, .ref m_caseMany, .ref m_happen, .ref m_hasIf, .ref m_becomes, .ref m_goneOf, .ref m_heard, .ref m_pairs, .ref m_heaps, .int 0, .int 0, .ref m_led, .ref m_newAt, .ref m_knowing, .ref m_firsts, .int 0, .ref m_secrets, .ref m_tried, .ref m_lanes, .ref m_lengths, .ref m_cells]))]))) 0 0 := by
  refine ct_of rfl rfl ?_
  intro X C hT hin
  show WW X 1 E 0 [(0, .ref hm)] [] [(hm, .inr (12, [.ref m_manys, .ref m_reals, .ref m_factsOf, .ref m_possible, .int 0, .int 0, .ref m_tape, .int 0, .int 0, .int 0, .int 0, .int 0, .int 0, .int 0, .int 0, .ref m_ends, .ref m_letters, .ref m_actOf, .ref m_whom, .ref m_actMany, .ref m_tokens, .ref m_afters, .ref m_afterOf, .int 0, .ref m_pile, .ref m_caseMany, .ref m_happen, .ref m_hasIf, .ref m_becomes, .ref m_goneOf, .ref m_heard, .ref m_pairs, .ref m_heaps, .int 0, .int 0, .ref m_led, .ref m_newAt, .ref m_knowing, .ref m_firsts, .int 0, .ref m_secrets, .ref m_tried, .ref m_lanes, .ref m_lengths, .ref m_cells]))] 0 0
  refine ww_aload_n C dX12_counts_0 0 rfl rfl ?_
  refine ww_get C fg_X12_157 0 rfl rfl dX12_counts_1 ?_
  refine ww_if_ne_f (tgt := 28) C dX12_counts_4 (by decide) (rfl) ?_
  refine ww_aload_n C dX12_counts_7 0 rfl rfl ?_
  refine ww_get C fg_X12_175 0 rfl rfl dX12_counts_8 ?_
  refine ww_if_eq_t (tgt := 28) C dX12_counts_11 (by decide) (rfl) ?_
  refine ww_aload_n C dX12_counts_28 0 rfl rfl ?_
  refine ww_dup C dX12_counts_29 rfl ?_
  refine ww_get C fg_X12_191 0 rfl rfl dX12_counts_30 ?_
  refine ww_iconst (v := 1) C dX12_counts_33 rfl ?_
  refine ww_iadd (v := 1) C dX12_counts_34 (by decide) ?_
  refine ww_put (ws' := [(hm, .inr (12, [.ref m_manys, .ref m_reals, .ref m_factsOf, .ref m_possible, .int 0, .int 0, .ref m_tape, .int 0, .int 0, .int 0, .int 0, .int 0, .int 0, .int 0, .int 0, .ref m_ends, .ref m_letters, .ref m_actOf, .ref m_whom, .ref m_actMany, .ref m_tokens, .ref m_afters, .ref m_afterOf, .int 1, .ref m_pile, .ref m_caseMany, .ref m_happen, .ref m_hasIf, .ref m_becomes, .ref m_goneOf, .ref m_heard, .ref m_pairs, .ref m_heaps, .int 0, .int 0, .ref m_led, .ref m_newAt, .ref m_knowing, .ref m_firsts, .int 0, .ref m_secrets, .ref m_tried, .ref m_lanes, .ref m_lengths, .ref m_cells]))]) C fp_X12_191 0 rfl rfl rfl rfl rfl dX12_counts_35 ?_
  exact ww_vret (u := [(hm, .inr (12, [.ref m_manys, .ref m_reals, .ref m_factsOf, .ref m_possible, .int 0, .int 0, .ref m_tape, .int 0, .int 0, .int 0, .int 0, .int 0, .int 0, .int 0, .int 0, .ref m_ends, .ref m_letters, .ref m_actOf, .ref m_whom, .ref m_actMany, .ref m_tokens, .ref m_afters, .ref m_afterOf, .int 1, .ref m_pile, .ref m_caseMany, .ref m_happen, .ref m_hasIf, .ref m_becomes, .ref m_goneOf, .ref m_heard, .ref m_pairs, .ref m_heaps, .int 0, .int 0, .ref m_led, .ref m_newAt, .ref m_knowing, .ref m_firsts, .int 0, .ref m_secrets, .ref m_tried, .ref m_lanes, .ref m_lengths, .ref m_cells]))]) C hT [0] rfl rfl rfl rfl dX12_counts_38 (rfl)
theorem dX12_readAfters_0 : decode cX12_readAfters 0 = .ok (.aload_n 0, 1) := by decide +kernel
theorem dX12_readAfters_1 : decode cX12_readAfters 1 = .ok (.getfield 157, 3) := by decide +kernel
theorem dX12_readAfters_4 : decode cX12_readAfters 4 = .ok (.ifCond .ne 116, 3) := by decide +kernel
theorem dX12_readAfters_7 : decode cX12_readAfters 7 = .ok (.aload_n 0, 1) := by decide +kernel
theorem dX12_readAfters_8 : decode cX12_readAfters 8 = .ok (.invokevirtual 194, 3) := by decide +kernel
theorem wl_X12_194 : Cond.methodLink RX12 194 yX12_nameHere ∈ TB := tbm (tq6 (List.mem_of_getElem? (i := 73) (by decide +kernel))) (by decide +kernel)
theorem wc_X12_nameHere : Cond.code yX12_nameHere cX12_nameHere 4 (some .int) ∈ TB := tbm (tq6 (List.mem_of_getElem? (i := 76) (rfl))) (by decide +kernel)
theorem wi_X12_nameHere : Cond.instanceMethod yX12_nameHere ∈ TB := tbm (tq6 (List.mem_of_getElem? (i := 75) (by decide +kernel))) (by decide +kernel)
theorem ws_X12_nameHere : Cond.selects RX12 yX12_nameHere yX12_nameHere ∈ TB := tbm (tq0 (List.mem_of_getElem? (i := 47) (by decide +kernel))) (by decide +kernel)
theorem mi_X12_nameHere : MI yX12_nameHere cX12_nameHere 4 (some .int) 0 := ⟨wc_X12_nameHere, wn_X12, ⟨by decide +kernel, by decide +kernel, by decide +kernel⟩, wi_X12_nameHere, ws_X12_nameHere⟩
theorem dX12_readAfters_11 : decode cX12_readAfters 11 = .ok (.bipush 13, 2) := by decide +kernel
theorem dX12_readAfters_13 : decode cX12_readAfters 13 = .ok (.if_icmp .ne 107, 3) := by decide +kernel
theorem dX12_readAfters_120 : decode cX12_readAfters 120 = .ok (.return_, 1) := by decide +kernel
set_option maxRecDepth 100000 in
set_option maxHeartbeats 4000000 in
theorem r_readAfters (l : Launch) (E : EV) (hm : Nat) (m_manys : Nat) (m_reals : Nat) (m_factsOf : Nat) (m_possible : Nat) (m_tape : Nat) (m_ends : Nat) (m_letters : Nat) (m_actOf : Nat) (m_whom : Nat) (m_actMany : Nat) (m_tokens : Nat) (m_afters : Nat) (m_afterOf : Nat) (m_pile : Nat) (m_caseMany : Nat) (m_happen : Nat) (m_hasIf : Nat) (m_becomes : Nat) (m_goneOf : Nat) (m_heard : Nat) (m_pairs : Nat) (m_heaps : Nat) (m_led : Nat) (m_newAt : Nat) (m_knowing : Nat) (m_firsts : Nat) (m_secrets : Nat) (m_tried : Nat) (m_lanes : Nat) (m_lengths : Nat) (m_cells : Nat)  : CT l yX12_readAfters (Cond.code yX12_readAfters cX12_readAfters 1 none :: TB) ({ frames := 1, cells := 0, slots := 0, locals := 23 }) E [.ref hm] [(hm, .inr (12, [.ref m_manys, .ref m_reals, .ref m_factsOf, .ref m_possible, .int 0, .int 0, .ref m_tape, .int 0, .int 0, .int 0, .int 0, .int 0, .int 0, .int 0, .int 0, .ref m_ends, .ref m_letters, .ref m_actOf, .ref m_whom, .ref m_actMany, .ref m_tokens, .ref m_afters, .ref m_afterOf, .int 0, .ref m_pile, .ref m_caseMany, .ref m_happen, .ref m_hasIf, .ref m_becomes, .ref m_goneOf, .ref m_heard, .ref m_pairs, .ref m_heaps, .int 0, .int 0, .ref m_led, .ref m_newAt, .ref m_knowing, .ref m_firsts, .int 0, .ref m_secrets, .ref m_tried, .ref m_lanes, .ref m_lengths, .ref m_cells]))] (Qv E (fun u => (u = [(hm, .inr (12, [.ref m_manys, .ref m_reals, .ref m_factsOf, .ref m_possible, .int 0, .int 0, .ref m_tape, .int 0, .int 0, .int 0, .int 0, .int 0, .int 0, .int 0, .int 0, .ref m_ends, .ref m_letters, .ref m_actOf, .ref m_whom, .ref m_actMany, .ref m_tokens, .ref m_afters, .ref m_afterOf, .int 0, .ref m_pile, .ref m_caseMany, .ref m_happen, .ref m_hasIf, .ref m_becomes, .ref m_goneOf, .ref m_heard, .ref m_pairs, .ref m_heaps, .int 0, .int 0, .ref m_led, .ref m_newAt, .ref m_knowing, .ref m_firsts, .int 0, .ref m_secrets, .ref m_tried, .ref m_lanes, .ref m_lengths, .ref m_cells]))]))) 0 0 := by
  refine ct_of rfl rfl ?_
  intro X C hT hin
  show WW X 1 E 0 [(0, .ref hm)] [] [(hm, .inr (12, [.ref m_manys, .ref m_reals, .ref m_factsOf, .ref m_possible, .int 0, .int 0, .ref m_tape, .int 0, .int 0, .int 0, .int 0, .int 0, .int 0, .int 0, .int 0, .ref m_ends, .ref m_letters, .ref m_actOf, .ref m_whom, .ref m_actMany, .ref m_tokens, .ref m_afters, .ref m_afterOf, .int 0, .ref m_pile, .ref m_caseMany, .ref m_happen, .ref m_hasIf, .ref m_becomes, .ref m_goneOf, .ref m_heard, .ref m_pairs, .ref m_heaps, .int 0, .int 0, .ref m_led, .ref m_newAt, .ref m_knowing, .ref m_firsts, .int 0, .ref m_secrets, .ref m_tried, .ref m_lanes, .ref m_lengths, .ref m_cells]))] 0 0
  refine ww_aload_n C dX12_readAfters_0 0 rfl rfl ?_
  refine ww_get C fg_X12_157 0 rfl rfl dX12_readAfters_1 ?_
  refine ww_if_ne_f (tgt := 120) C dX12_readAfters_4 (by decide) (rfl) ?_
  refine ww_aload_n C dX12_readAfters_7 0 rfl rfl ?_
  refine ww_ci (wr := []) (k' := 0) (n' := 0) C (run_V (As := []) (rest := []) C (r_nameHere X.2.1 E hm m_manys m_reals m_factsOf m_possible m_tape m_ends m_letters m_actOf m_whom m_actMany m_tokens m_afters m_afterOf m_pile m_caseMany m_happen m_hasIf m_becomes m_goneOf m_heard m_pairs m_heaps m_led m_newAt m_knowing m_firsts m_secrets m_tried m_lanes m_lengths m_cells) mi_X12_nameHere wl_X12_194 rfl 0 12 rfl rfl rfl rfl rfl dX12_readAfters_8) [0] [] rfl rfl rfl rfl (fun r u hw => ?_)
  obtain ⟨rfl, rfl⟩ := hw
  refine ww_eq (ws' := [(hm, .inr (12, [.ref m_manys, .ref m_reals, .ref m_factsOf, .ref m_possible, .int 0, .int 0, .ref m_tape, .int 0, .int 0, .int 0, .int 0, .int 0, .int 0, .int 0, .int 0, .ref m_ends, .ref m_letters, .ref m_actOf, .ref m_whom, .ref m_actMany, .ref m_tokens, .ref m_afters, .ref m_afterOf, .int 0, .ref m_pile, .ref m_caseMany, .ref m_happen, .ref m_hasIf, .ref m_becomes, .ref m_goneOf, .ref m_heard, .ref m_pairs, .ref m_heaps, .int 0, .int 0, .ref m_led, .ref m_newAt, .ref m_knowing, .ref m_firsts, .int 0, .ref m_secrets, .ref m_tried, .ref m_lanes, .ref m_lengths, .ref m_cells]))]) ?_ rfl rfl rfl
  refine ww_bipush (v := 13) C dX12_readAfters_11 rfl ?_
  refine ww_icmp_ne_t (tgt := 120) C dX12_readAfters_13 (by decide) (by decide) ?_
  exact ww_vret (u := [(hm, .inr (12, [.ref m_manys, .ref m_reals, .ref m_factsOf, .ref m_possible, .int 0, .int 0, .ref m_tape, .int 0, .int 0, .int 0, .int 0, .int 0, .int 0, .int 0, .int 0, .ref m_ends, .ref m_letters, .ref m_actOf, .ref m_whom, .ref m_actMany, .ref m_tokens, .ref m_afters, .ref m_afterOf, .int 0, .ref m_pile, .ref m_caseMany, .ref m_happen, .ref m_hasIf, .ref m_becomes, .ref m_goneOf, .ref m_heard, .ref m_pairs, .ref m_heaps, .int 0, .int 0, .ref m_led, .ref m_newAt, .ref m_knowing, .ref m_firsts, .int 0, .ref m_secrets, .ref m_tried, .ref m_lanes, .ref m_lengths, .ref m_cells]))]) C hT [0] rfl rfl rfl rfl dX12_readAfters_120 (rfl)
theorem dX12_readAct_0 : decode cX12_readAct 0 = .ok (.aload_n 0, 1) := by decide +kernel
theorem dX12_readAct_1 : decode cX12_readAct 1 = .ok (.invokevirtual 194, 3) := by decide +kernel
theorem dX12_readAct_4 : decode cX12_readAct 4 = .ok (.istore_n 1, 1) := by decide +kernel
theorem dX12_readAct_5 : decode cX12_readAct 5 = .ok (.aload_n 0, 1) := by decide +kernel
theorem dX12_readAct_6 : decode cX12_readAct 6 = .ok (.invokevirtual 198, 3) := by decide +kernel
theorem wl_X12_198 : Cond.methodLink RX12 198 yX12_counts ∈ TB := tbm (tq6 (List.mem_of_getElem? (i := 81) (by decide +kernel))) (by decide +kernel)
theorem wc_X12_counts : Cond.code yX12_counts cX12_counts 1 none ∈ TB := tbm (tq6 (List.mem_of_getElem? (i := 84) (rfl))) (by decide +kernel)
theorem wi_X12_counts : Cond.instanceMethod yX12_counts ∈ TB := tbm (tq6 (List.mem_of_getElem? (i := 83) (by decide +kernel))) (by decide +kernel)
theorem ws_X12_counts : Cond.selects RX12 yX12_counts yX12_counts ∈ TB := tbm (tq0 (List.mem_of_getElem? (i := 49) (by decide +kernel))) (by decide +kernel)
theorem mi_X12_counts : MI yX12_counts cX12_counts 1 none 0 := ⟨wc_X12_counts, wn_X12, ⟨by decide +kernel, by decide +kernel, by decide +kernel⟩, wi_X12_counts, ws_X12_counts⟩
theorem dX12_readAct_9 : decode cX12_readAct 9 = .ok (.aload_n 0, 1) := by decide +kernel
theorem dX12_readAct_10 : decode cX12_readAct 10 = .ok (.getfield 157, 3) := by decide +kernel
theorem dX12_readAct_13 : decode cX12_readAct 13 = .ok (.ifCond .ne 20, 3) := by decide +kernel
theorem dX12_readAct_16 : decode cX12_readAct 16 = .ok (.iload_n 1, 1) := by decide +kernel
theorem dX12_readAct_17 : decode cX12_readAct 17 = .ok (.bipush (-4), 2) := by decide +kernel
theorem dX12_readAct_19 : decode cX12_readAct 19 = .ok (.if_icmp .eq 9, 3) := by decide +kernel
theorem dX12_readAct_28 : decode cX12_readAct 28 = .ok (.aload_n 0, 1) := by decide +kernel
theorem dX12_readAct_29 : decode cX12_readAct 29 = .ok (.iconst 2, 1) := by decide +kernel
theorem dX12_readAct_30 : decode cX12_readAct 30 = .ok (.invokevirtual 186, 3) := by decide +kernel
theorem wl_X12_186 : Cond.methodLink RX12 186 yX12_fails ∈ TB := tbm (tq6 (List.mem_of_getElem? (i := 65) (by decide +kernel))) (by decide +kernel)
theorem wc_X12_fails : Cond.code yX12_fails cX12_fails 2 none ∈ TB := tbm (tq6 (List.mem_of_getElem? (i := 68) (rfl))) (by decide +kernel)
theorem wi_X12_fails : Cond.instanceMethod yX12_fails ∈ TB := tbm (tq6 (List.mem_of_getElem? (i := 67) (by decide +kernel))) (by decide +kernel)
theorem ws_X12_fails : Cond.selects RX12 yX12_fails yX12_fails ∈ TB := tbm (tq0 (List.mem_of_getElem? (i := 45) (by decide +kernel))) (by decide +kernel)
theorem mi_X12_fails : MI yX12_fails cX12_fails 2 none 1 := ⟨wc_X12_fails, wn_X12, ⟨by decide +kernel, by decide +kernel, by decide +kernel⟩, wi_X12_fails, ws_X12_fails⟩
theorem dX12_readAct_33 : decode cX12_readAct 33 = .ok (.iconst 0, 1) := by decide +kernel
theorem dX12_readAct_34 : decode cX12_readAct 34 = .ok (.istore_n 2, 1) := by decide +kernel
theorem dX12_readAct_35 : decode cX12_readAct 35 = .ok (.aload_n 0, 1) := by decide +kernel
theorem dX12_readAct_36 : decode cX12_readAct 36 = .ok (.getfield 157, 3) := by decide +kernel
theorem dX12_readAct_39 : decode cX12_readAct 39 = .ok (.ifCond .ne 63, 3) := by decide +kernel
theorem dX12_readAct_102 : decode cX12_readAct 102 = .ok (.aload_n 0, 1) := by decide +kernel
theorem dX12_readAct_103 : decode cX12_readAct 103 = .ok (.invokevirtual 201, 3) := by decide +kernel
theorem wl_X12_201 : Cond.methodLink RX12 201 yX12_next ∈ TB := tbm (tq6 (List.mem_of_getElem? (i := 53) (by decide +kernel))) (by decide +kernel)
theorem wc_X12_next : Cond.code yX12_next cX12_next 2 none ∈ TB := tbm (tq6 (List.mem_of_getElem? (i := 56) (rfl))) (by decide +kernel)
theorem wi_X12_next : Cond.instanceMethod yX12_next ∈ TB := tbm (tq6 (List.mem_of_getElem? (i := 55) (by decide +kernel))) (by decide +kernel)
theorem ws_X12_next : Cond.selects RX12 yX12_next yX12_next ∈ TB := tbm (tq0 (List.mem_of_getElem? (i := 43) (by decide +kernel))) (by decide +kernel)
theorem mi_X12_next : MI yX12_next cX12_next 2 none 0 := ⟨wc_X12_next, wn_X12, ⟨by decide +kernel, by decide +kernel, by decide +kernel⟩, wi_X12_next, ws_X12_next⟩
theorem dX12_readAct_106 : decode cX12_readAct 106 = .ok (.aload_n 0, 1) := by decide +kernel
theorem dX12_readAct_107 : decode cX12_readAct 107 = .ok (.getfield 157, 3) := by decide +kernel
theorem dX12_readAct_110 : decode cX12_readAct 110 = .ok (.ifCond .ne 40, 3) := by decide +kernel
theorem dX12_readAct_150 : decode cX12_readAct 150 = .ok (.return_, 1) := by decide +kernel
set_option maxRecDepth 100000 in
set_option maxHeartbeats 4000000 in
theorem r_readAct (l : Launch) (E : EV) (hm : Nat) (m_manys : Nat) (m_reals : Nat) (m_factsOf : Nat) (m_possible : Nat) (m_tape : Nat) (m_ends : Nat) (m_letters : Nat) (m_actOf : Nat) (m_whom : Nat) (m_actMany : Nat) (m_tokens : Nat) (m_afters : Nat) (m_afterOf : Nat) (m_pile : Nat) (m_caseMany : Nat) (m_happen : Nat) (m_hasIf : Nat) (m_becomes : Nat) (m_goneOf : Nat) (m_heard : Nat) (m_pairs : Nat) (m_heaps : Nat) (m_led : Nat) (m_newAt : Nat) (m_knowing : Nat) (m_firsts : Nat) (m_secrets : Nat) (m_tried : Nat) (m_lanes : Nat) (m_lengths : Nat) (m_cells : Nat)  : CT l yX12_readAct (Cond.code yX12_readAct cX12_readAct 4 none :: TB) ({ frames := 1, cells := 0, slots := 0, locals := 23 }) E [.ref hm] [(hm, .inr (12, [.ref m_manys, .ref m_reals, .ref m_factsOf, .ref m_possible, .int 0, .int 0, .ref m_tape, .int 0, .int 0, .int 0, .int 0, .int 0, .int 0, .int 0, .int 0, .ref m_ends, .ref m_letters, .ref m_actOf, .ref m_whom, .ref m_actMany, .ref m_tokens, .ref m_afters, .ref m_afterOf, .int 0, .ref m_pile, .ref m_caseMany, .ref m_happen, .ref m_hasIf, .ref m_becomes, .ref m_goneOf, .ref m_heard, .ref m_pairs, .ref m_heaps, .int 0, .int 0, .ref m_led, .ref m_newAt, .ref m_knowing, .ref m_firsts, .int 0, .ref m_secrets, .ref m_tried, .ref m_lanes, .ref m_lengths, .ref m_cells]))] (Qv E (fun u => (u = [(hm, .inr (12, [.ref m_manys, .ref m_reals, .ref m_factsOf, .ref m_possible, .int 0, .int 0, .ref m_tape, .int 0, .int 0, .int 2, .int 0, .int 0, .int 0, .int 0, .int 0, .ref m_ends, .ref m_letters, .ref m_actOf, .ref m_whom, .ref m_actMany, .ref m_tokens, .ref m_afters, .ref m_afterOf, .int 1, .ref m_pile, .ref m_caseMany, .ref m_happen, .ref m_hasIf, .ref m_becomes, .ref m_goneOf, .ref m_heard, .ref m_pairs, .ref m_heaps, .int 0, .int 0, .ref m_led, .ref m_newAt, .ref m_knowing, .ref m_firsts, .int 0, .ref m_secrets, .ref m_tried, .ref m_lanes, .ref m_lengths, .ref m_cells]))]))) 0 0 := by
  refine ct_of rfl rfl ?_
  intro X C hT hin
  show WW X 4 E 0 [(0, .ref hm)] [] [(hm, .inr (12, [.ref m_manys, .ref m_reals, .ref m_factsOf, .ref m_possible, .int 0, .int 0, .ref m_tape, .int 0, .int 0, .int 0, .int 0, .int 0, .int 0, .int 0, .int 0, .ref m_ends, .ref m_letters, .ref m_actOf, .ref m_whom, .ref m_actMany, .ref m_tokens, .ref m_afters, .ref m_afterOf, .int 0, .ref m_pile, .ref m_caseMany, .ref m_happen, .ref m_hasIf, .ref m_becomes, .ref m_goneOf, .ref m_heard, .ref m_pairs, .ref m_heaps, .int 0, .int 0, .ref m_led, .ref m_newAt, .ref m_knowing, .ref m_firsts, .int 0, .ref m_secrets, .ref m_tried, .ref m_lanes, .ref m_lengths, .ref m_cells]))] 0 0
  refine ww_aload_n C dX12_readAct_0 0 rfl rfl ?_
  refine ww_ci (wr := []) (k' := 0) (n' := 0) C (run_V (As := []) (rest := []) C (r_nameHere X.2.1 E hm m_manys m_reals m_factsOf m_possible m_tape m_ends m_letters m_actOf m_whom m_actMany m_tokens m_afters m_afterOf m_pile m_caseMany m_happen m_hasIf m_becomes m_goneOf m_heard m_pairs m_heaps m_led m_newAt m_knowing m_firsts m_secrets m_tried m_lanes m_lengths m_cells) mi_X12_nameHere wl_X12_194 rfl 0 12 rfl rfl rfl rfl rfl dX12_readAct_1) [0] [] rfl rfl rfl rfl (fun r u hw => ?_)
  obtain ⟨rfl, rfl⟩ := hw
  refine ww_eq (ws' := [(hm, .inr (12, [.ref m_manys, .ref m_reals, .ref m_factsOf, .ref m_possible, .int 0, .int 0, .ref m_tape, .int 0, .int 0, .int 0, .int 0, .int 0, .int 0, .int 0, .int 0, .ref m_ends, .ref m_letters, .ref m_actOf, .ref m_whom, .ref m_actMany, .ref m_tokens, .ref m_afters, .ref m_afterOf, .int 0, .ref m_pile, .ref m_caseMany, .ref m_happen, .ref m_hasIf, .ref m_becomes, .ref m_goneOf, .ref m_heard, .ref m_pairs, .ref m_heaps, .int 0, .int 0, .ref m_led, .ref m_newAt, .ref m_knowing, .ref m_firsts, .int 0, .ref m_secrets, .ref m_tried, .ref m_lanes, .ref m_lengths, .ref m_cells]))]) ?_ rfl rfl rfl
  refine ww_istore_n (lv' := [(1, .int (-4)), (0, .ref hm)]) C dX12_readAct_4 rfl rfl rfl ?_
  refine ww_aload_n C dX12_readAct_5 1 rfl rfl ?_
  refine ww_cv (wr := []) (k' := 0) (n' := 0) C (run_V (As := []) (rest := []) C (r_counts X.2.1 E hm m_manys m_reals m_factsOf m_possible m_tape m_ends m_letters m_actOf m_whom m_actMany m_tokens m_afters m_afterOf m_pile m_caseMany m_happen m_hasIf m_becomes m_goneOf m_heard m_pairs m_heaps m_led m_newAt m_knowing m_firsts m_secrets m_tried m_lanes m_lengths m_cells) mi_X12_counts wl_X12_198 rfl 0 12 rfl rfl rfl rfl rfl dX12_readAct_6) [0] [] rfl rfl rfl rfl (fun u hw => ?_)
  obtain ⟨rfl⟩ := hw
  refine ww_eq (ws' := [(hm, .inr (12, [.ref m_manys, .ref m_reals, .ref m_factsOf, .ref m_possible, .int 0, .int 0, .ref m_tape, .int 0, .int 0, .int 0, .int 0, .int 0, .int 0, .int 0, .int 0, .ref m_ends, .ref m_letters, .ref m_actOf, .ref m_whom, .ref m_actMany, .ref m_tokens, .ref m_afters, .ref m_afterOf, .int 1, .ref m_pile, .ref m_caseMany, .ref m_happen, .ref m_hasIf, .ref m_becomes, .ref m_goneOf, .ref m_heard, .ref m_pairs, .ref m_heaps, .int 0, .int 0, .ref m_led, .ref m_newAt, .ref m_knowing, .ref m_firsts, .int 0, .ref m_secrets, .ref m_tried, .ref m_lanes, .ref m_lengths, .ref m_cells]))]) ?_ rfl rfl rfl
  refine ww_aload_n C dX12_readAct_9 1 rfl rfl ?_
  refine ww_get C fg_X12_157 0 rfl rfl dX12_readAct_10 ?_
  refine ww_if_ne_f (tgt := 33) C dX12_readAct_13 (by decide) (rfl) ?_
  refine ww_iload_n C dX12_readAct_16 0 rfl rfl ?_
  refine ww_bipush (v := (-4)) C dX12_readAct_17 rfl ?_
  refine ww_icmp_eq_t (tgt := 28) C dX12_readAct_19 (by decide) (rfl) ?_
  refine ww_aload_n C dX12_readAct_28 1 rfl rfl ?_
  refine ww_iconst (v := 2) C dX12_readAct_29 rfl ?_
  refine ww_cv (wr := []) (k' := 0) (n' := 0) C (run_V (As := [.int 2]) (rest := []) C (r_fails X.2.1 E hm m_manys m_reals m_factsOf m_possible m_tape m_ends m_letters m_actOf m_whom m_actMany m_tokens m_afters m_afterOf m_pile m_caseMany m_happen m_hasIf m_becomes m_goneOf m_heard m_pairs m_heaps m_led m_newAt m_knowing m_firsts m_secrets m_tried m_lanes m_lengths m_cells) mi_X12_fails wl_X12_186 rfl 0 12 rfl rfl rfl rfl rfl dX12_readAct_30) [0] [] rfl rfl rfl rfl (fun u hw => ?_)
  obtain ⟨rfl⟩ := hw
  refine ww_eq (ws' := [(hm, .inr (12, [.ref m_manys, .ref m_reals, .ref m_factsOf, .ref m_possible, .int 0, .int 0, .ref m_tape, .int 0, .int 0, .int 2, .int 0, .int 0, .int 0, .int 0, .int 0, .ref m_ends, .ref m_letters, .ref m_actOf, .ref m_whom, .ref m_actMany, .ref m_tokens, .ref m_afters, .ref m_afterOf, .int 1, .ref m_pile, .ref m_caseMany, .ref m_happen, .ref m_hasIf, .ref m_becomes, .ref m_goneOf, .ref m_heard, .ref m_pairs, .ref m_heaps, .int 0, .int 0, .ref m_led, .ref m_newAt, .ref m_knowing, .ref m_firsts, .int 0, .ref m_secrets, .ref m_tried, .ref m_lanes, .ref m_lengths, .ref m_cells]))]) ?_ rfl rfl rfl
  refine ww_iconst (v := 0) C dX12_readAct_33 rfl ?_
  refine ww_istore_n (lv' := [(2, .int 0), (1, .int (-4)), (0, .ref hm)]) C dX12_readAct_34 rfl rfl rfl ?_
  refine ww_aload_n C dX12_readAct_35 2 rfl rfl ?_
  refine ww_get C fg_X12_157 0 rfl rfl dX12_readAct_36 ?_
  refine ww_if_ne_t (tgt := 102) C dX12_readAct_39 (by decide) (by decide) ?_
  refine ww_aload_n C dX12_readAct_102 2 rfl rfl ?_
  refine ww_cv (wr := []) (k' := 0) (n' := 0) C (run_V (As := []) (rest := []) C (r_next2 X.2.1 E hm m_manys m_reals m_factsOf m_possible m_tape m_ends m_letters m_actOf m_whom m_actMany m_tokens m_afters m_afterOf m_pile m_caseMany m_happen m_hasIf m_becomes m_goneOf m_heard m_pairs m_heaps m_led m_newAt m_knowing m_firsts m_secrets m_tried m_lanes m_lengths m_cells) mi_X12_next wl_X12_201 rfl 0 12 rfl rfl rfl rfl rfl dX12_readAct_103) [0] [] rfl rfl rfl rfl (fun u hw => ?_)
  obtain ⟨rfl⟩ := hw
  refine ww_eq (ws' := [(hm, .inr (12, [.ref m_manys, .ref m_reals, .ref m_factsOf, .ref m_possible, .int 0, .int 0, .ref m_tape, .int 0, .int 0, .int 2, .int 0, .int 0, .int 0, .int 0, .int 0, .ref m_ends, .ref m_letters, .ref m_actOf, .ref m_whom, .ref m_actMany, .ref m_tokens, .ref m_afters, .ref m_afterOf, .int 1, .ref m_pile, .ref m_caseMany, .ref m_happen, .ref m_hasIf, .ref m_becomes, .ref m_goneOf, .ref m_heard, .ref m_pairs, .ref m_heaps, .int 0, .int 0, .ref m_led, .ref m_newAt, .ref m_knowing, .ref m_firsts, .int 0, .ref m_secrets, .ref m_tried, .ref m_lanes, .ref m_lengths, .ref m_cells]))]) ?_ rfl rfl rfl
  refine ww_aload_n C dX12_readAct_106 2 rfl rfl ?_
  refine ww_get C fg_X12_157 0 rfl rfl dX12_readAct_107 ?_
  refine ww_if_ne_t (tgt := 150) C dX12_readAct_110 (by decide) (by decide) ?_
  exact ww_vret (u := [(hm, .inr (12, [.ref m_manys, .ref m_reals, .ref m_factsOf, .ref m_possible, .int 0, .int 0, .ref m_tape, .int 0, .int 0, .int 2, .int 0, .int 0, .int 0, .int 0, .int 0, .ref m_ends, .ref m_letters, .ref m_actOf, .ref m_whom, .ref m_actMany, .ref m_tokens, .ref m_afters, .ref m_afterOf, .int 1, .ref m_pile, .ref m_caseMany, .ref m_happen, .ref m_hasIf, .ref m_becomes, .ref m_goneOf, .ref m_heard, .ref m_pairs, .ref m_heaps, .int 0, .int 0, .ref m_led, .ref m_newAt, .ref m_knowing, .ref m_firsts, .int 0, .ref m_secrets, .ref m_tried, .ref m_lanes, .ref m_lengths, .ref m_cells]))]) C hT [0] rfl rfl rfl rfl dX12_readAct_150 (rfl)
theorem dX12_say_0 : decode cX12_say 0 = .ok (.iload_n 1, 1) := by decide +kernel
theorem dX12_say_1 : decode cX12_say 1 = .ok (.i2l, 1) := by decide +kernel
theorem dX12_say_2 : decode cX12_say 2 = .ok (.lconst 0, 1) := by decide +kernel
theorem dX12_say_3 : decode cX12_say 3 = .ok (.ldc2_w 207, 3) := by decide +kernel
theorem wv_X12_207 : Cond.constantLong RX12 207 7 ∈ TB := tbm (tq6 (List.mem_of_getElem? (i := 52) (by decide +kernel))) (by decide +kernel)
theorem dX12_say_6 : decode cX12_say 6 = .ok (.invokestatic 115, 3) := by decide +kernel
theorem dX12_say_9 : decode cX12_say 9 = .ok (.ifCond .ne 5, 3) := by decide +kernel
theorem dX12_say_14 : decode cX12_say 14 = .ok (.aload_n 0, 1) := by decide +kernel
theorem dX12_say_15 : decode cX12_say 15 = .ok (.iconst 0, 1) := by decide +kernel
theorem dX12_say_16 : decode cX12_say 16 = .ok (.putfield 157, 3) := by decide +kernel
theorem dX12_say_19 : decode cX12_say 19 = .ok (.aload_n 0, 1) := by decide +kernel
theorem dX12_say_20 : decode cX12_say 20 = .ok (.iconst 0, 1) := by decide +kernel
theorem dX12_say_21 : decode cX12_say 21 = .ok (.putfield 166, 3) := by decide +kernel
theorem fp_X12_166 : FP RX12 166 12 11 .int false := ⟨RX12, TX12, 45, tyX12, uw_X12, wf_X12_166, rfl, by decide, rfl, tyX12_ok, nmX12, rfl, by decide +kernel⟩
theorem dX12_say_24 : decode cX12_say 24 = .ok (.aload_n 0, 1) := by decide +kernel
theorem dX12_say_25 : decode cX12_say 25 = .ok (.iconst 0, 1) := by decide +kernel
theorem dX12_say_26 : decode cX12_say 26 = .ok (.putfield 191, 3) := by decide +kernel
theorem dX12_say_29 : decode cX12_say 29 = .ok (.aload_n 0, 1) := by decide +kernel
theorem dX12_say_30 : decode cX12_say 30 = .ok (.getfield 37, 3) := by decide +kernel
theorem fg_X12_37 : FG RX12 37 12 19 := ⟨RX12, TX12, 45, uw_X12, wf_X12_37, rfl, by decide, rfl⟩
theorem dX12_say_33 : decode cX12_say 33 = .ok (.bipush 24, 2) := by decide +kernel
theorem dX12_say_35 : decode cX12_say 35 = .ok (.iconst 0, 1) := by decide +kernel
theorem dX12_say_36 : decode cX12_say 36 = .ok (.iastore, 1) := by decide +kernel
theorem dX12_say_37 : decode cX12_say 37 = .ok (.aload_n 0, 1) := by decide +kernel
theorem dX12_say_38 : decode cX12_say 38 = .ok (.getfield 43, 3) := by decide +kernel
theorem fg_X12_43 : FG RX12 43 12 21 := ⟨RX12, TX12, 45, uw_X12, wf_X12_43, rfl, by decide, rfl⟩
theorem dX12_say_41 : decode cX12_say 41 = .ok (.bipush 8, 2) := by decide +kernel
theorem dX12_say_43 : decode cX12_say 43 = .ok (.iconst 0, 1) := by decide +kernel
theorem dX12_say_44 : decode cX12_say 44 = .ok (.iastore, 1) := by decide +kernel
theorem dX12_say_45 : decode cX12_say 45 = .ok (.aload_n 0, 1) := by decide +kernel
theorem dX12_say_46 : decode cX12_say 46 = .ok (.invokevirtual 201, 3) := by decide +kernel
theorem dX12_say_49 : decode cX12_say 49 = .ok (.aload_n 0, 1) := by decide +kernel
theorem dX12_say_50 : decode cX12_say 50 = .ok (.invokevirtual 209, 3) := by decide +kernel
theorem wl_X12_209 : Cond.methodLink RX12 209 yX12_readAfters ∈ TB := tbm (tq6 (List.mem_of_getElem? (i := 69) (by decide +kernel))) (by decide +kernel)
theorem wc_X12_readAfters : Cond.code yX12_readAfters cX12_readAfters 1 none ∈ TB := tbm (tq6 (List.mem_of_getElem? (i := 72) (rfl))) (by decide +kernel)
theorem wi_X12_readAfters : Cond.instanceMethod yX12_readAfters ∈ TB := tbm (tq6 (List.mem_of_getElem? (i := 71) (by decide +kernel))) (by decide +kernel)
theorem ws_X12_readAfters : Cond.selects RX12 yX12_readAfters yX12_readAfters ∈ TB := tbm (tq0 (List.mem_of_getElem? (i := 46) (by decide +kernel))) (by decide +kernel)
theorem mi_X12_readAfters : MI yX12_readAfters cX12_readAfters 1 none 0 := ⟨wc_X12_readAfters, wn_X12, ⟨by decide +kernel, by decide +kernel, by decide +kernel⟩, wi_X12_readAfters, ws_X12_readAfters⟩
theorem dX12_say_53 : decode cX12_say 53 = .ok (.iconst 1, 1) := by decide +kernel
theorem dX12_say_54 : decode cX12_say 54 = .ok (.istore_n 2, 1) := by decide +kernel
theorem dX12_say_55 : decode cX12_say 55 = .ok (.aload_n 0, 1) := by decide +kernel
theorem dX12_say_56 : decode cX12_say 56 = .ok (.getfield 157, 3) := by decide +kernel
theorem dX12_say_59 : decode cX12_say 59 = .ok (.ifCond .ne 51, 3) := by decide +kernel
theorem dX12_say_62 : decode cX12_say 62 = .ok (.iload_n 2, 1) := by decide +kernel
theorem dX12_say_63 : decode cX12_say 63 = .ok (.ifCond .le 47, 3) := by decide +kernel
theorem dX12_say_66 : decode cX12_say 66 = .ok (.aload_n 0, 1) := by decide +kernel
theorem dX12_say_67 : decode cX12_say 67 = .ok (.invokevirtual 212, 3) := by decide +kernel
theorem wl_X12_212 : Cond.methodLink RX12 212 yX12_readAct ∈ TB := tbm (tq6 (List.mem_of_getElem? (i := 77) (by decide +kernel))) (by decide +kernel)
theorem wc_X12_readAct : Cond.code yX12_readAct cX12_readAct 4 none ∈ TB := tbm (tq6 (List.mem_of_getElem? (i := 80) (rfl))) (by decide +kernel)
theorem wi_X12_readAct : Cond.instanceMethod yX12_readAct ∈ TB := tbm (tq6 (List.mem_of_getElem? (i := 79) (by decide +kernel))) (by decide +kernel)
theorem ws_X12_readAct : Cond.selects RX12 yX12_readAct yX12_readAct ∈ TB := tbm (tq0 (List.mem_of_getElem? (i := 48) (by decide +kernel))) (by decide +kernel)
theorem mi_X12_readAct : MI yX12_readAct cX12_readAct 4 none 0 := ⟨wc_X12_readAct, wn_X12, ⟨by decide +kernel, by decide +kernel, by decide +kernel⟩, wi_X12_readAct, ws_X12_readAct⟩
theorem dX12_say_70 : decode cX12_say 70 = .ok (.iload_n 2, 1) := by decide +kernel
theorem dX12_say_71 : decode cX12_say 71 = .ok (.aload_n 0, 1) := by decide +kernel
theorem dX12_say_72 : decode cX12_say 72 = .ok (.getfield 157, 3) := by decide +kernel
theorem dX12_say_75 : decode cX12_say 75 = .ok (.ifCond .ne 29, 3) := by decide +kernel
theorem dX12_say_104 : decode cX12_say 104 = .ok (.iconst 0, 1) := by decide +kernel
theorem dX12_say_105 : decode cX12_say 105 = .ok (.iadd, 1) := by decide +kernel
theorem dX12_say_106 : decode cX12_say 106 = .ok (.istore_n 2, 1) := by decide +kernel
theorem dX12_say_107 : decode cX12_say 107 = .ok (.goto (-52), 3) := by decide +kernel
theorem dX12_say_110 : decode cX12_say 110 = .ok (.aload_n 0, 1) := by decide +kernel
theorem dX12_say_111 : decode cX12_say 111 = .ok (.getfield 157, 3) := by decide +kernel
theorem dX12_say_114 : decode cX12_say 114 = .ok (.ifCond .ne 15, 3) := by decide +kernel
theorem dX12_say_129 : decode cX12_say 129 = .ok (.aload_n 0, 1) := by decide +kernel
theorem dX12_say_130 : decode cX12_say 130 = .ok (.iconst 0, 1) := by decide +kernel
theorem dX12_say_131 : decode cX12_say 131 = .ok (.putfield 154, 3) := by decide +kernel
theorem dX12_say_134 : decode cX12_say 134 = .ok (.aload_n 0, 1) := by decide +kernel
theorem dX12_say_135 : decode cX12_say 135 = .ok (.aload_n 0, 1) := by decide +kernel
theorem dX12_say_136 : decode cX12_say 136 = .ok (.getfield 157, 3) := by decide +kernel
theorem dX12_say_139 : decode cX12_say 139 = .ok (.putfield 218, 3) := by decide +kernel
theorem wf_X12_218 : Cond.fieldLink RX12 218 RX12 "fault" "I" ∈ TB := tbm (tq5 (List.mem_of_getElem? (i := 86) (by decide +kernel))) (by decide +kernel)
theorem fp_X12_218 : FP RX12 218 12 8 .int false := ⟨RX12, TX12, 45, tyX12, uw_X12, wf_X12_218, rfl, by decide, rfl, tyX12_ok, nmX12, rfl, by decide +kernel⟩
theorem dX12_say_142 : decode cX12_say 142 = .ok (.aload_n 0, 1) := by decide +kernel
theorem dX12_say_143 : decode cX12_say 143 = .ok (.getfield 157, 3) := by decide +kernel
theorem dX12_say_146 : decode cX12_say 146 = .ok (.ifCond .le 11, 3) := by decide +kernel
theorem dX12_say_149 : decode cX12_say 149 = .ok (.bipush (-10), 2) := by decide +kernel
theorem dX12_say_151 : decode cX12_say 151 = .ok (.aload_n 0, 1) := by decide +kernel
theorem dX12_say_152 : decode cX12_say 152 = .ok (.getfield 163, 3) := by decide +kernel
theorem fg_X12_163 : FG RX12 163 12 10 := ⟨RX12, TX12, 45, uw_X12, wf_X12_163, rfl, by decide, rfl⟩
theorem dX12_say_155 : decode cX12_say 155 = .ok (.isub, 1) := by decide +kernel
theorem dX12_say_156 : decode cX12_say 156 = .ok (.ireturn, 1) := by decide +kernel
theorem dX12_say_12 : decode cX12_say 12 = .ok (.iconst (-1), 1) := by decide +kernel
theorem dX12_say_13 : decode cX12_say 13 = .ok (.ireturn, 1) := by decide +kernel
set_option maxRecDepth 100000 in
set_option maxHeartbeats 4000000 in
theorem y_say (l : Launch) (E : EV) (hm : Nat) (p0 : Int32) (m_manys : Nat) (m_reals : Nat) (m_factsOf : Nat) (m_possible : Nat) (m_tape : Nat) (m_ends : Nat) (m_letters : Nat) (m_actOf : Nat) (m_whom : Nat) (m_actMany : Nat) (m_tokens : Nat) (m_afters : Nat) (m_afterOf : Nat) (m_pile : Nat) (m_caseMany : Nat) (m_happen : Nat) (m_hasIf : Nat) (m_becomes : Nat) (m_goneOf : Nat) (m_heard : Nat) (m_pairs : Nat) (m_heaps : Nat) (m_led : Nat) (m_newAt : Nat) (m_knowing : Nat) (m_firsts : Nat) (m_secrets : Nat) (m_tried : Nat) (m_lanes : Nat) (m_lengths : Nat) (m_cells : Nat)  : CT l yX12_say (Cond.code yX12_say cX12_say 3 (some .int) :: TB) ({ frames := 2, cells := 0, slots := 0, locals := 46 }) E [.ref hm, .int p0] [(hm, .inr (12, [.ref m_manys, .ref m_reals, .ref m_factsOf, .ref m_possible, .int 0, .int 0, .ref m_tape, .int 0, .int 0, .int 0, .int 0, .int 0, .int 0, .int 0, .int 0, .ref m_ends, .ref m_letters, .ref m_actOf, .ref m_whom, .ref m_actMany, .ref m_tokens, .ref m_afters, .ref m_afterOf, .int 0, .ref m_pile, .ref m_caseMany, .ref m_happen, .ref m_hasIf, .ref m_becomes, .ref m_goneOf, .ref m_heard, .ref m_pairs, .ref m_heaps, .int 0, .int 0, .ref m_led, .ref m_newAt, .ref m_knowing, .ref m_firsts, .int 0, .ref m_secrets, .ref m_tried, .ref m_lanes, .ref m_lengths, .ref m_cells])), (m_actMany, .inl (E.2.1 1, 25, .inl (fun _ => 0))), (m_afters, .inl (E.2.1 1, 9, .inl (fun _ => 0)))] (Qi E (fun (r : Int32) u => (r = (-1) ∧ u = [] ∧ (p0.toInt < 0 ∨ 7 < p0.toInt)) ∨ (r = (-10) ∧ u = [] ∧ (0 ≤ p0.toInt) ∧ (p0.toInt ≤ 7)))) 0 0 := by
  refine ct_of rfl rfl ?_
  intro X C hT hin
  show WW X 3 E 0 [(0, .ref hm), (1, .int p0)] [] [(hm, .inr (12, [.ref m_manys, .ref m_reals, .ref m_factsOf, .ref m_possible, .int 0, .int 0, .ref m_tape, .int 0, .int 0, .int 0, .int 0, .int 0, .int 0, .int 0, .int 0, .ref m_ends, .ref m_letters, .ref m_actOf, .ref m_whom, .ref m_actMany, .ref m_tokens, .ref m_afters, .ref m_afterOf, .int 0, .ref m_pile, .ref m_caseMany, .ref m_happen, .ref m_hasIf, .ref m_becomes, .ref m_goneOf, .ref m_heard, .ref m_pairs, .ref m_heaps, .int 0, .int 0, .ref m_led, .ref m_newAt, .ref m_knowing, .ref m_firsts, .int 0, .ref m_secrets, .ref m_tried, .ref m_lanes, .ref m_lengths, .ref m_cells])), (m_actMany, .inl (E.2.1 1, 25, .inl (fun _ => 0))), (m_afters, .inl (E.2.1 1, 9, .inl (fun _ => 0)))] 0 0
  refine ww_iload_n C dX12_say_0 1 rfl rfl ?_
  refine ww_i2l (v := p0.toInt64) C dX12_say_1 rfl ?_
  refine ww_lconst (v := 0) C dX12_say_2 rfl ?_
  refine ww_ldc2 C wv_X12_207 dX12_say_3 ?_
  refine ww_ci (wr := [(hm, .inr (12, [.ref m_manys, .ref m_reals, .ref m_factsOf, .ref m_possible, .int 0, .int 0, .ref m_tape, .int 0, .int 0, .int 0, .int 0, .int 0, .int 0, .int 0, .int 0, .ref m_ends, .ref m_letters, .ref m_actOf, .ref m_whom, .ref m_actMany, .ref m_tokens, .ref m_afters, .ref m_afterOf, .int 0, .ref m_pile, .ref m_caseMany, .ref m_happen, .ref m_hasIf, .ref m_becomes, .ref m_goneOf, .ref m_heard, .ref m_pairs, .ref m_heaps, .int 0, .int 0, .ref m_led, .ref m_newAt, .ref m_knowing, .ref m_firsts, .int 0, .ref m_secrets, .ref m_tried, .ref m_lanes, .ref m_lengths, .ref m_cells])), (m_actMany, .inl (E.2.1 1, 25, .inl (fun _ => 0))), (m_afters, .inl (E.2.1 1, 9, .inl (fun _ => 0)))]) (k' := 0) (n' := 0) C (run_S (As := [.long p0.toInt64, .long 0, .long 7]) (rest := []) C (r_in X.2.1 E p0.toInt64 0 7 p0.toInt 0 7 (Int32.toInt_toInt64 _) rfl rfl) ms_X12_in wl_X12_115 rfl rfl rfl rfl dX12_say_6) [] [0, 1, 2] rfl rfl rfl rfl (fun r u hw => ?_)
  rcases hw with ⟨rfl, rfl, h_1, h_2⟩ | ⟨rfl, rfl, h_3⟩
  · refine ww_eq (ws' := [(hm, .inr (12, [.ref m_manys, .ref m_reals, .ref m_factsOf, .ref m_possible, .int 0, .int 0, .ref m_tape, .int 0, .int 0, .int 0, .int 0, .int 0, .int 0, .int 0, .int 0, .ref m_ends, .ref m_letters, .ref m_actOf, .ref m_whom, .ref m_actMany, .ref m_tokens, .ref m_afters, .ref m_afterOf, .int 0, .ref m_pile, .ref m_caseMany, .ref m_happen, .ref m_hasIf, .ref m_becomes, .ref m_goneOf, .ref m_heard, .ref m_pairs, .ref m_heaps, .int 0, .int 0, .ref m_led, .ref m_newAt, .ref m_knowing, .ref m_firsts, .int 0, .ref m_secrets, .ref m_tried, .ref m_lanes, .ref m_lengths, .ref m_cells])), (m_actMany, .inl (E.2.1 1, 25, .inl (fun _ => 0))), (m_afters, .inl (E.2.1 1, 9, .inl (fun _ => 0)))]) ?_ rfl rfl rfl
    refine ww_if_ne_t (tgt := 14) C dX12_say_9 (by decide) (by decide) ?_
    refine ww_aload_n C dX12_say_14 0 rfl rfl ?_
    refine ww_iconst (v := 0) C dX12_say_15 rfl ?_
    refine ww_put (ws' := [(hm, .inr (12, [.ref m_manys, .ref m_reals, .ref m_factsOf, .ref m_possible, .int 0, .int 0, .ref m_tape, .int 0, .int 0, .int 0, .int 0, .int 0, .int 0, .int 0, .int 0, .ref m_ends, .ref m_letters, .ref m_actOf, .ref m_whom, .ref m_actMany, .ref m_tokens, .ref m_afters, .ref m_afterOf, .int 0, .ref m_pile, .ref m_caseMany, .ref m_happen, .ref m_hasIf, .ref m_becomes, .ref m_goneOf, .ref m_heard, .ref m_pairs, .ref m_heaps, .int 0, .int 0, .ref m_led, .ref m_newAt, .ref m_knowing, .ref m_firsts, .int 0, .ref m_secrets, .ref m_tried, .ref m_lanes, .ref m_lengths, .ref m_cells])), (m_actMany, .inl (E.2.1 1, 25, .inl (fun _ => 0))), (m_afters, .inl (E.2.1 1, 9, .inl (fun _ => 0)))]) C fp_X12_157 0 rfl rfl rfl rfl rfl dX12_say_16 ?_
    refine ww_aload_n C dX12_say_19 0 rfl rfl ?_
    refine ww_iconst (v := 0) C dX12_say_20 rfl ?_
    refine ww_put (ws' := [(hm, .inr (12, [.ref m_manys, .ref m_reals, .ref m_factsOf, .ref m_possible, .int 0, .int 0, .ref m_tape, .int 0, .int 0, .int 0, .int 0, .int 0, .int 0, .int 0, .int 0, .ref m_ends, .ref m_letters, .ref m_actOf, .ref m_whom, .ref m_actMany, .ref m_tokens, .ref m_afters, .ref m_afterOf, .int 0, .ref m_pile, .ref m_caseMany, .ref m_happen, .ref m_hasIf, .ref m_becomes, .ref m_goneOf, .ref m_heard, .ref m_pairs, .ref m_heaps, .int 0, .int 0, .ref m_led, .ref m_newAt, .ref m_knowing, .ref m_firsts, .int 0, .ref m_secrets, .ref m_tried, .ref m_lanes, .ref m_lengths, .ref m_cells])), (m_actMany, .inl (E.2.1 1, 25, .inl (fun _ => 0))), (m_afters, .inl (E.2.1 1, 9, .inl (fun _ => 0)))]) C fp_X12_166 0 rfl rfl rfl rfl rfl dX12_say_21 ?_
    refine ww_aload_n C dX12_say_24 0 rfl rfl ?_
    refine ww_iconst (v := 0) C dX12_say_25 rfl ?_
    refine ww_put (ws' := [(hm, .inr (12, [.ref m_manys, .ref m_reals, .ref m_factsOf, .ref m_possible, .int 0, .int 0, .ref m_tape, .int 0, .int 0, .int 0, .int 0, .int 0, .int 0, .int 0, .int 0, .ref m_ends, .ref m_letters, .ref m_actOf, .ref m_whom, .ref m_actMany, .ref m_tokens, .ref m_afters, .ref m_afterOf, .int 0, .ref m_pile, .ref m_caseMany, .ref m_happen, .ref m_hasIf, .ref m_becomes, .ref m_goneOf, .ref m_heard, .ref m_pairs, .ref m_heaps, .int 0, .int 0, .ref m_led, .ref m_newAt, .ref m_knowing, .ref m_firsts, .int 0, .ref m_secrets, .ref m_tried, .ref m_lanes, .ref m_lengths, .ref m_cells])), (m_actMany, .inl (E.2.1 1, 25, .inl (fun _ => 0))), (m_afters, .inl (E.2.1 1, 9, .inl (fun _ => 0)))]) C fp_X12_191 0 rfl rfl rfl rfl rfl dX12_say_26 ?_
    refine ww_aload_n C dX12_say_29 0 rfl rfl ?_
    refine ww_get C fg_X12_37 0 rfl rfl dX12_say_30 ?_
    refine ww_bipush (v := 24) C dX12_say_33 rfl ?_
    refine ww_iconst (v := 0) C dX12_say_35 rfl ?_
    obtain ⟨f_4, ef_4⟩ : ∃ z : Nat → Int32, upd (fun _ => 0) 24 0 = z := ⟨_, rfl⟩
    refine ww_iast (ws' := [(hm, .inr (12, [.ref m_manys, .ref m_reals, .ref m_factsOf, .ref m_possible, .int 0, .int 0, .ref m_tape, .int 0, .int 0, .int 0, .int 0, .int 0, .int 0, .int 0, .int 0, .ref m_ends, .ref m_letters, .ref m_actOf, .ref m_whom, .ref m_actMany, .ref m_tokens, .ref m_afters, .ref m_afterOf, .int 0, .ref m_pile, .ref m_caseMany, .ref m_happen, .ref m_hasIf, .ref m_becomes, .ref m_goneOf, .ref m_heard, .ref m_pairs, .ref m_heaps, .int 0, .int 0, .ref m_led, .ref m_newAt, .ref m_knowing, .ref m_firsts, .int 0, .ref m_secrets, .ref m_tried, .ref m_lanes, .ref m_lengths, .ref m_cells])), (m_actMany, .inl (E.2.1 1, 25, .inl f_4)), (m_afters, .inl (E.2.1 1, 9, .inl (fun _ => 0)))]) C 1 rfl (vin rfl) ef_4 rfl dX12_say_36 ?_
    refine ww_aload_n C dX12_say_37 0 rfl rfl ?_
    refine ww_get C fg_X12_43 0 rfl rfl dX12_say_38 ?_
    refine ww_bipush (v := 8) C dX12_say_41 rfl ?_
    refine ww_iconst (v := 0) C dX12_say_43 rfl ?_
    obtain ⟨f_5, ef_5⟩ : ∃ z : Nat → Int32, upd (fun _ => 0) 8 0 = z := ⟨_, rfl⟩
    refine ww_iast (ws' := [(hm, .inr (12, [.ref m_manys, .ref m_reals, .ref m_factsOf, .ref m_possible, .int 0, .int 0, .ref m_tape, .int 0, .int 0, .int 0, .int 0, .int 0, .int 0, .int 0, .int 0, .ref m_ends, .ref m_letters, .ref m_actOf, .ref m_whom, .ref m_actMany, .ref m_tokens, .ref m_afters, .ref m_afterOf, .int 0, .ref m_pile, .ref m_caseMany, .ref m_happen, .ref m_hasIf, .ref m_becomes, .ref m_goneOf, .ref m_heard, .ref m_pairs, .ref m_heaps, .int 0, .int 0, .ref m_led, .ref m_newAt, .ref m_knowing, .ref m_firsts, .int 0, .ref m_secrets, .ref m_tried, .ref m_lanes, .ref m_lengths, .ref m_cells])), (m_actMany, .inl (E.2.1 1, 25, .inl f_4)), (m_afters, .inl (E.2.1 1, 9, .inl f_5))]) C 2 rfl (vin rfl) ef_5 rfl dX12_say_44 ?_
    refine ww_aload_n C dX12_say_45 0 rfl rfl ?_
    refine ww_cv (wr := [(m_actMany, .inl (E.2.1 1, 25, .inl f_4)), (m_afters, .inl (E.2.1 1, 9, .inl f_5))]) (k' := 0) (n' := 0) C (run_V (As := []) (rest := []) C (r_next0 X.2.1 E hm m_manys m_reals m_factsOf m_possible m_tape m_ends m_letters m_actOf m_whom m_actMany m_tokens m_afters m_afterOf m_pile m_caseMany m_happen m_hasIf m_becomes m_goneOf m_heard m_pairs m_heaps m_led m_newAt m_knowing m_firsts m_secrets m_tried m_lanes m_lengths m_cells) mi_X12_next wl_X12_201 rfl 0 12 rfl rfl rfl rfl rfl dX12_say_46) [0] [1, 2] rfl rfl rfl rfl (fun u hw => ?_)
    obtain ⟨rfl⟩ := hw
    refine ww_eq (ws' := [(m_actMany, .inl (E.2.1 1, 25, .inl f_4)), (m_afters, .inl (E.2.1 1, 9, .inl f_5)), (hm, .inr (12, [.ref m_manys, .ref m_reals, .ref m_factsOf, .ref m_possible, .int 0, .int 0, .ref m_tape, .int 0, .int 0, .int 0, .int 0, .int 0, .int 0, .int 0, .int 0, .ref m_ends, .ref m_letters, .ref m_actOf, .ref m_whom, .ref m_actMany, .ref m_tokens, .ref m_afters, .ref m_afterOf, .int 0, .ref m_pile, .ref m_caseMany, .ref m_happen, .ref m_hasIf, .ref m_becomes, .ref m_goneOf, .ref m_heard, .ref m_pairs, .ref m_heaps, .int 0, .int 0, .ref m_led, .ref m_newAt, .ref m_knowing, .ref m_firsts, .int 0, .ref m_secrets, .ref m_tried, .ref m_lanes, .ref m_lengths, .ref m_cells]))]) ?_ rfl rfl rfl
    refine ww_aload_n C dX12_say_49 0 rfl rfl ?_
    refine ww_cv (wr := [(m_actMany, .inl (E.2.1 1, 25, .inl f_4)), (m_afters, .inl (E.2.1 1, 9, .inl f_5))]) (k' := 0) (n' := 0) C (run_V (As := []) (rest := []) C (r_readAfters X.2.1 E hm m_manys m_reals m_factsOf m_possible m_tape m_ends m_letters m_actOf m_whom m_actMany m_tokens m_afters m_afterOf m_pile m_caseMany m_happen m_hasIf m_becomes m_goneOf m_heard m_pairs m_heaps m_led m_newAt m_knowing m_firsts m_secrets m_tried m_lanes m_lengths m_cells) mi_X12_readAfters wl_X12_209 rfl 0 12 rfl rfl rfl rfl rfl dX12_say_50) [2] [0, 1] rfl rfl rfl rfl (fun u hw => ?_)
    obtain ⟨rfl⟩ := hw
    refine ww_eq (ws' := [(m_actMany, .inl (E.2.1 1, 25, .inl f_4)), (m_afters, .inl (E.2.1 1, 9, .inl f_5)), (hm, .inr (12, [.ref m_manys, .ref m_reals, .ref m_factsOf, .ref m_possible, .int 0, .int 0, .ref m_tape, .int 0, .int 0, .int 0, .int 0, .int 0, .int 0, .int 0, .int 0, .ref m_ends, .ref m_letters, .ref m_actOf, .ref m_whom, .ref m_actMany, .ref m_tokens, .ref m_afters, .ref m_afterOf, .int 0, .ref m_pile, .ref m_caseMany, .ref m_happen, .ref m_hasIf, .ref m_becomes, .ref m_goneOf, .ref m_heard, .ref m_pairs, .ref m_heaps, .int 0, .int 0, .ref m_led, .ref m_newAt, .ref m_knowing, .ref m_firsts, .int 0, .ref m_secrets, .ref m_tried, .ref m_lanes, .ref m_lengths, .ref m_cells]))]) ?_ rfl rfl rfl
    refine ww_iconst (v := 1) C dX12_say_53 rfl ?_
    refine ww_istore_n (lv' := [(2, .int 1), (0, .ref hm), (1, .int p0)]) C dX12_say_54 rfl rfl rfl ?_
    refine ww_aload_n C dX12_say_55 1 rfl rfl ?_
    refine ww_get C fg_X12_157 2 rfl rfl dX12_say_56 ?_
    refine ww_if_ne_f (tgt := 110) C dX12_say_59 (by decide) (rfl) ?_
    refine ww_iload_n C dX12_say_62 0 rfl rfl ?_
    refine ww_if_le_f (tgt := 110) C dX12_say_63 (by decide) (by decide) ?_
    refine ww_aload_n C dX12_say_66 1 rfl rfl ?_
    refine ww_cv (wr := [(m_actMany, .inl (E.2.1 1, 25, .inl f_4)), (m_afters, .inl (E.2.1 1, 9, .inl f_5))]) (k' := 0) (n' := 0) C (run_V (As := []) (rest := []) C (r_readAct X.2.1 E hm m_manys m_reals m_factsOf m_possible m_tape m_ends m_letters m_actOf m_whom m_actMany m_tokens m_afters m_afterOf m_pile m_caseMany m_happen m_hasIf m_becomes m_goneOf m_heard m_pairs m_heaps m_led m_newAt m_knowing m_firsts m_secrets m_tried m_lanes m_lengths m_cells) mi_X12_readAct wl_X12_212 rfl 0 12 rfl rfl rfl rfl rfl dX12_say_67) [2] [0, 1] rfl rfl rfl rfl (fun u hw => ?_)
    obtain ⟨rfl⟩ := hw
    refine ww_eq (ws' := [(m_actMany, .inl (E.2.1 1, 25, .inl f_4)), (m_afters, .inl (E.2.1 1, 9, .inl f_5)), (hm, .inr (12, [.ref m_manys, .ref m_reals, .ref m_factsOf, .ref m_possible, .int 0, .int 0, .ref m_tape, .int 0, .int 0, .int 2, .int 0, .int 0, .int 0, .int 0, .int 0, .ref m_ends, .ref m_letters, .ref m_actOf, .ref m_whom, .ref m_actMany, .ref m_tokens, .ref m_afters, .ref m_afterOf, .int 1, .ref m_pile, .ref m_caseMany, .ref m_happen, .ref m_hasIf, .ref m_becomes, .ref m_goneOf, .ref m_heard, .ref m_pairs, .ref m_heaps, .int 0, .int 0, .ref m_led, .ref m_newAt, .ref m_knowing, .ref m_firsts, .int 0, .ref m_secrets, .ref m_tried, .ref m_lanes, .ref m_lengths, .ref m_cells]))]) ?_ rfl rfl rfl
    refine ww_iload_n C dX12_say_70 0 rfl rfl ?_
    refine ww_aload_n C dX12_say_71 1 rfl rfl ?_
    refine ww_get C fg_X12_157 2 rfl rfl dX12_say_72 ?_
    refine ww_if_ne_t (tgt := 104) C dX12_say_75 (by decide) (by decide) ?_
    refine ww_iconst (v := 0) C dX12_say_104 rfl ?_
    refine ww_iadd (v := 1) C dX12_say_105 (by decide) ?_
    refine ww_istore_n (lv' := [(2, .int 1), (0, .ref hm), (1, .int p0)]) C dX12_say_106 rfl rfl rfl ?_
    refine ww_goto (tgt := 55) C dX12_say_107 (by decide) ?_
    refine ww_aload_n C dX12_say_55 1 rfl rfl ?_
    refine ww_get C fg_X12_157 2 rfl rfl dX12_say_56 ?_
    refine ww_if_ne_t (tgt := 110) C dX12_say_59 (by decide) (by decide) ?_
    refine ww_aload_n C dX12_say_110 1 rfl rfl ?_
    refine ww_get C fg_X12_157 2 rfl rfl dX12_say_111 ?_
    refine ww_if_ne_t (tgt := 129) C dX12_say_114 (by decide) (by decide) ?_
    refine ww_aload_n C dX12_say_129 1 rfl rfl ?_
    refine ww_iconst (v := 0) C dX12_say_130 rfl ?_
    refine ww_put (ws' := [(m_actMany, .inl (E.2.1 1, 25, .inl f_4)), (m_afters, .inl (E.2.1 1, 9, .inl f_5)), (hm, .inr (12, [.ref m_manys, .ref m_reals, .ref m_factsOf, .ref m_possible, .int 0, .int 0, .ref m_tape, .int 0, .int 0, .int 2, .int 0, .int 0, .int 0, .int 0, .int 0, .ref m_ends, .ref m_letters, .ref m_actOf, .ref m_whom, .ref m_actMany, .ref m_tokens, .ref m_afters, .ref m_afterOf, .int 1, .ref m_pile, .ref m_caseMany, .ref m_happen, .ref m_hasIf, .ref m_becomes, .ref m_goneOf, .ref m_heard, .ref m_pairs, .ref m_heaps, .int 0, .int 0, .ref m_led, .ref m_newAt, .ref m_knowing, .ref m_firsts, .int 0, .ref m_secrets, .ref m_tried, .ref m_lanes, .ref m_lengths, .ref m_cells]))]) C fp_X12_154 2 rfl rfl rfl rfl rfl dX12_say_131 ?_
    refine ww_aload_n C dX12_say_134 1 rfl rfl ?_
    refine ww_aload_n C dX12_say_135 1 rfl rfl ?_
    refine ww_get C fg_X12_157 2 rfl rfl dX12_say_136 ?_
    refine ww_put (ws' := [(m_actMany, .inl (E.2.1 1, 25, .inl f_4)), (m_afters, .inl (E.2.1 1, 9, .inl f_5)), (hm, .inr (12, [.ref m_manys, .ref m_reals, .ref m_factsOf, .ref m_possible, .int 0, .int 0, .ref m_tape, .int 0, .int 2, .int 2, .int 0, .int 0, .int 0, .int 0, .int 0, .ref m_ends, .ref m_letters, .ref m_actOf, .ref m_whom, .ref m_actMany, .ref m_tokens, .ref m_afters, .ref m_afterOf, .int 1, .ref m_pile, .ref m_caseMany, .ref m_happen, .ref m_hasIf, .ref m_becomes, .ref m_goneOf, .ref m_heard, .ref m_pairs, .ref m_heaps, .int 0, .int 0, .ref m_led, .ref m_newAt, .ref m_knowing, .ref m_firsts, .int 0, .ref m_secrets, .ref m_tried, .ref m_lanes, .ref m_lengths, .ref m_cells]))]) C fp_X12_218 2 rfl rfl rfl rfl rfl dX12_say_139 ?_
    refine ww_aload_n C dX12_say_142 1 rfl rfl ?_
    refine ww_get C fg_X12_157 2 rfl rfl dX12_say_143 ?_
    refine ww_if_le_f (tgt := 157) C dX12_say_146 (by decide) (by decide) ?_
    refine ww_bipush (v := (-10)) C dX12_say_149 rfl ?_
    refine ww_aload_n C dX12_say_151 1 rfl rfl ?_
    refine ww_get C fg_X12_163 2 rfl rfl dX12_say_152 ?_
    refine ww_isub (v := (-10)) C dX12_say_155 (by decide) ?_
    exact ww_iret (u := []) C hT [] rfl rfl rfl rfl dX12_say_156 (Or.inr ⟨rfl, rfl, (by first | assumption | omega | decide), (by first | assumption | omega | decide)⟩)
  · refine ww_eq (ws' := [(hm, .inr (12, [.ref m_manys, .ref m_reals, .ref m_factsOf, .ref m_possible, .int 0, .int 0, .ref m_tape, .int 0, .int 0, .int 0, .int 0, .int 0, .int 0, .int 0, .int 0, .ref m_ends, .ref m_letters, .ref m_actOf, .ref m_whom, .ref m_actMany, .ref m_tokens, .ref m_afters, .ref m_afterOf, .int 0, .ref m_pile, .ref m_caseMany, .ref m_happen, .ref m_hasIf, .ref m_becomes, .ref m_goneOf, .ref m_heard, .ref m_pairs, .ref m_heaps, .int 0, .int 0, .ref m_led, .ref m_newAt, .ref m_knowing, .ref m_firsts, .int 0, .ref m_secrets, .ref m_tried, .ref m_lanes, .ref m_lengths, .ref m_cells])), (m_actMany, .inl (E.2.1 1, 25, .inl (fun _ => 0))), (m_afters, .inl (E.2.1 1, 9, .inl (fun _ => 0)))]) ?_ rfl rfl rfl
    refine ww_if_ne_f (tgt := 14) C dX12_say_9 (by decide) (rfl) ?_
    refine ww_iconst (v := (-1)) C dX12_say_12 rfl ?_
    exact ww_iret (u := []) C hT [] rfl rfl rfl rfl dX12_say_13 (Or.inl ⟨rfl, rfl, (by first | assumption | omega | decide)⟩)
theorem dX12_fault_0 : decode cX12_fault 0 = .ok (.aload_n 0, 1) := by decide +kernel
theorem dX12_fault_1 : decode cX12_fault 1 = .ok (.getfield 218, 3) := by decide +kernel
theorem fg_X12_218 : FG RX12 218 12 8 := ⟨RX12, TX12, 45, uw_X12, wf_X12_218, rfl, by decide, rfl⟩
theorem dX12_fault_4 : decode cX12_fault 4 = .ok (.ireturn, 1) := by decide +kernel
set_option maxRecDepth 100000 in
set_option maxHeartbeats 4000000 in
theorem y_fault (l : Launch) (E : EV) (hm : Nat) (m_manys : Nat) (m_reals : Nat) (m_factsOf : Nat) (m_possible : Nat) (m_tape : Nat) (m_ends : Nat) (m_letters : Nat) (m_actOf : Nat) (m_whom : Nat) (m_actMany : Nat) (m_tokens : Nat) (m_afters : Nat) (m_afterOf : Nat) (m_pile : Nat) (m_caseMany : Nat) (m_happen : Nat) (m_hasIf : Nat) (m_becomes : Nat) (m_goneOf : Nat) (m_heard : Nat) (m_pairs : Nat) (m_heaps : Nat) (m_led : Nat) (m_newAt : Nat) (m_knowing : Nat) (m_firsts : Nat) (m_secrets : Nat) (m_tried : Nat) (m_lanes : Nat) (m_lengths : Nat) (m_cells : Nat)  : CT l yX12_fault (Cond.code yX12_fault cX12_fault 1 (some .int) :: TB) ({ frames := 0, cells := 0, slots := 0, locals := 0 }) E [.ref hm] [(hm, .inr (12, [.ref m_manys, .ref m_reals, .ref m_factsOf, .ref m_possible, .int 0, .int 0, .ref m_tape, .int 0, .int 0, .int 0, .int 0, .int 0, .int 0, .int 0, .int 0, .ref m_ends, .ref m_letters, .ref m_actOf, .ref m_whom, .ref m_actMany, .ref m_tokens, .ref m_afters, .ref m_afterOf, .int 0, .ref m_pile, .ref m_caseMany, .ref m_happen, .ref m_hasIf, .ref m_becomes, .ref m_goneOf, .ref m_heard, .ref m_pairs, .ref m_heaps, .int 0, .int 0, .ref m_led, .ref m_newAt, .ref m_knowing, .ref m_firsts, .int 0, .ref m_secrets, .ref m_tried, .ref m_lanes, .ref m_lengths, .ref m_cells]))] (Qi E (fun (r : Int32) u => (r = 0 ∧ u = []))) 0 0 := by
  refine ct_of rfl rfl ?_
  intro X C hT hin
  show WW X 1 E 0 [(0, .ref hm)] [] [(hm, .inr (12, [.ref m_manys, .ref m_reals, .ref m_factsOf, .ref m_possible, .int 0, .int 0, .ref m_tape, .int 0, .int 0, .int 0, .int 0, .int 0, .int 0, .int 0, .int 0, .ref m_ends, .ref m_letters, .ref m_actOf, .ref m_whom, .ref m_actMany, .ref m_tokens, .ref m_afters, .ref m_afterOf, .int 0, .ref m_pile, .ref m_caseMany, .ref m_happen, .ref m_hasIf, .ref m_becomes, .ref m_goneOf, .ref m_heard, .ref m_pairs, .ref m_heaps, .int 0, .int 0, .ref m_led, .ref m_newAt, .ref m_knowing, .ref m_firsts, .int 0, .ref m_secrets, .ref m_tried, .ref m_lanes, .ref m_lengths, .ref m_cells]))] 0 0
  refine ww_aload_n C dX12_fault_0 0 rfl rfl ?_
  refine ww_get C fg_X12_218 0 rfl rfl dX12_fault_1 ?_
  exact ww_iret (u := []) C hT [] rfl rfl rfl rfl dX12_fault_4 (⟨rfl, rfl⟩)
theorem dX12_isSaying_0 : decode cX12_isSaying 0 = .ok (.iload_n 1, 1) := by decide +kernel
theorem dX12_isSaying_1 : decode cX12_isSaying 1 = .ok (.i2l, 1) := by decide +kernel
theorem dX12_isSaying_2 : decode cX12_isSaying 2 = .ok (.lconst 0, 1) := by decide +kernel
theorem dX12_isSaying_3 : decode cX12_isSaying 3 = .ok (.ldc2_w 207, 3) := by decide +kernel
theorem dX12_isSaying_6 : decode cX12_isSaying 6 = .ok (.invokestatic 115, 3) := by decide +kernel
theorem dX12_isSaying_9 : decode cX12_isSaying 9 = .ok (.ifCond .eq 16, 3) := by decide +kernel
theorem dX12_isSaying_12 : decode cX12_isSaying 12 = .ok (.aload_n 0, 1) := by decide +kernel
theorem dX12_isSaying_13 : decode cX12_isSaying 13 = .ok (.getfield 40, 3) := by decide +kernel
theorem fg_X12_40 : FG RX12 40 12 20 := ⟨RX12, TX12, 45, uw_X12, wf_X12_40, rfl, by decide, rfl⟩
theorem dX12_isSaying_16 : decode cX12_isSaying 16 = .ok (.iload_n 1, 1) := by decide +kernel
theorem dX12_isSaying_17 : decode cX12_isSaying 17 = .ok (.iaload, 1) := by decide +kernel
theorem dX12_isSaying_18 : decode cX12_isSaying 18 = .ok (.ifCond .le 7, 3) := by decide +kernel
theorem dX12_isSaying_25 : decode cX12_isSaying 25 = .ok (.iconst 0, 1) := by decide +kernel
theorem dX12_isSaying_26 : decode cX12_isSaying 26 = .ok (.ireturn, 1) := by decide +kernel
set_option maxRecDepth 100000 in
set_option maxHeartbeats 4000000 in
theorem r_isSaying (l : Launch) (E : EV) (hm : Nat) (p0 : Int32) (m_manys : Nat) (m_reals : Nat) (m_factsOf : Nat) (m_possible : Nat) (m_tape : Nat) (m_ends : Nat) (m_letters : Nat) (m_actOf : Nat) (m_whom : Nat) (m_actMany : Nat) (m_tokens : Nat) (m_afters : Nat) (m_afterOf : Nat) (m_pile : Nat) (m_caseMany : Nat) (m_happen : Nat) (m_hasIf : Nat) (m_becomes : Nat) (m_goneOf : Nat) (m_heard : Nat) (m_pairs : Nat) (m_heaps : Nat) (m_led : Nat) (m_newAt : Nat) (m_knowing : Nat) (m_firsts : Nat) (m_secrets : Nat) (m_tried : Nat) (m_lanes : Nat) (m_lengths : Nat) (m_cells : Nat)  : CT l yX12_isSaying (Cond.code yX12_isSaying cX12_isSaying 2 (some .boolean) :: TB) ({ frames := 1, cells := 0, slots := 0, locals := 25 }) E [.ref hm, .int p0] [(hm, .inr (12, [.ref m_manys, .ref m_reals, .ref m_factsOf, .ref m_possible, .int 0, .int 0, .ref m_tape, .int 0, .int 0, .int 0, .int 0, .int 0, .int 0, .int 0, .int 0, .ref m_ends, .ref m_letters, .ref m_actOf, .ref m_whom, .ref m_actMany, .ref m_tokens, .ref m_afters, .ref m_afterOf, .int 0, .ref m_pile, .ref m_caseMany, .ref m_happen, .ref m_hasIf, .ref m_becomes, .ref m_goneOf, .ref m_heard, .ref m_pairs, .ref m_heaps, .int 0, .int 0, .ref m_led, .ref m_newAt, .ref m_knowing, .ref m_firsts, .int 0, .ref m_secrets, .ref m_tried, .ref m_lanes, .ref m_lengths, .ref m_cells])), (m_tokens, .inl (E.2.1 1, 9, .inl (fun _ => 0)))] (Qi E (fun (r : Int32) u => (r = 0 ∧ u = [(hm, .inr (12, [.ref m_manys, .ref m_reals, .ref m_factsOf, .ref m_possible, .int 0, .int 0, .ref m_tape, .int 0, .int 0, .int 0, .int 0, .int 0, .int 0, .int 0, .int 0, .ref m_ends, .ref m_letters, .ref m_actOf, .ref m_whom, .ref m_actMany, .ref m_tokens, .ref m_afters, .ref m_afterOf, .int 0, .ref m_pile, .ref m_caseMany, .ref m_happen, .ref m_hasIf, .ref m_becomes, .ref m_goneOf, .ref m_heard, .ref m_pairs, .ref m_heaps, .int 0, .int 0, .ref m_led, .ref m_newAt, .ref m_knowing, .ref m_firsts, .int 0, .ref m_secrets, .ref m_tried, .ref m_lanes, .ref m_lengths, .ref m_cells])), (m_tokens, .inl (E.2.1 1, 9, .inl (fun _ => 0)))]))) 0 0 := by
  refine ct_of rfl rfl ?_
  intro X C hT hin
  show WW X 2 E 0 [(0, .ref hm), (1, .int p0)] [] [(hm, .inr (12, [.ref m_manys, .ref m_reals, .ref m_factsOf, .ref m_possible, .int 0, .int 0, .ref m_tape, .int 0, .int 0, .int 0, .int 0, .int 0, .int 0, .int 0, .int 0, .ref m_ends, .ref m_letters, .ref m_actOf, .ref m_whom, .ref m_actMany, .ref m_tokens, .ref m_afters, .ref m_afterOf, .int 0, .ref m_pile, .ref m_caseMany, .ref m_happen, .ref m_hasIf, .ref m_becomes, .ref m_goneOf, .ref m_heard, .ref m_pairs, .ref m_heaps, .int 0, .int 0, .ref m_led, .ref m_newAt, .ref m_knowing, .ref m_firsts, .int 0, .ref m_secrets, .ref m_tried, .ref m_lanes, .ref m_lengths, .ref m_cells])), (m_tokens, .inl (E.2.1 1, 9, .inl (fun _ => 0)))] 0 0
  refine ww_iload_n C dX12_isSaying_0 1 rfl rfl ?_
  refine ww_i2l (v := p0.toInt64) C dX12_isSaying_1 rfl ?_
  refine ww_lconst (v := 0) C dX12_isSaying_2 rfl ?_
  refine ww_ldc2 C wv_X12_207 dX12_isSaying_3 ?_
  refine ww_ci (wr := [(hm, .inr (12, [.ref m_manys, .ref m_reals, .ref m_factsOf, .ref m_possible, .int 0, .int 0, .ref m_tape, .int 0, .int 0, .int 0, .int 0, .int 0, .int 0, .int 0, .int 0, .ref m_ends, .ref m_letters, .ref m_actOf, .ref m_whom, .ref m_actMany, .ref m_tokens, .ref m_afters, .ref m_afterOf, .int 0, .ref m_pile, .ref m_caseMany, .ref m_happen, .ref m_hasIf, .ref m_becomes, .ref m_goneOf, .ref m_heard, .ref m_pairs, .ref m_heaps, .int 0, .int 0, .ref m_led, .ref m_newAt, .ref m_knowing, .ref m_firsts, .int 0, .ref m_secrets, .ref m_tried, .ref m_lanes, .ref m_lengths, .ref m_cells])), (m_tokens, .inl (E.2.1 1, 9, .inl (fun _ => 0)))]) (k' := 0) (n' := 0) C (run_S (As := [.long p0.toInt64, .long 0, .long 7]) (rest := []) C (r_in X.2.1 E p0.toInt64 0 7 p0.toInt 0 7 (Int32.toInt_toInt64 _) rfl rfl) ms_X12_in wl_X12_115 rfl rfl rfl rfl dX12_isSaying_6) [] [0, 1] rfl rfl rfl rfl (fun r u hw => ?_)
  rcases hw with ⟨rfl, rfl, h_1, h_2⟩ | ⟨rfl, rfl, h_3⟩
  · refine ww_eq (ws' := [(hm, .inr (12, [.ref m_manys, .ref m_reals, .ref m_factsOf, .ref m_possible, .int 0, .int 0, .ref m_tape, .int 0, .int 0, .int 0, .int 0, .int 0, .int 0, .int 0, .int 0, .ref m_ends, .ref m_letters, .ref m_actOf, .ref m_whom, .ref m_actMany, .ref m_tokens, .ref m_afters, .ref m_afterOf, .int 0, .ref m_pile, .ref m_caseMany, .ref m_happen, .ref m_hasIf, .ref m_becomes, .ref m_goneOf, .ref m_heard, .ref m_pairs, .ref m_heaps, .int 0, .int 0, .ref m_led, .ref m_newAt, .ref m_knowing, .ref m_firsts, .int 0, .ref m_secrets, .ref m_tried, .ref m_lanes, .ref m_lengths, .ref m_cells])), (m_tokens, .inl (E.2.1 1, 9, .inl (fun _ => 0)))]) ?_ rfl rfl rfl
    refine ww_if_eq_f (tgt := 25) C dX12_isSaying_9 (by decide) (by decide) ?_
    refine ww_aload_n C dX12_isSaying_12 0 rfl rfl ?_
    refine ww_get C fg_X12_40 0 rfl rfl dX12_isSaying_13 ?_
    refine ww_iload_n C dX12_isSaying_16 1 rfl rfl ?_
    refine ww_iald (v := 0) C 1 rfl (vp_in_iff.mpr ⟨by omega, by omega⟩) rfl dX12_isSaying_17 ?_
    refine ww_if_le_t (tgt := 25) C dX12_isSaying_18 (by decide) (by decide) ?_
    refine ww_iconst (v := 0) C dX12_isSaying_25 rfl ?_
    exact ww_zret (u := [(hm, .inr (12, [.ref m_manys, .ref m_reals, .ref m_factsOf, .ref m_possible, .int 0, .int 0, .ref m_tape, .int 0, .int 0, .int 0, .int 0, .int 0, .int 0, .int 0, .int 0, .ref m_ends, .ref m_letters, .ref m_actOf, .ref m_whom, .ref m_actMany, .ref m_tokens, .ref m_afters, .ref m_afterOf, .int 0, .ref m_pile, .ref m_caseMany, .ref m_happen, .ref m_hasIf, .ref m_becomes, .ref m_goneOf, .ref m_heard, .ref m_pairs, .ref m_heaps, .int 0, .int 0, .ref m_led, .ref m_newAt, .ref m_knowing, .ref m_firsts, .int 0, .ref m_secrets, .ref m_tried, .ref m_lanes, .ref m_lengths, .ref m_cells])), (m_tokens, .inl (E.2.1 1, 9, .inl (fun _ => 0)))]) C hT [0, 1] rfl rfl rfl rfl rfl dX12_isSaying_26 (⟨rfl, rfl⟩)
  · refine ww_eq (ws' := [(hm, .inr (12, [.ref m_manys, .ref m_reals, .ref m_factsOf, .ref m_possible, .int 0, .int 0, .ref m_tape, .int 0, .int 0, .int 0, .int 0, .int 0, .int 0, .int 0, .int 0, .ref m_ends, .ref m_letters, .ref m_actOf, .ref m_whom, .ref m_actMany, .ref m_tokens, .ref m_afters, .ref m_afterOf, .int 0, .ref m_pile, .ref m_caseMany, .ref m_happen, .ref m_hasIf, .ref m_becomes, .ref m_goneOf, .ref m_heard, .ref m_pairs, .ref m_heaps, .int 0, .int 0, .ref m_led, .ref m_newAt, .ref m_knowing, .ref m_firsts, .int 0, .ref m_secrets, .ref m_tried, .ref m_lanes, .ref m_lengths, .ref m_cells])), (m_tokens, .inl (E.2.1 1, 9, .inl (fun _ => 0)))]) ?_ rfl rfl rfl
    refine ww_if_eq_t (tgt := 25) C dX12_isSaying_9 (by decide) (rfl) ?_
    refine ww_iconst (v := 0) C dX12_isSaying_25 rfl ?_
    exact ww_zret (u := [(hm, .inr (12, [.ref m_manys, .ref m_reals, .ref m_factsOf, .ref m_possible, .int 0, .int 0, .ref m_tape, .int 0, .int 0, .int 0, .int 0, .int 0, .int 0, .int 0, .int 0, .ref m_ends, .ref m_letters, .ref m_actOf, .ref m_whom, .ref m_actMany, .ref m_tokens, .ref m_afters, .ref m_afterOf, .int 0, .ref m_pile, .ref m_caseMany, .ref m_happen, .ref m_hasIf, .ref m_becomes, .ref m_goneOf, .ref m_heard, .ref m_pairs, .ref m_heaps, .int 0, .int 0, .ref m_led, .ref m_newAt, .ref m_knowing, .ref m_firsts, .int 0, .ref m_secrets, .ref m_tried, .ref m_lanes, .ref m_lengths, .ref m_cells])), (m_tokens, .inl (E.2.1 1, 9, .inl (fun _ => 0)))]) C hT [0, 1] rfl rfl rfl rfl rfl dX12_isSaying_26 (⟨rfl, rfl⟩)
theorem dX12_saying_0 : decode cX12_saying 0 = .ok (.aload_n 0, 1) := by decide +kernel
theorem dX12_saying_1 : decode cX12_saying 1 = .ok (.iload_n 1, 1) := by decide +kernel
theorem dX12_saying_2 : decode cX12_saying 2 = .ok (.invokevirtual 224, 3) := by decide +kernel
theorem wl_X12_224 : Cond.methodLink RX12 224 yX12_isSaying ∈ TB := tbm (tq6 (List.mem_of_getElem? (i := 105) (by decide +kernel))) (by decide +kernel)
theorem wc_X12_isSaying : Cond.code yX12_isSaying cX12_isSaying 2 (some .boolean) ∈ TB := tbm (tq6 (List.mem_of_getElem? (i := 108) (rfl))) (by decide +kernel)
theorem wi_X12_isSaying : Cond.instanceMethod yX12_isSaying ∈ TB := tbm (tq6 (List.mem_of_getElem? (i := 107) (by decide +kernel))) (by decide +kernel)
theorem ws_X12_isSaying : Cond.selects RX12 yX12_isSaying yX12_isSaying ∈ TB := tbm (tq0 (List.mem_of_getElem? (i := 52) (by decide +kernel))) (by decide +kernel)
theorem mi_X12_isSaying : MI yX12_isSaying cX12_isSaying 2 (some .boolean) 1 := ⟨wc_X12_isSaying, wn_X12, ⟨by decide +kernel, by decide +kernel, by decide +kernel⟩, wi_X12_isSaying, ws_X12_isSaying⟩
theorem dX12_saying_5 : decode cX12_saying 5 = .ok (.ifCond .eq 15, 3) := by decide +kernel
theorem dX12_saying_20 : decode cX12_saying 20 = .ok (.iconst (-1), 1) := by decide +kernel
theorem dX12_saying_21 : decode cX12_saying 21 = .ok (.ireturn, 1) := by decide +kernel
set_option maxRecDepth 100000 in
set_option maxHeartbeats 4000000 in
theorem y_saying (l : Launch) (E : EV) (hm : Nat) (p0 : Int32) (p1 : Int32) (m_manys : Nat) (m_reals : Nat) (m_factsOf : Nat) (m_possible : Nat) (m_tape : Nat) (m_ends : Nat) (m_letters : Nat) (m_actOf : Nat) (m_whom : Nat) (m_actMany : Nat) (m_tokens : Nat) (m_afters : Nat) (m_afterOf : Nat) (m_pile : Nat) (m_caseMany : Nat) (m_happen : Nat) (m_hasIf : Nat) (m_becomes : Nat) (m_goneOf : Nat) (m_heard : Nat) (m_pairs : Nat) (m_heaps : Nat) (m_led : Nat) (m_newAt : Nat) (m_knowing : Nat) (m_firsts : Nat) (m_secrets : Nat) (m_tried : Nat) (m_lanes : Nat) (m_lengths : Nat) (m_cells : Nat)  : CT l yX12_saying (Cond.code yX12_saying cX12_saying 6 (some .int) :: TB) ({ frames := 2, cells := 0, slots := 0, locals := 46 }) E [.ref hm, .int p0, .int p1] [(hm, .inr (12, [.ref m_manys, .ref m_reals, .ref m_factsOf, .ref m_possible, .int 0, .int 0, .ref m_tape, .int 0, .int 0, .int 0, .int 0, .int 0, .int 0, .int 0, .int 0, .ref m_ends, .ref m_letters, .ref m_actOf, .ref m_whom, .ref m_actMany, .ref m_tokens, .ref m_afters, .ref m_afterOf, .int 0, .ref m_pile, .ref m_caseMany, .ref m_happen, .ref m_hasIf, .ref m_becomes, .ref m_goneOf, .ref m_heard, .ref m_pairs, .ref m_heaps, .int 0, .int 0, .ref m_led, .ref m_newAt, .ref m_knowing, .ref m_firsts, .int 0, .ref m_secrets, .ref m_tried, .ref m_lanes, .ref m_lengths, .ref m_cells])), (m_tokens, .inl (E.2.1 1, 9, .inl (fun _ => 0)))] (Qi E (fun (r : Int32) u => (r = (-1) ∧ u = []))) 0 0 := by
  refine ct_of rfl rfl ?_
  intro X C hT hin
  show WW X 6 E 0 [(0, .ref hm), (1, .int p0), (2, .int p1)] [] [(hm, .inr (12, [.ref m_manys, .ref m_reals, .ref m_factsOf, .ref m_possible, .int 0, .int 0, .ref m_tape, .int 0, .int 0, .int 0, .int 0, .int 0, .int 0, .int 0, .int 0, .ref m_ends, .ref m_letters, .ref m_actOf, .ref m_whom, .ref m_actMany, .ref m_tokens, .ref m_afters, .ref m_afterOf, .int 0, .ref m_pile, .ref m_caseMany, .ref m_happen, .ref m_hasIf, .ref m_becomes, .ref m_goneOf, .ref m_heard, .ref m_pairs, .ref m_heaps, .int 0, .int 0, .ref m_led, .ref m_newAt, .ref m_knowing, .ref m_firsts, .int 0, .ref m_secrets, .ref m_tried, .ref m_lanes, .ref m_lengths, .ref m_cells])), (m_tokens, .inl (E.2.1 1, 9, .inl (fun _ => 0)))] 0 0
  refine ww_aload_n C dX12_saying_0 0 rfl rfl ?_
  refine ww_iload_n C dX12_saying_1 1 rfl rfl ?_
  refine ww_ci (wr := []) (k' := 0) (n' := 0) C (run_V (As := [.int p0]) (rest := []) C (r_isSaying X.2.1 E hm p0 m_manys m_reals m_factsOf m_possible m_tape m_ends m_letters m_actOf m_whom m_actMany m_tokens m_afters m_afterOf m_pile m_caseMany m_happen m_hasIf m_becomes m_goneOf m_heard m_pairs m_heaps m_led m_newAt m_knowing m_firsts m_secrets m_tried m_lanes m_lengths m_cells) mi_X12_isSaying wl_X12_224 rfl 0 12 rfl rfl rfl rfl rfl dX12_saying_2) [0, 1] [] rfl rfl rfl rfl (fun r u hw => ?_)
  obtain ⟨rfl, rfl⟩ := hw
  refine ww_eq (ws' := [(hm, .inr (12, [.ref m_manys, .ref m_reals, .ref m_factsOf, .ref m_possible, .int 0, .int 0, .ref m_tape, .int 0, .int 0, .int 0, .int 0, .int 0, .int 0, .int 0, .int 0, .ref m_ends, .ref m_letters, .ref m_actOf, .ref m_whom, .ref m_actMany, .ref m_tokens, .ref m_afters, .ref m_afterOf, .int 0, .ref m_pile, .ref m_caseMany, .ref m_happen, .ref m_hasIf, .ref m_becomes, .ref m_goneOf, .ref m_heard, .ref m_pairs, .ref m_heaps, .int 0, .int 0, .ref m_led, .ref m_newAt, .ref m_knowing, .ref m_firsts, .int 0, .ref m_secrets, .ref m_tried, .ref m_lanes, .ref m_lengths, .ref m_cells])), (m_tokens, .inl (E.2.1 1, 9, .inl (fun _ => 0)))]) ?_ rfl rfl rfl
  refine ww_if_eq_t (tgt := 20) C dX12_saying_5 (by decide) (rfl) ?_
  refine ww_iconst (v := (-1)) C dX12_saying_20 rfl ?_
  exact ww_iret (u := []) C hT [] rfl rfl rfl rfl dX12_saying_21 (⟨rfl, rfl⟩)
theorem dX12_truth_0 : decode cX12_truth 0 = .ok (.aload_n 0, 1) := by decide +kernel
theorem dX12_truth_1 : decode cX12_truth 1 = .ok (.iload_n 1, 1) := by decide +kernel
theorem dX12_truth_2 : decode cX12_truth 2 = .ok (.invokevirtual 224, 3) := by decide +kernel
theorem dX12_truth_5 : decode cX12_truth 5 = .ok (.ifCond .eq 12, 3) := by decide +kernel
theorem dX12_truth_17 : decode cX12_truth 17 = .ok (.iconst (-1), 1) := by decide +kernel
theorem dX12_truth_18 : decode cX12_truth 18 = .ok (.ireturn, 1) := by decide +kernel
set_option maxRecDepth 100000 in
set_option maxHeartbeats 4000000 in
theorem y_truth (l : Launch) (E : EV) (hm : Nat) (p0 : Int32) (m_manys : Nat) (m_reals : Nat) (m_factsOf : Nat) (m_possible : Nat) (m_tape : Nat) (m_ends : Nat) (m_letters : Nat) (m_actOf : Nat) (m_whom : Nat) (m_actMany : Nat) (m_tokens : Nat) (m_afters : Nat) (m_afterOf : Nat) (m_pile : Nat) (m_caseMany : Nat) (m_happen : Nat) (m_hasIf : Nat) (m_becomes : Nat) (m_goneOf : Nat) (m_heard : Nat) (m_pairs : Nat) (m_heaps : Nat) (m_led : Nat) (m_newAt : Nat) (m_knowing : Nat) (m_firsts : Nat) (m_secrets : Nat) (m_tried : Nat) (m_lanes : Nat) (m_lengths : Nat) (m_cells : Nat)  : CT l yX12_truth (Cond.code yX12_truth cX12_truth 2 (some .int) :: TB) ({ frames := 2, cells := 0, slots := 0, locals := 46 }) E [.ref hm, .int p0] [(hm, .inr (12, [.ref m_manys, .ref m_reals, .ref m_factsOf, .ref m_possible, .int 0, .int 0, .ref m_tape, .int 0, .int 0, .int 0, .int 0, .int 0, .int 0, .int 0, .int 0, .ref m_ends, .ref m_letters, .ref m_actOf, .ref m_whom, .ref m_actMany, .ref m_tokens, .ref m_afters, .ref m_afterOf, .int 0, .ref m_pile, .ref m_caseMany, .ref m_happen, .ref m_hasIf, .ref m_becomes, .ref m_goneOf, .ref m_heard, .ref m_pairs, .ref m_heaps, .int 0, .int 0, .ref m_led, .ref m_newAt, .ref m_knowing, .ref m_firsts, .int 0, .ref m_secrets, .ref m_tried, .ref m_lanes, .ref m_lengths, .ref m_cells])), (m_tokens, .inl (E.2.1 1, 9, .inl (fun _ => 0)))] (Qi E (fun (r : Int32) u => (r = (-1) ∧ u = []))) 0 0 := by
  refine ct_of rfl rfl ?_
  intro X C hT hin
  show WW X 2 E 0 [(0, .ref hm), (1, .int p0)] [] [(hm, .inr (12, [.ref m_manys, .ref m_reals, .ref m_factsOf, .ref m_possible, .int 0, .int 0, .ref m_tape, .int 0, .int 0, .int 0, .int 0, .int 0, .int 0, .int 0, .int 0, .ref m_ends, .ref m_letters, .ref m_actOf, .ref m_whom, .ref m_actMany, .ref m_tokens, .ref m_afters, .ref m_afterOf, .int 0, .ref m_pile, .ref m_caseMany, .ref m_happen, .ref m_hasIf, .ref m_becomes, .ref m_goneOf, .ref m_heard, .ref m_pairs, .ref m_heaps, .int 0, .int 0, .ref m_led, .ref m_newAt, .ref m_knowing, .ref m_firsts, .int 0, .ref m_secrets, .ref m_tried, .ref m_lanes, .ref m_lengths, .ref m_cells])), (m_tokens, .inl (E.2.1 1, 9, .inl (fun _ => 0)))] 0 0
  refine ww_aload_n C dX12_truth_0 0 rfl rfl ?_
  refine ww_iload_n C dX12_truth_1 1 rfl rfl ?_
  refine ww_ci (wr := []) (k' := 0) (n' := 0) C (run_V (As := [.int p0]) (rest := []) C (r_isSaying X.2.1 E hm p0 m_manys m_reals m_factsOf m_possible m_tape m_ends m_letters m_actOf m_whom m_actMany m_tokens m_afters m_afterOf m_pile m_caseMany m_happen m_hasIf m_becomes m_goneOf m_heard m_pairs m_heaps m_led m_newAt m_knowing m_firsts m_secrets m_tried m_lanes m_lengths m_cells) mi_X12_isSaying wl_X12_224 rfl 0 12 rfl rfl rfl rfl rfl dX12_truth_2) [0, 1] [] rfl rfl rfl rfl (fun r u hw => ?_)
  obtain ⟨rfl, rfl⟩ := hw
  refine ww_eq (ws' := [(hm, .inr (12, [.ref m_manys, .ref m_reals, .ref m_factsOf, .ref m_possible, .int 0, .int 0, .ref m_tape, .int 0, .int 0, .int 0, .int 0, .int 0, .int 0, .int 0, .int 0, .ref m_ends, .ref m_letters, .ref m_actOf, .ref m_whom, .ref m_actMany, .ref m_tokens, .ref m_afters, .ref m_afterOf, .int 0, .ref m_pile, .ref m_caseMany, .ref m_happen, .ref m_hasIf, .ref m_becomes, .ref m_goneOf, .ref m_heard, .ref m_pairs, .ref m_heaps, .int 0, .int 0, .ref m_led, .ref m_newAt, .ref m_knowing, .ref m_firsts, .int 0, .ref m_secrets, .ref m_tried, .ref m_lanes, .ref m_lengths, .ref m_cells])), (m_tokens, .inl (E.2.1 1, 9, .inl (fun _ => 0)))]) ?_ rfl rfl rfl
  refine ww_if_eq_t (tgt := 17) C dX12_truth_5 (by decide) (rfl) ?_
  refine ww_iconst (v := (-1)) C dX12_truth_17 rfl ?_
  exact ww_iret (u := []) C hT [] rfl rfl rfl rfl dX12_truth_18 (⟨rfl, rfl⟩)
theorem dX12_holds_0 : decode cX12_holds 0 = .ok (.aload_n 0, 1) := by decide +kernel
theorem dX12_holds_1 : decode cX12_holds 1 = .ok (.iload_n 1, 1) := by decide +kernel
theorem dX12_holds_2 : decode cX12_holds 2 = .ok (.invokevirtual 224, 3) := by decide +kernel
theorem dX12_holds_5 : decode cX12_holds 5 = .ok (.ifCond .ne 5, 3) := by decide +kernel
theorem dX12_holds_8 : decode cX12_holds 8 = .ok (.iconst (-1), 1) := by decide +kernel
theorem dX12_holds_9 : decode cX12_holds 9 = .ok (.ireturn, 1) := by decide +kernel
set_option maxRecDepth 100000 in
set_option maxHeartbeats 4000000 in
theorem y_holds (l : Launch) (E : EV) (hm : Nat) (p0 : Int32) (m_manys : Nat) (m_reals : Nat) (m_factsOf : Nat) (m_possible : Nat) (m_tape : Nat) (m_ends : Nat) (m_letters : Nat) (m_actOf : Nat) (m_whom : Nat) (m_actMany : Nat) (m_tokens : Nat) (m_afters : Nat) (m_afterOf : Nat) (m_pile : Nat) (m_caseMany : Nat) (m_happen : Nat) (m_hasIf : Nat) (m_becomes : Nat) (m_goneOf : Nat) (m_heard : Nat) (m_pairs : Nat) (m_heaps : Nat) (m_led : Nat) (m_newAt : Nat) (m_knowing : Nat) (m_firsts : Nat) (m_secrets : Nat) (m_tried : Nat) (m_lanes : Nat) (m_lengths : Nat) (m_cells : Nat)  : CT l yX12_holds (Cond.code yX12_holds cX12_holds 2 (some .int) :: TB) ({ frames := 2, cells := 0, slots := 0, locals := 46 }) E [.ref hm, .int p0] [(hm, .inr (12, [.ref m_manys, .ref m_reals, .ref m_factsOf, .ref m_possible, .int 0, .int 0, .ref m_tape, .int 0, .int 0, .int 0, .int 0, .int 0, .int 0, .int 0, .int 0, .ref m_ends, .ref m_letters, .ref m_actOf, .ref m_whom, .ref m_actMany, .ref m_tokens, .ref m_afters, .ref m_afterOf, .int 0, .ref m_pile, .ref m_caseMany, .ref m_happen, .ref m_hasIf, .ref m_becomes, .ref m_goneOf, .ref m_heard, .ref m_pairs, .ref m_heaps, .int 0, .int 0, .ref m_led, .ref m_newAt, .ref m_knowing, .ref m_firsts, .int 0, .ref m_secrets, .ref m_tried, .ref m_lanes, .ref m_lengths, .ref m_cells])), (m_tokens, .inl (E.2.1 1, 9, .inl (fun _ => 0)))] (Qi E (fun (r : Int32) u => (r = (-1) ∧ u = []))) 0 0 := by
  refine ct_of rfl rfl ?_
  intro X C hT hin
  show WW X 2 E 0 [(0, .ref hm), (1, .int p0)] [] [(hm, .inr (12, [.ref m_manys, .ref m_reals, .ref m_factsOf, .ref m_possible, .int 0, .int 0, .ref m_tape, .int 0, .int 0, .int 0, .int 0, .int 0, .int 0, .int 0, .int 0, .ref m_ends, .ref m_letters, .ref m_actOf, .ref m_whom, .ref m_actMany, .ref m_tokens, .ref m_afters, .ref m_afterOf, .int 0, .ref m_pile, .ref m_caseMany, .ref m_happen, .ref m_hasIf, .ref m_becomes, .ref m_goneOf, .ref m_heard, .ref m_pairs, .ref m_heaps, .int 0, .int 0, .ref m_led, .ref m_newAt, .ref m_knowing, .ref m_firsts, .int 0, .ref m_secrets, .ref m_tried, .ref m_lanes, .ref m_lengths, .ref m_cells])), (m_tokens, .inl (E.2.1 1, 9, .inl (fun _ => 0)))] 0 0
  refine ww_aload_n C dX12_holds_0 0 rfl rfl ?_
  refine ww_iload_n C dX12_holds_1 1 rfl rfl ?_
  refine ww_ci (wr := []) (k' := 0) (n' := 0) C (run_V (As := [.int p0]) (rest := []) C (r_isSaying X.2.1 E hm p0 m_manys m_reals m_factsOf m_possible m_tape m_ends m_letters m_actOf m_whom m_actMany m_tokens m_afters m_afterOf m_pile m_caseMany m_happen m_hasIf m_becomes m_goneOf m_heard m_pairs m_heaps m_led m_newAt m_knowing m_firsts m_secrets m_tried m_lanes m_lengths m_cells) mi_X12_isSaying wl_X12_224 rfl 0 12 rfl rfl rfl rfl rfl dX12_holds_2) [0, 1] [] rfl rfl rfl rfl (fun r u hw => ?_)
  obtain ⟨rfl, rfl⟩ := hw
  refine ww_eq (ws' := [(hm, .inr (12, [.ref m_manys, .ref m_reals, .ref m_factsOf, .ref m_possible, .int 0, .int 0, .ref m_tape, .int 0, .int 0, .int 0, .int 0, .int 0, .int 0, .int 0, .int 0, .ref m_ends, .ref m_letters, .ref m_actOf, .ref m_whom, .ref m_actMany, .ref m_tokens, .ref m_afters, .ref m_afterOf, .int 0, .ref m_pile, .ref m_caseMany, .ref m_happen, .ref m_hasIf, .ref m_becomes, .ref m_goneOf, .ref m_heard, .ref m_pairs, .ref m_heaps, .int 0, .int 0, .ref m_led, .ref m_newAt, .ref m_knowing, .ref m_firsts, .int 0, .ref m_secrets, .ref m_tried, .ref m_lanes, .ref m_lengths, .ref m_cells])), (m_tokens, .inl (E.2.1 1, 9, .inl (fun _ => 0)))]) ?_ rfl rfl rfl
  refine ww_if_ne_f (tgt := 10) C dX12_holds_5 (by decide) (rfl) ?_
  refine ww_iconst (v := (-1)) C dX12_holds_8 rfl ?_
  exact ww_iret (u := []) C hT [] rfl rfl rfl rfl dX12_holds_9 (⟨rfl, rfl⟩)
