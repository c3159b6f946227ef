section
theorem dX12_feed_0 : decode cX12_feed 0 = .ok (.aload_n 0, 1) := dl_42 (by decide +kernel)
theorem dX12_feed_1 : decode cX12_feed 1 = .ok (.getfield 154, 3) := dl_180 (by decide +kernel)
theorem wf_X12_154 : Cond.fieldLink RX12 154 RX12 "taped" "I" ∈ TB := tbm (tq5 (List.mem_of_getElem? (i := 85) (by decide +kernel))) (by decide +kernel)
theorem fg_X12_154 : FG RX12 154 12 7 := ⟨RX12, TX12, 45, uw_X12, wf_X12_154, rfl, by decide, rfl⟩
theorem dX12_feed_4 : decode cX12_feed 4 = .ok (.bipush 8, 2) := dl_16 (by decide +kernel)
theorem dX12_feed_6 : decode cX12_feed 6 = .ok (.iadd, 1) := dl_96 (by decide +kernel)
theorem dX12_feed_7 : decode cX12_feed 7 = .ok (.sipush 160, 3) := dl_17 (by decide +kernel)
theorem dX12_feed_10 : decode cX12_feed 10 = .ok (.if_icmp .le 6, 3) := dl_164 (by decide +kernel)
theorem dX12_feed_16 : decode cX12_feed 16 = .ok (.bipush 56, 2) := dl_16 (by decide +kernel)
theorem dX12_feed_18 : decode cX12_feed 18 = .ok (.istore_n 3, 1) := dl_62 (by decide +kernel)
theorem dX12_feed_19 : decode cX12_feed 19 = .ok (.iload_n 3, 1) := dl_29 (by decide +kernel)
theorem dX12_feed_20 : decode cX12_feed 20 = .ok (.ifCond .lt 36, 3) := dl_155 (by decide +kernel)
theorem dX12_feed_56 : decode cX12_feed 56 = .ok (.aload_n 0, 1) := dl_42 (by decide +kernel)
theorem dX12_feed_57 : decode cX12_feed 57 = .ok (.getfield 154, 3) := dl_180 (by decide +kernel)
theorem dX12_feed_60 : decode cX12_feed 60 = .ok (.ireturn, 1) := dl_172 (by decide +kernel)
theorem dX12_feed_23 : decode cX12_feed 23 = .ok (.aload_n 0, 1) := dl_42 (by decide +kernel)
theorem dX12_feed_24 : decode cX12_feed 24 = .ok (.getfield 22, 3) := dl_180 (by decide +kernel)
theorem wf_X12_22 : Cond.fieldLink RX12 22 RX12 "tape" "[I" ∈ TB := tbm (tq5 (List.mem_of_getElem? (i := 84) (by decide +kernel))) (by decide +kernel)
theorem fg_X12_22 : FG RX12 22 12 6 := ⟨RX12, TX12, 45, uw_X12, wf_X12_22, rfl, by decide, rfl⟩
theorem dX12_feed_27 : decode cX12_feed 27 = .ok (.aload_n 0, 1) := dl_42 (by decide +kernel)
theorem dX12_feed_28 : decode cX12_feed 28 = .ok (.getfield 154, 3) := dl_180 (by decide +kernel)
theorem dX12_feed_31 : decode cX12_feed 31 = .ok (.lload_n 1, 1) := dl_31 (by decide +kernel)
theorem dX12_feed_32 : decode cX12_feed 32 = .ok (.iload_n 3, 1) := dl_29 (by decide +kernel)
theorem dX12_feed_33 : decode cX12_feed 33 = .ok (.lshr, 1) := dl_123 (by decide +kernel)
theorem dX12_feed_34 : decode cX12_feed 34 = .ok (.l2i, 1) := dl_136 (by decide +kernel)
theorem dX12_feed_35 : decode cX12_feed 35 = .ok (.sipush 255, 3) := dl_17 (by decide +kernel)
theorem dX12_feed_38 : decode cX12_feed 38 = .ok (.iand, 1) := dl_126 (by decide +kernel)
theorem dX12_feed_39 : decode cX12_feed 39 = .ok (.iastore, 1) := dl_79 (by decide +kernel)
theorem dX12_feed_40 : decode cX12_feed 40 = .ok (.aload_n 0, 1) := dl_42 (by decide +kernel)
theorem dX12_feed_41 : decode cX12_feed 41 = .ok (.dup, 1) := dl_89 (by decide +kernel)
theorem dX12_feed_42 : decode cX12_feed 42 = .ok (.getfield 154, 3) := dl_180 (by decide +kernel)
theorem dX12_feed_45 : decode cX12_feed 45 = .ok (.iconst 1, 1) := dl_4 (by decide +kernel)
theorem dX12_feed_46 : decode cX12_feed 46 = .ok (.iadd, 1) := dl_96 (by decide +kernel)
theorem dX12_feed_47 : decode cX12_feed 47 = .ok (.putfield 154, 3) := dl_181 (by decide +kernel)
theorem fp_X12_154 : FP RX12 154 12 7 .int false := ⟨RX12, TX12, 45, tyX12, uw_X12, wf_X12_154, rfl, by decide, rfl, tyX12_ok, nmX12, rfl, by decide +kernel⟩
theorem dX12_feed_50 : decode cX12_feed 50 = .ok (.iinc 3 (-8), 3) := dl_132 (by decide +kernel)
theorem dX12_feed_53 : decode cX12_feed 53 = .ok (.goto (-34), 3) := dl_167 (by decide +kernel)
theorem dX12_feed_13 : decode cX12_feed 13 = .ok (.bipush (-3), 2) := dl_16 (by decide +kernel)
theorem dX12_feed_15 : decode cX12_feed 15 = .ok (.ireturn, 1) := dl_172 (by decide +kernel)
set_option maxRecDepth 100000 in
set_option maxHeartbeats 4000000 in
theorem y_feed (l : Launch) (E : EV) (ro : va_W) (hm : Nat) (v : Int64) (m_manys : Nat) (m_reals : Nat) (m_factsOf : Nat) (m_possible : Nat) (q_undos : Nat) (q_models : Nat) (m_tape : Nat) (q_taped : Nat) (q_fault : Int32) (q_wrong : Int32) (q_wrongAt : Int32) (q_spot : Int32) (q_place : Int32) (q_token : Int32) (q_value : Int32) (m_ends : Nat) (m_letters : Nat) (m_actOf : Nat) (m_whom : Nat) (m_actMany : Nat) (m_tokens : Nat) (m_afters : Nat) (m_afterOf : Nat) (q_counted : Int32) (m_pile : Nat) (m_caseMany : Nat) (m_happen : Nat) (m_hasIf : Nat) (m_becomes : Nat) (m_goneOf : Nat) (m_heard : Nat) (m_pairs : Nat) (m_heaps : Nat) (q_rounds : Int32) (q_heapMany : Int32) (m_led : Nat) (m_newAt : Nat) (m_knowing : Nat) (m_firsts : Nat) (q_people : Nat) (m_secrets : Nat) (m_tried : Nat) (m_lanes : Nat) (m_lengths : Nat) (m_cells : Nat) (f_tape : Nat → Int32) (hb_tape : NB 160 255 f_tape) (hq_taped : q_taped ≤ 160) : CT l yX12_feed (Cond.code yX12_feed cX12_feed 4 (some .int) :: TB) ({ frames := 0, cells := 0, slots := 0, locals := 0 }) E ro [.ref hm, .long v] [(hm, .inr (12, [.ref m_manys, .ref m_reals, .ref m_factsOf, .ref m_possible, .int (nI q_undos), .int (nI q_models), .ref m_tape, .int (nI q_taped), .int q_fault, .int q_wrong, .int q_wrongAt, .int q_spot, .int q_place, .int q_token, .int q_value, .ref m_ends, .ref m_letters, .ref m_actOf, .ref m_whom, .ref m_actMany, .ref m_tokens, .ref m_afters, .ref m_afterOf, .int q_counted, .ref m_pile, .ref m_caseMany, .ref m_happen, .ref m_hasIf, .ref m_becomes, .ref m_goneOf, .ref m_heard, .ref m_pairs, .ref m_heaps, .int q_rounds, .int q_heapMany, .ref m_led, .ref m_newAt, .ref m_knowing, .ref m_firsts, .int (nI q_people), .ref m_secrets, .ref m_tried, .ref m_lanes, .ref m_lengths, .ref m_cells])), (m_tape, .inl (E.2.1 1, 160, .inl f_tape))] (Qi E (fun (rz : Int32) uz => (∃ (tz : Nat) (f_tapez : Nat → Int32), rz = (nI tz) ∧ uz = [(hm, .inr (12, [.ref m_manys, .ref m_reals, .ref m_factsOf, .ref m_possible, .int (nI q_undos), .int (nI q_models), .ref m_tape, .int (nI tz), .int q_fault, .int q_wrong, .int q_wrongAt, .int q_spot, .int q_place, .int q_token, .int q_value, .ref m_ends, .ref m_letters, .ref m_actOf, .ref m_whom, .ref m_actMany, .ref m_tokens, .ref m_afters, .ref m_afterOf, .int q_counted, .ref m_pile, .ref m_caseMany, .ref m_happen, .ref m_hasIf, .ref m_becomes, .ref m_goneOf, .ref m_heard, .ref m_pairs, .ref m_heaps, .int q_rounds, .int q_heapMany, .ref m_led, .ref m_newAt, .ref m_knowing, .ref m_firsts, .int (nI q_people), .ref m_secrets, .ref m_tried, .ref m_lanes, .ref m_lengths, .ref m_cells])), (m_tape, .inl (E.2.1 1, 160, .inl f_tapez))] ∧ (NB 160 255 f_tapez) ∧ (q_taped + 8 ≤ 160) ∧ (tz = q_taped + 8) ∧ (RYW f_tape f_tapez q_taped 8 v)) ∨ (rz = (-3) ∧ uz = [(hm, .inr (12, [.ref m_manys, .ref m_reals, .ref m_factsOf, .ref m_possible, .int (nI q_undos), .int (nI q_models), .ref m_tape, .int (nI q_taped), .int q_fault, .int q_wrong, .int q_wrongAt, .int q_spot, .int q_place, .int q_token, .int q_value, .ref m_ends, .ref m_letters, .ref m_actOf, .ref m_whom, .ref m_actMany, .ref m_tokens, .ref m_afters, .ref m_afterOf, .int q_counted, .ref m_pile, .ref m_caseMany, .ref m_happen, .ref m_hasIf, .ref m_becomes, .ref m_goneOf, .ref m_heard, .ref m_pairs, .ref m_heaps, .int q_rounds, .int q_heapMany, .ref m_led, .ref m_newAt, .ref m_knowing, .ref m_firsts, .int (nI q_people), .ref m_secrets, .ref m_tried, .ref m_lanes, .ref m_lengths, .ref m_cells])), (m_tape, .inl (E.2.1 1, 160, .inl f_tape))] ∧ (160 < q_taped + 8)))) 0 0 := by
  refine ct_of rfl rfl ?_
  intro X C hT hin hro
  show WW X 4 E 0 [(0, .ref hm), (1, .long v)] [] [(hm, .inr (12, [.ref m_manys, .ref m_reals, .ref m_factsOf, .ref m_possible, .int (nI q_undos), .int (nI q_models), .ref m_tape, .int (nI q_taped), .int q_fault, .int q_wrong, .int q_wrongAt, .int q_spot, .int q_place, .int q_token, .int q_value, .ref m_ends, .ref m_letters, .ref m_actOf, .ref m_whom, .ref m_actMany, .ref m_tokens, .ref m_afters, .ref m_afterOf, .int q_counted, .ref m_pile, .ref m_caseMany, .ref m_happen, .ref m_hasIf, .ref m_becomes, .ref m_goneOf, .ref m_heard, .ref m_pairs, .ref m_heaps, .int q_rounds, .int q_heapMany, .ref m_led, .ref m_newAt, .ref m_knowing, .ref m_firsts, .int (nI q_people), .ref m_secrets, .ref m_tried, .ref m_lanes, .ref m_lengths, .ref m_cells])), (m_tape, .inl (E.2.1 1, 160, .inl f_tape))] 0 0
  refine ww_aload_n C dX12_feed_0 0 rfl rfl ?_
  refine ww_get C fg_X12_154 0 rfl rfl dX12_feed_1 ?_
  refine ww_bipush (v := 8) C dX12_feed_4 rfl ?_
  refine ww_iadd (v := (nI (q_taped + 8))) C dX12_feed_6 (nI_add q_taped 8) ?_
  refine ww_sipush (v := 160) C dX12_feed_7 rfl ?_
  refine ww_icmp_le (tgt := 16) C dX12_feed_10 (by decide) (fun c_1 => ?_) (fun c_1 => ?_)
  · have zc_1 : ((q_taped + 8 : Nat) : Int) ≤ 160 := i_le (nI_toInt (n := q_taped + 8) (by omega)) rfl c_1
    refine ww_bipush (v := 56) C dX12_feed_16 rfl ?_
    refine ww_istore_n (lv' := [(3, .int 56), (0, .ref hm), (1, .long v)]) C dX12_feed_18 rfl rfl rfl ?_
    have loop_19 : ∀ (fu : Nat) (xi : Int32) (ii : Nat) (tp1 : Nat) (g1 : Nat → Int32), (xi.toInt = (8 : Int) * ii - 8) → (ii ≤ 8) → (tp1 + ii = q_taped + 8) → (RYW f_tape g1 q_taped (8 - ii) v) → (NB 160 255 g1) → ii < fu → WW X 4 E 19 [(3, .int xi), (0, .ref hm), (1, .long v)] [] [(hm, .inr (12, [.ref m_manys, .ref m_reals, .ref m_factsOf, .ref m_possible, .int (nI q_undos), .int (nI q_models), .ref m_tape, .int (nI tp1), .int q_fault, .int q_wrong, .int q_wrongAt, .int q_spot, .int q_place, .int q_token, .int q_value, .ref m_ends, .ref m_letters, .ref m_actOf, .ref m_whom, .ref m_actMany, .ref m_tokens, .ref m_afters, .ref m_afterOf, .int q_counted, .ref m_pile, .ref m_caseMany, .ref m_happen, .ref m_hasIf, .ref m_becomes, .ref m_goneOf, .ref m_heard, .ref m_pairs, .ref m_heaps, .int q_rounds, .int q_heapMany, .ref m_led, .ref m_newAt, .ref m_knowing, .ref m_firsts, .int (nI q_people), .ref m_secrets, .ref m_tried, .ref m_lanes, .ref m_lengths, .ref m_cells])), (m_tape, .inl (E.2.1 1, 160, .inl g1))] 0 0 := by
      intro fu
      induction fu with
      | zero => intro xi ii tp1 g1 hxi hii htp hryw hnb_m_tape_19 hmeas; exact absurd hmeas (Nat.not_lt_zero _)
      | succ fu ih_19 =>
        intro xi ii tp1 g1 hxi hii htp hryw hnb_m_tape_19 hmeas
        refine ww_iload_n C dX12_feed_19 0 rfl rfl ?_
        refine ww_if_lt (tgt := 56) C dX12_feed_20 (by decide) (fun c_2 => ?_) (fun c_2 => ?_)
        · have zc_2 : ((8 : Int) * ii - 8) < 0 := i_lt hxi rfl c_2
          refine ww_aload_n C dX12_feed_56 1 rfl rfl ?_
          refine ww_get C fg_X12_154 0 rfl rfl dX12_feed_57 ?_
          exact ww_iret (u := [(hm, .inr (12, [.ref m_manys, .ref m_reals, .ref m_factsOf, .ref m_possible, .int (nI q_undos), .int (nI q_models), .ref m_tape, .int (nI tp1), .int q_fault, .int q_wrong, .int q_wrongAt, .int q_spot, .int q_place, .int q_token, .int q_value, .ref m_ends, .ref m_letters, .ref m_actOf, .ref m_whom, .ref m_actMany, .ref m_tokens, .ref m_afters, .ref m_afterOf, .int q_counted, .ref m_pile, .ref m_caseMany, .ref m_happen, .ref m_hasIf, .ref m_becomes, .ref m_goneOf, .ref m_heard, .ref m_pairs, .ref m_heaps, .int q_rounds, .int q_heapMany, .ref m_led, .ref m_newAt, .ref m_knowing, .ref m_firsts, .int (nI q_people), .ref m_secrets, .ref m_tried, .ref m_lanes, .ref m_lengths, .ref m_cells])), (m_tape, .inl (E.2.1 1, 160, .inl g1))]) C hT [0, 1] rfl rfl rfl rfl dX12_feed_60 (Or.inl ⟨tp1, g1, rfl, rfl, hnb_m_tape_19, (by first | assumption | omega | decide), (by first | assumption | omega | decide), (by rw [show 8 = 8 - ii by omega]; exact hryw)⟩)
        · have zc_2 : ((8 : Int) * ii - 8) ≥ 0 := i_nlt hxi rfl c_2
          obtain ⟨j_3, hj_3, rfl⟩ := i_nat (x := xi) (N := 56) (by omega) (by omega)
          have hzj_3 := nI_toInt (n := j_3) (by omega)
          refine ww_aload_n C dX12_feed_23 1 rfl rfl ?_
          refine ww_get C fg_X12_22 0 rfl rfl dX12_feed_24 ?_
          refine ww_aload_n C dX12_feed_27 1 rfl rfl ?_
          refine ww_get C fg_X12_154 0 rfl rfl dX12_feed_28 ?_
          refine ww_lload_n C dX12_feed_31 2 rfl rfl ?_
          refine ww_iload_n C dX12_feed_32 0 rfl rfl ?_
          obtain ⟨l_4, el_4⟩ : ∃ z : Int64, v >>> ((nI j_3).toInt64 &&& 63) = z := ⟨_, rfl⟩
          refine ww_lshr C dX12_feed_33 el_4 ?_
          obtain ⟨x_5, ex_5⟩ : ∃ z : Int32, l_4.toInt32 = z := ⟨_, rfl⟩
          refine ww_l2i (v := x_5) C dX12_feed_34 ex_5 ?_
          refine ww_sipush (v := 255) C dX12_feed_35 rfl ?_
          obtain ⟨j_6, hj_6, ej_6⟩ := pk_andE x_5 (m := 255) 8 rfl
          refine ww_iand (v := (nI j_6)) C dX12_feed_38 ej_6 ?_
          obtain ⟨f_7, ef_7⟩ : ∃ z : Nat → Int32, upd g1 tp1 (nI j_6) = z := ⟨_, rfl⟩
          refine ww_iast (ws' := [(hm, .inr (12, [.ref m_manys, .ref m_reals, .ref m_factsOf, .ref m_possible, .int (nI q_undos), .int (nI q_models), .ref m_tape, .int (nI tp1), .int q_fault, .int q_wrong, .int q_wrongAt, .int q_spot, .int q_place, .int q_token, .int q_value, .ref m_ends, .ref m_letters, .ref m_actOf, .ref m_whom, .ref m_actMany, .ref m_tokens, .ref m_afters, .ref m_afterOf, .int q_counted, .ref m_pile, .ref m_caseMany, .ref m_happen, .ref m_hasIf, .ref m_becomes, .ref m_goneOf, .ref m_heard, .ref m_pairs, .ref m_heaps, .int q_rounds, .int q_heapMany, .ref m_led, .ref m_newAt, .ref m_knowing, .ref m_firsts, .int (nI q_people), .ref m_secrets, .ref m_tried, .ref m_lanes, .ref m_lengths, .ref m_cells])), (m_tape, .inl (E.2.1 1, 160, .inl f_7))]) C 1 rfl (vp_in_nI (by omega) (by omega)) (ldn2 (by omega) ef_7) rfl dX12_feed_39 ?_
          refine ww_aload_n C dX12_feed_40 1 rfl rfl ?_
          refine ww_dup C dX12_feed_41 rfl ?_
          refine ww_get C fg_X12_154 0 rfl rfl dX12_feed_42 ?_
          refine ww_iconst (v := 1) C dX12_feed_45 rfl ?_
          refine ww_iadd (v := (nI (tp1 + 1))) C dX12_feed_46 (nI_add tp1 1) ?_
          refine ww_put (ws' := [(hm, .inr (12, [.ref m_manys, .ref m_reals, .ref m_factsOf, .ref m_possible, .int (nI q_undos), .int (nI q_models), .ref m_tape, .int (nI (tp1 + 1)), .int q_fault, .int q_wrong, .int q_wrongAt, .int q_spot, .int q_place, .int q_token, .int q_value, .ref m_ends, .ref m_letters, .ref m_actOf, .ref m_whom, .ref m_actMany, .ref m_tokens, .ref m_afters, .ref m_afterOf, .int q_counted, .ref m_pile, .ref m_caseMany, .ref m_happen, .ref m_hasIf, .ref m_becomes, .ref m_goneOf, .ref m_heard, .ref m_pairs, .ref m_heaps, .int q_rounds, .int q_heapMany, .ref m_led, .ref m_newAt, .ref m_knowing, .ref m_firsts, .int (nI q_people), .ref m_secrets, .ref m_tried, .ref m_lanes, .ref m_lengths, .ref m_cells])), (m_tape, .inl (E.2.1 1, 160, .inl f_7))]) C fp_X12_154 0 rfl rfl rfl rfl rfl dX12_feed_47 ?_
          obtain ⟨x_8, ex_8⟩ : ∃ z : Int32, (nI j_3) + Int32.ofInt (-8) = z := ⟨_, rfl⟩
          have zx_8 : x_8.toInt = ((j_3 : Nat) : Int) - 8 := by rw [← ex_8]; exact i_dec (c := 8) (nI_toInt (n := j_3) (by omega)) rfl (by omega) (by omega)
          refine ww_iinc (j := 0) (v := x_8) (lv' := [(3, .int x_8), (0, .ref hm), (1, .long v)]) C dX12_feed_50 rfl ex_8 rfl rfl ?_
          refine ww_goto (tgt := 19) C dX12_feed_53 (by decide) ?_
          exact ww_lv [0, 1, 2] rfl (ww_sub [0, 1] rfl rfl (ih_19 x_8 (ii - 1) (tp1 + 1) f_7 (by omega) (by omega) (by omega) (RYW.ext hryw el_4 ex_5 ej_6 ef_7 (by omega) (by omega) (by omega)) (NB.put hnb_m_tape_19 (t := j_6) (by omega) (by decide) ef_7) (by omega)))
    exact ww_lv [0, 1, 2] rfl (ww_sub [0, 1] rfl rfl (loop_19 _ 56 8 q_taped f_tape rfl (by omega) (by omega) RYW.nil hb_tape (Nat.lt_succ_self _)))
  · have zc_1 : ((q_taped + 8 : Nat) : Int) > 160 := i_nle (nI_toInt (n := q_taped + 8) (by omega)) rfl c_1
    refine ww_bipush (v := (-3)) C dX12_feed_13 rfl ?_
    exact ww_iret (u := [(hm, .inr (12, [.ref m_manys, .ref m_reals, .ref m_factsOf, .ref m_possible, .int (nI q_undos), .int (nI q_models), .ref m_tape, .int (nI q_taped), .int q_fault, .int q_wrong, .int q_wrongAt, .int q_spot, .int q_place, .int q_token, .int q_value, .ref m_ends, .ref m_letters, .ref m_actOf, .ref m_whom, .ref m_actMany, .ref m_tokens, .ref m_afters, .ref m_afterOf, .int q_counted, .ref m_pile, .ref m_caseMany, .ref m_happen, .ref m_hasIf, .ref m_becomes, .ref m_goneOf, .ref m_heard, .ref m_pairs, .ref m_heaps, .int q_rounds, .int q_heapMany, .ref m_led, .ref m_newAt, .ref m_knowing, .ref m_firsts, .int (nI q_people), .ref m_secrets, .ref m_tried, .ref m_lanes, .ref m_lengths, .ref m_cells])), (m_tape, .inl (E.2.1 1, 160, .inl f_tape))]) C hT [0, 1] rfl rfl rfl rfl dX12_feed_15 (Or.inr ⟨rfl, rfl, (by first | assumption | omega | decide)⟩)
theorem dX12_end_0 : decode cX12_end 0 = .ok (.iload_n 1, 1) := dl_27 (by decide +kernel)
theorem dX12_end_1 : decode cX12_end 1 = .ok (.i2l, 1) := dl_133 (by decide +kernel)
theorem dX12_end_2 : decode cX12_end 2 = .ok (.lconst 0, 1) := dl_9 (by decide +kernel)
theorem dX12_end_3 : decode cX12_end 3 = .ok (.aload_n 0, 1) := dl_42 (by decide +kernel)
theorem dX12_end_4 : decode cX12_end 4 = .ok (.getfield 154, 3) := dl_180 (by decide +kernel)
theorem dX12_end_7 : decode cX12_end 7 = .ok (.i2l, 1) := dl_133 (by decide +kernel)
theorem dX12_end_8 : decode cX12_end 8 = .ok (.invokestatic 115, 3) := dl_184 (by decide +kernel)
theorem dX12_end_11 : decode cX12_end 11 = .ok (.ifCond .ne 5, 3) := dl_154 (by decide +kernel)
theorem dX12_end_16 : decode cX12_end 16 = .ok (.aload_n 0, 1) := dl_42 (by decide +kernel)
theorem dX12_end_17 : decode cX12_end 17 = .ok (.getfield 154, 3) := dl_180 (by decide +kernel)
theorem dX12_end_20 : decode cX12_end 20 = .ok (.istore_n 2, 1) := dl_61 (by decide +kernel)
theorem dX12_end_21 : decode cX12_end 21 = .ok (.aload_n 0, 1) := dl_42 (by decide +kernel)
theorem dX12_end_22 : decode cX12_end 22 = .ok (.iload_n 1, 1) := dl_27 (by decide +kernel)
theorem dX12_end_23 : decode cX12_end 23 = .ok (.putfield 154, 3) := dl_181 (by decide +kernel)
theorem dX12_end_26 : decode cX12_end 26 = .ok (.iload_n 2, 1) := dl_28 (by decide +kernel)
theorem dX12_end_27 : decode cX12_end 27 = .ok (.ireturn, 1) := dl_172 (by decide +kernel)
theorem dX12_end_14 : decode cX12_end 14 = .ok (.iconst (-1), 1) := dl_2 (by decide +kernel)
theorem dX12_end_15 : decode cX12_end 15 = .ok (.ireturn, 1) := dl_172 (by decide +kernel)
set_option maxRecDepth 100000 in
set_option maxHeartbeats 4000000 in
theorem y_end (l : Launch) (E : EV) (ro : va_W) (hm : Nat) (v0 : Int32) (m_manys : Nat) (m_reals : Nat) (m_factsOf : Nat) (m_possible : Nat) (q_undos : Nat) (q_models : Nat) (m_tape : Nat) (q_taped : Nat) (q_fault : Int32) (q_wrong : Int32) (q_wrongAt : Int32) (q_spot : Int32) (q_place : Int32) (q_token : Int32) (q_value : Int32) (m_ends : Nat) (m_letters : Nat) (m_actOf : Nat) (m_whom : Nat) (m_actMany : Nat) (m_tokens : Nat) (m_afters : Nat) (m_afterOf : Nat) (q_counted : Int32) (m_pile : Nat) (m_caseMany : Nat) (m_happen : Nat) (m_hasIf : Nat) (m_becomes : Nat) (m_goneOf : Nat) (m_heard : Nat) (m_pairs : Nat) (m_heaps : Nat) (q_rounds : Int32) (q_heapMany : Int32) (m_led : Nat) (m_newAt : Nat) (m_knowing : Nat) (m_firsts : Nat) (q_people : Nat) (m_secrets : Nat) (m_tried : Nat) (m_lanes : Nat) (m_lengths : Nat) (m_cells : Nat) (hq_taped : q_taped ≤ 160) : CT l yX12_end (Cond.code yX12_end cX12_end 3 (some .int) :: TB) ({ frames := 1, cells := 0, slots := 0, locals := 25 }) E ro [.ref hm, .int v0] [(hm, .inr (12, [.ref m_manys, .ref m_reals, .ref m_factsOf, .ref m_possible, .int (nI q_undos), .int (nI q_models), .ref m_tape, .int (nI q_taped), .int q_fault, .int q_wrong, .int q_wrongAt, .int q_spot, .int q_place, .int q_token, .int q_value, .ref m_ends, .ref m_letters, .ref m_actOf, .ref m_whom, .ref m_actMany, .ref m_tokens, .ref m_afters, .ref m_afterOf, .int q_counted, .ref m_pile, .ref m_caseMany, .ref m_happen, .ref m_hasIf, .ref m_becomes, .ref m_goneOf, .ref m_heard, .ref m_pairs, .ref m_heaps, .int q_rounds, .int q_heapMany, .ref m_led, .ref m_newAt, .ref m_knowing, .ref m_firsts, .int (nI q_people), .ref m_secrets, .ref m_tried, .ref m_lanes, .ref m_lengths, .ref m_cells]))] (Qi E (fun (rz : Int32) uz => (rz = (-1) ∧ uz = [(hm, .inr (12, [.ref m_manys, .ref m_reals, .ref m_factsOf, .ref m_possible, .int (nI q_undos), .int (nI q_models), .ref m_tape, .int (nI q_taped), .int q_fault, .int q_wrong, .int q_wrongAt, .int q_spot, .int q_place, .int q_token, .int q_value, .ref m_ends, .ref m_letters, .ref m_actOf, .ref m_whom, .ref m_actMany, .ref m_tokens, .ref m_afters, .ref m_afterOf, .int q_counted, .ref m_pile, .ref m_caseMany, .ref m_happen, .ref m_hasIf, .ref m_becomes, .ref m_goneOf, .ref m_heard, .ref m_pairs, .ref m_heaps, .int q_rounds, .int q_heapMany, .ref m_led, .ref m_newAt, .ref m_knowing, .ref m_firsts, .int (nI q_people), .ref m_secrets, .ref m_tried, .ref m_lanes, .ref m_lengths, .ref m_cells]))] ∧ (v0.toInt < 0 ∨ (q_taped : Int) < v0.toInt)) ∨ (∃ (tlz : Nat), rz = (nI q_taped) ∧ uz = [(hm, .inr (12, [.ref m_manys, .ref m_reals, .ref m_factsOf, .ref m_possible, .int (nI q_undos), .int (nI q_models), .ref m_tape, .int (nI tlz), .int q_fault, .int q_wrong, .int q_wrongAt, .int q_spot, .int q_place, .int q_token, .int q_value, .ref m_ends, .ref m_letters, .ref m_actOf, .ref m_whom, .ref m_actMany, .ref m_tokens, .ref m_afters, .ref m_afterOf, .int q_counted, .ref m_pile, .ref m_caseMany, .ref m_happen, .ref m_hasIf, .ref m_becomes, .ref m_goneOf, .ref m_heard, .ref m_pairs, .ref m_heaps, .int q_rounds, .int q_heapMany, .ref m_led, .ref m_newAt, .ref m_knowing, .ref m_firsts, .int (nI q_people), .ref m_secrets, .ref m_tried, .ref m_lanes, .ref m_lengths, .ref m_cells]))] ∧ (v0 = nI tlz) ∧ (tlz ≤ q_taped)))) 0 0 := by
  refine ct_of rfl rfl ?_
  intro X C hT hin hro
  show WW X 3 E 0 [(0, .ref hm), (1, .int v0)] [] [(hm, .inr (12, [.ref m_manys, .ref m_reals, .ref m_factsOf, .ref m_possible, .int (nI q_undos), .int (nI q_models), .ref m_tape, .int (nI q_taped), .int q_fault, .int q_wrong, .int q_wrongAt, .int q_spot, .int q_place, .int q_token, .int q_value, .ref m_ends, .ref m_letters, .ref m_actOf, .ref m_whom, .ref m_actMany, .ref m_tokens, .ref m_afters, .ref m_afterOf, .int q_counted, .ref m_pile, .ref m_caseMany, .ref m_happen, .ref m_hasIf, .ref m_becomes, .ref m_goneOf, .ref m_heard, .ref m_pairs, .ref m_heaps, .int q_rounds, .int q_heapMany, .ref m_led, .ref m_newAt, .ref m_knowing, .ref m_firsts, .int (nI q_people), .ref m_secrets, .ref m_tried, .ref m_lanes, .ref m_lengths, .ref m_cells]))] 0 0
  refine ww_iload_n C dX12_end_0 1 rfl rfl ?_
  refine ww_i2l (v := v0.toInt64) C dX12_end_1 rfl ?_
  refine ww_lconst (v := 0) C dX12_end_2 rfl ?_
  refine ww_aload_n C dX12_end_3 0 rfl rfl ?_
  refine ww_get C fg_X12_154 0 rfl rfl dX12_end_4 ?_
  refine ww_i2l (v := (nI q_taped).toInt64) C dX12_end_7 rfl ?_
  refine ww_ci (wr := [(hm, .inr (12, [.ref m_manys, .ref m_reals, .ref m_factsOf, .ref m_possible, .int (nI q_undos), .int (nI q_models), .ref m_tape, .int (nI q_taped), .int q_fault, .int q_wrong, .int q_wrongAt, .int q_spot, .int q_place, .int q_token, .int q_value, .ref m_ends, .ref m_letters, .ref m_actOf, .ref m_whom, .ref m_actMany, .ref m_tokens, .ref m_afters, .ref m_afterOf, .int q_counted, .ref m_pile, .ref m_caseMany, .ref m_happen, .ref m_hasIf, .ref m_becomes, .ref m_goneOf, .ref m_heard, .ref m_pairs, .ref m_heaps, .int q_rounds, .int q_heapMany, .ref m_led, .ref m_newAt, .ref m_knowing, .ref m_firsts, .int (nI q_people), .ref m_secrets, .ref m_tried, .ref m_lanes, .ref m_lengths, .ref m_cells]))]) (k' := 0) (n' := 0) C (run_S (As := [.long v0.toInt64, .long 0, .long ((nI q_taped).toInt64)]) (rest := []) C (r_in X.2.1 E ro v0.toInt64 0 ((nI q_taped).toInt64) v0.toInt 0 ((q_taped : Nat) : Int) (Int32.toInt_toInt64 _) rfl ((Int32.toInt_toInt64 _).trans (nI_toInt (n := q_taped) (by omega)))) ms_X12_in wl_X12_115 rfl rfl rfl rfl dX12_end_8) (roK hro) [] [0] rfl rfl rfl rfl (fun r_1 uz hw => ?_)
  rcases hw with hw | hw
  · refine an3 hw ?_
    clear hw
    intro he_4 he_5 h_2 hw
    have h_3 := hw
    clear hw
    have he_4 := he_4.symm
    subst he_4
    subst he_5
    refine ww_eq (ws' := [(hm, .inr (12, [.ref m_manys, .ref m_reals, .ref m_factsOf, .ref m_possible, .int (nI q_undos), .int (nI q_models), .ref m_tape, .int (nI q_taped), .int q_fault, .int q_wrong, .int q_wrongAt, .int q_spot, .int q_place, .int q_token, .int q_value, .ref m_ends, .ref m_letters, .ref m_actOf, .ref m_whom, .ref m_actMany, .ref m_tokens, .ref m_afters, .ref m_afterOf, .int q_counted, .ref m_pile, .ref m_caseMany, .ref m_happen, .ref m_hasIf, .ref m_becomes, .ref m_goneOf, .ref m_heard, .ref m_pairs, .ref m_heaps, .int q_rounds, .int q_heapMany, .ref m_led, .ref m_newAt, .ref m_knowing, .ref m_firsts, .int (nI q_people), .ref m_secrets, .ref m_tried, .ref m_lanes, .ref m_lengths, .ref m_cells]))]) ?_ rfl rfl rfl
    refine ww_if_ne_t (tgt := 16) C dX12_end_11 (by decide) (by decide) ?_
    obtain ⟨j_9, hj_9, rfl⟩ := i_nat (x := v0) (N := 160) (by omega) (by omega)
    have hzj_9 := nI_toInt (n := j_9) (by omega)
    refine ww_aload_n C dX12_end_16 0 rfl rfl ?_
    refine ww_get C fg_X12_154 0 rfl rfl dX12_end_17 ?_
    refine ww_istore_n (lv' := [(2, .int (nI q_taped)), (0, .ref hm), (1, .int (nI j_9))]) C dX12_end_20 rfl rfl rfl ?_
    refine ww_aload_n C dX12_end_21 1 rfl rfl ?_
    refine ww_iload_n C dX12_end_22 2 rfl rfl ?_
    refine ww_put (ws' := [(hm, .inr (12, [.ref m_manys, .ref m_reals, .ref m_factsOf, .ref m_possible, .int (nI q_undos), .int (nI q_models), .ref m_tape, .int (nI j_9), .int q_fault, .int q_wrong, .int q_wrongAt, .int q_spot, .int q_place, .int q_token, .int q_value, .ref m_ends, .ref m_letters, .ref m_actOf, .ref m_whom, .ref m_actMany, .ref m_tokens, .ref m_afters, .ref m_afterOf, .int q_counted, .ref m_pile, .ref m_caseMany, .ref m_happen, .ref m_hasIf, .ref m_becomes, .ref m_goneOf, .ref m_heard, .ref m_pairs, .ref m_heaps, .int q_rounds, .int q_heapMany, .ref m_led, .ref m_newAt, .ref m_knowing, .ref m_firsts, .int (nI q_people), .ref m_secrets, .ref m_tried, .ref m_lanes, .ref m_lengths, .ref m_cells]))]) C fp_X12_154 0 rfl rfl rfl rfl rfl dX12_end_23 ?_
    refine ww_iload_n C dX12_end_26 0 rfl rfl ?_
    exact ww_iret (u := [(hm, .inr (12, [.ref m_manys, .ref m_reals, .ref m_factsOf, .ref m_possible, .int (nI q_undos), .int (nI q_models), .ref m_tape, .int (nI j_9), .int q_fault, .int q_wrong, .int q_wrongAt, .int q_spot, .int q_place, .int q_token, .int q_value, .ref m_ends, .ref m_letters, .ref m_actOf, .ref m_whom, .ref m_actMany, .ref m_tokens, .ref m_afters, .ref m_afterOf, .int q_counted, .ref m_pile, .ref m_caseMany, .ref m_happen, .ref m_hasIf, .ref m_becomes, .ref m_goneOf, .ref m_heard, .ref m_pairs, .ref m_heaps, .int q_rounds, .int q_heapMany, .ref m_led, .ref m_newAt, .ref m_knowing, .ref m_firsts, .int (nI q_people), .ref m_secrets, .ref m_tried, .ref m_lanes, .ref m_lengths, .ref m_cells]))]) C hT [0] rfl rfl rfl rfl dX12_end_27 (Or.inr ⟨j_9, rfl, rfl, rfl, (by first | assumption | omega | decide)⟩)
  · refine an2 hw ?_
    clear hw
    intro he_7 he_8 hw
    have h_6 := hw
    clear hw
    have he_7 := he_7.symm
    subst he_7
    subst he_8
    refine ww_eq (ws' := [(hm, .inr (12, [.ref m_manys, .ref m_reals, .ref m_factsOf, .ref m_possible, .int (nI q_undos), .int (nI q_models), .ref m_tape, .int (nI q_taped), .int q_fault, .int q_wrong, .int q_wrongAt, .int q_spot, .int q_place, .int q_token, .int q_value, .ref m_ends, .ref m_letters, .ref m_actOf, .ref m_whom, .ref m_actMany, .ref m_tokens, .ref m_afters, .ref m_afterOf, .int q_counted, .ref m_pile, .ref m_caseMany, .ref m_happen, .ref m_hasIf, .ref m_becomes, .ref m_goneOf, .ref m_heard, .ref m_pairs, .ref m_heaps, .int q_rounds, .int q_heapMany, .ref m_led, .ref m_newAt, .ref m_knowing, .ref m_firsts, .int (nI q_people), .ref m_secrets, .ref m_tried, .ref m_lanes, .ref m_lengths, .ref m_cells]))]) ?_ rfl rfl rfl
    refine ww_if_ne_f (tgt := 16) C dX12_end_11 (by decide) (rfl) ?_
    refine ww_iconst (v := (-1)) C dX12_end_14 rfl ?_
    exact ww_iret (u := [(hm, .inr (12, [.ref m_manys, .ref m_reals, .ref m_factsOf, .ref m_possible, .int (nI q_undos), .int (nI q_models), .ref m_tape, .int (nI q_taped), .int q_fault, .int q_wrong, .int q_wrongAt, .int q_spot, .int q_place, .int q_token, .int q_value, .ref m_ends, .ref m_letters, .ref m_actOf, .ref m_whom, .ref m_actMany, .ref m_tokens, .ref m_afters, .ref m_afterOf, .int q_counted, .ref m_pile, .ref m_caseMany, .ref m_happen, .ref m_hasIf, .ref m_becomes, .ref m_goneOf, .ref m_heard, .ref m_pairs, .ref m_heaps, .int q_rounds, .int q_heapMany, .ref m_led, .ref m_newAt, .ref m_knowing, .ref m_firsts, .int (nI q_people), .ref m_secrets, .ref m_tried, .ref m_lanes, .ref m_lengths, .ref m_cells]))]) C hT [0] rfl rfl rfl rfl dX12_end_15 (Or.inl ⟨rfl, rfl, (by first | assumption | omega | decide)⟩)
theorem dX12_byteAt_0 : decode cX12_byteAt 0 = .ok (.iload_n 1, 1) := dl_27 (by decide +kernel)
theorem dX12_byteAt_1 : decode cX12_byteAt 1 = .ok (.aload_n 0, 1) := dl_42 (by decide +kernel)
theorem dX12_byteAt_2 : decode cX12_byteAt 2 = .ok (.getfield 154, 3) := dl_180 (by decide +kernel)
theorem dX12_byteAt_5 : decode cX12_byteAt 5 = .ok (.if_icmp .ge 12, 3) := dl_162 (by decide +kernel)
theorem dX12_byteAt_17 : decode cX12_byteAt 17 = .ok (.bipush (-4), 2) := dl_16 (by decide +kernel)
theorem dX12_byteAt_19 : decode cX12_byteAt 19 = .ok (.ireturn, 1) := dl_172 (by decide +kernel)
theorem dX12_byteAt_8 : decode cX12_byteAt 8 = .ok (.aload_n 0, 1) := dl_42 (by decide +kernel)
theorem dX12_byteAt_9 : decode cX12_byteAt 9 = .ok (.getfield 22, 3) := dl_180 (by decide +kernel)
theorem dX12_byteAt_12 : decode cX12_byteAt 12 = .ok (.iload_n 1, 1) := dl_27 (by decide +kernel)
theorem dX12_byteAt_13 : decode cX12_byteAt 13 = .ok (.iaload, 1) := dl_46 (by decide +kernel)
theorem dX12_byteAt_14 : decode cX12_byteAt 14 = .ok (.goto 5, 3) := dl_167 (by decide +kernel)
set_option maxRecDepth 100000 in
set_option maxHeartbeats 4000000 in
theorem r_byteAt (l : Launch) (E : EV) (ro : va_W) (hm : Nat) (k : Nat) (m_manys : Nat) (m_reals : Nat) (m_factsOf : Nat) (m_possible : Nat) (q_undos : Nat) (q_models : Nat) (m_tape : Nat) (q_taped : Nat) (q_fault : Int32) (q_wrong : Int32) (q_wrongAt : Int32) (q_spot : Int32) (q_place : Int32) (q_token : Int32) (q_value : Int32) (m_ends : Nat) (m_letters : Nat) (m_actOf : Nat) (m_whom : Nat) (m_actMany : Nat) (m_tokens : Nat) (m_afters : Nat) (m_afterOf : Nat) (q_counted : Int32) (m_pile : Nat) (m_caseMany : Nat) (m_happen : Nat) (m_hasIf : Nat) (m_becomes : Nat) (m_goneOf : Nat) (m_heard : Nat) (m_pairs : Nat) (m_heaps : Nat) (q_rounds : Int32) (q_heapMany : Int32) (m_led : Nat) (m_newAt : Nat) (m_knowing : Nat) (m_firsts : Nat) (q_people : Nat) (m_secrets : Nat) (m_tried : Nat) (m_lanes : Nat) (m_lengths : Nat) (m_cells : Nat) (f_tape : Nat → Int32) (hb_tape : NB 160 255 f_tape) (hq_taped : q_taped ≤ 160) (hk : k ≤ 1000) : CT l yX12_byteAt (Cond.code yX12_byteAt cX12_byteAt 2 (some .int) :: TB) ({ frames := 0, cells := 0, slots := 0, locals := 0 }) E ro [.ref hm, .int (nI k)] [(hm, .inr (12, [.ref m_manys, .ref m_reals, .ref m_factsOf, .ref m_possible, .int (nI q_undos), .int (nI q_models), .ref m_tape, .int (nI q_taped), .int q_fault, .int q_wrong, .int q_wrongAt, .int q_spot, .int q_place, .int q_token, .int q_value, .ref m_ends, .ref m_letters, .ref m_actOf, .ref m_whom, .ref m_actMany, .ref m_tokens, .ref m_afters, .ref m_afterOf, .int q_counted, .ref m_pile, .ref m_caseMany, .ref m_happen, .ref m_hasIf, .ref m_becomes, .ref m_goneOf, .ref m_heard, .ref m_pairs, .ref m_heaps, .int q_rounds, .int q_heapMany, .ref m_led, .ref m_newAt, .ref m_knowing, .ref m_firsts, .int (nI q_people), .ref m_secrets, .ref m_tried, .ref m_lanes, .ref m_lengths, .ref m_cells])), (m_tape, .inl (E.2.1 1, 160, .inl f_tape))] (Qi E (fun (rz : Int32) uz => (rz = (byt f_tape q_taped k) ∧ uz = [(hm, .inr (12, [.ref m_manys, .ref m_reals, .ref m_factsOf, .ref m_possible, .int (nI q_undos), .int (nI q_models), .ref m_tape, .int (nI q_taped), .int q_fault, .int q_wrong, .int q_wrongAt, .int q_spot, .int q_place, .int q_token, .int q_value, .ref m_ends, .ref m_letters, .ref m_actOf, .ref m_whom, .ref m_actMany, .ref m_tokens, .ref m_afters, .ref m_afterOf, .int q_counted, .ref m_pile, .ref m_caseMany, .ref m_happen, .ref m_hasIf, .ref m_becomes, .ref m_goneOf, .ref m_heard, .ref m_pairs, .ref m_heaps, .int q_rounds, .int q_heapMany, .ref m_led, .ref m_newAt, .ref m_knowing, .ref m_firsts, .int (nI q_people), .ref m_secrets, .ref m_tried, .ref m_lanes, .ref m_lengths, .ref m_cells])), (m_tape, .inl (E.2.1 1, 160, .inl f_tape))]))) 0 0 := by
  refine ct_of rfl rfl ?_
  intro X C hT hin hro
  show WW X 2 E 0 [(0, .ref hm), (1, .int (nI k))] [] [(hm, .inr (12, [.ref m_manys, .ref m_reals, .ref m_factsOf, .ref m_possible, .int (nI q_undos), .int (nI q_models), .ref m_tape, .int (nI q_taped), .int q_fault, .int q_wrong, .int q_wrongAt, .int q_spot, .int q_place, .int q_token, .int q_value, .ref m_ends, .ref m_letters, .ref m_actOf, .ref m_whom, .ref m_actMany, .ref m_tokens, .ref m_afters, .ref m_afterOf, .int q_counted, .ref m_pile, .ref m_caseMany, .ref m_happen, .ref m_hasIf, .ref m_becomes, .ref m_goneOf, .ref m_heard, .ref m_pairs, .ref m_heaps, .int q_rounds, .int q_heapMany, .ref m_led, .ref m_newAt, .ref m_knowing, .ref m_firsts, .int (nI q_people), .ref m_secrets, .ref m_tried, .ref m_lanes, .ref m_lengths, .ref m_cells])), (m_tape, .inl (E.2.1 1, 160, .inl f_tape))] 0 0
  refine ww_iload_n C dX12_byteAt_0 1 rfl rfl ?_
  refine ww_aload_n C dX12_byteAt_1 0 rfl rfl ?_
  refine ww_get C fg_X12_154 0 rfl rfl dX12_byteAt_2 ?_
  refine ww_icmp_ge (tgt := 17) C dX12_byteAt_5 (by decide) (fun c_1 => ?_) (fun c_1 => ?_)
  · have zc_1 : ((k : Nat) : Int) ≥ ((q_taped : Nat) : Int) := i_le (nI_toInt (n := q_taped) (by omega)) (nI_toInt (n := k) (by omega)) c_1
    refine ww_bipush (v := (-4)) C dX12_byteAt_17 rfl ?_
    exact ww_iret (u := [(hm, .inr (12, [.ref m_manys, .ref m_reals, .ref m_factsOf, .ref m_possible, .int (nI q_undos), .int (nI q_models), .ref m_tape, .int (nI q_taped), .int q_fault, .int q_wrong, .int q_wrongAt, .int q_spot, .int q_place, .int q_token, .int q_value, .ref m_ends, .ref m_letters, .ref m_actOf, .ref m_whom, .ref m_actMany, .ref m_tokens, .ref m_afters, .ref m_afterOf, .int q_counted, .ref m_pile, .ref m_caseMany, .ref m_happen, .ref m_hasIf, .ref m_becomes, .ref m_goneOf, .ref m_heard, .ref m_pairs, .ref m_heaps, .int q_rounds, .int q_heapMany, .ref m_led, .ref m_newAt, .ref m_knowing, .ref m_firsts, .int (nI q_people), .ref m_secrets, .ref m_tried, .ref m_lanes, .ref m_lengths, .ref m_cells])), (m_tape, .inl (E.2.1 1, 160, .inl f_tape))]) C hT [0, 1] rfl rfl rfl rfl dX12_byteAt_19 (⟨(by first | exact byt_1 (by omega) (hb_tape k (by omega)).1 | exact byt_0 (by omega)), rfl⟩)
  · have zc_1 : ((k : Nat) : Int) < ((q_taped : Nat) : Int) := i_nle (nI_toInt (n := q_taped) (by omega)) (nI_toInt (n := k) (by omega)) c_1
    refine ww_aload_n C dX12_byteAt_8 0 rfl rfl ?_
    refine ww_get C fg_X12_22 0 rfl rfl dX12_byteAt_9 ?_
    refine ww_iload_n C dX12_byteAt_12 1 rfl rfl ?_
    have hbx_2 := (hb_tape k (by omega)).2
    refine ww_iald (v := (nI (cN f_tape k))) C 1 rfl (vp_in_nI (by omega) (by omega)) (ldn (by omega) (hb_tape k (by omega)).1) dX12_byteAt_13 ?_
    refine ww_goto (tgt := 19) C dX12_byteAt_14 (by decide) ?_
    exact ww_iret (u := [(hm, .inr (12, [.ref m_manys, .ref m_reals, .ref m_factsOf, .ref m_possible, .int (nI q_undos), .int (nI q_models), .ref m_tape, .int (nI q_taped), .int q_fault, .int q_wrong, .int q_wrongAt, .int q_spot, .int q_place, .int q_token, .int q_value, .ref m_ends, .ref m_letters, .ref m_actOf, .ref m_whom, .ref m_actMany, .ref m_tokens, .ref m_afters, .ref m_afterOf, .int q_counted, .ref m_pile, .ref m_caseMany, .ref m_happen, .ref m_hasIf, .ref m_becomes, .ref m_goneOf, .ref m_heard, .ref m_pairs, .ref m_heaps, .int q_rounds, .int q_heapMany, .ref m_led, .ref m_newAt, .ref m_knowing, .ref m_firsts, .int (nI q_people), .ref m_secrets, .ref m_tried, .ref m_lanes, .ref m_lengths, .ref m_cells])), (m_tape, .inl (E.2.1 1, 160, .inl f_tape))]) C hT [0, 1] rfl rfl rfl rfl dX12_byteAt_19 (⟨(by first | exact byt_1 (by omega) (hb_tape k (by omega)).1 | exact byt_0 (by omega)), rfl⟩)
theorem dX12_fails_0 : decode cX12_fails 0 = .ok (.aload_n 0, 1) := dl_42 (by decide +kernel)
theorem dX12_fails_1 : decode cX12_fails 1 = .ok (.getfield 157, 3) := dl_180 (by decide +kernel)
theorem wf_X12_157 : Cond.fieldLink RX12 157 RX12 "wrong" "I" ∈ TB := tbm (tq5 (List.mem_of_getElem? (i := 87) (by decide +kernel))) (by decide +kernel)
theorem fg_X12_157 : FG RX12 157 12 9 := ⟨RX12, TX12, 45, uw_X12, wf_X12_157, rfl, by decide, rfl⟩
theorem dX12_fails_4 : decode cX12_fails 4 = .ok (.ifCond .ne 16, 3) := dl_154 (by decide +kernel)
theorem dX12_fails_20 : decode cX12_fails 20 = .ok (.return_, 1) := dl_177 (by decide +kernel)
theorem dX12_fails_7 : decode cX12_fails 7 = .ok (.aload_n 0, 1) := dl_42 (by decide +kernel)
theorem dX12_fails_8 : decode cX12_fails 8 = .ok (.iload_n 1, 1) := dl_27 (by decide +kernel)
theorem dX12_fails_9 : decode cX12_fails 9 = .ok (.putfield 157, 3) := dl_181 (by decide +kernel)
theorem fp_X12_157 : FP RX12 157 12 9 .int false := ⟨RX12, TX12, 45, tyX12, uw_X12, wf_X12_157, rfl, by decide, rfl, tyX12_ok, nmX12, rfl, by decide +kernel⟩
theorem dX12_fails_12 : decode cX12_fails 12 = .ok (.aload_n 0, 1) := dl_42 (by decide +kernel)
theorem dX12_fails_13 : decode cX12_fails 13 = .ok (.aload_n 0, 1) := dl_42 (by decide +kernel)
theorem dX12_fails_14 : decode cX12_fails 14 = .ok (.getfield 160, 3) := dl_180 (by decide +kernel)
theorem wf_X12_160 : Cond.fieldLink RX12 160 RX12 "place" "I" ∈ TB := tbm (tq5 (List.mem_of_getElem? (i := 90) (by decide +kernel))) (by decide +kernel)
theorem fg_X12_160 : FG RX12 160 12 12 := ⟨RX12, TX12, 45, uw_X12, wf_X12_160, rfl, by decide, rfl⟩
theorem dX12_fails_17 : decode cX12_fails 17 = .ok (.putfield 163, 3) := dl_181 (by decide +kernel)
theorem wf_X12_163 : Cond.fieldLink RX12 163 RX12 "wrongAt" "I" ∈ TB := tbm (tq5 (List.mem_of_getElem? (i := 88) (by decide +kernel))) (by decide +kernel)
theorem fp_X12_163 : FP RX12 163 12 10 .int false := ⟨RX12, TX12, 45, tyX12, uw_X12, wf_X12_163, rfl, by decide, rfl, tyX12_ok, nmX12, rfl, by decide +kernel⟩
set_option maxRecDepth 100000 in
set_option maxHeartbeats 4000000 in
theorem r_fails (l : Launch) (E : EV) (ro : va_W) (hm : Nat) (c : Nat) (m_manys : Nat) (m_reals : Nat) (m_factsOf : Nat) (m_possible : Nat) (q_undos : Nat) (q_models : Nat) (m_tape : Nat) (q_taped : Nat) (q_fault : Int32) (q_wrong : Nat) (q_wrongAt : Int32) (q_spot : Int32) (q_place : Int32) (q_token : Int32) (q_value : Int32) (m_ends : Nat) (m_letters : Nat) (m_actOf : Nat) (m_whom : Nat) (m_actMany : Nat) (m_tokens : Nat) (m_afters : Nat) (m_afterOf : Nat) (q_counted : Int32) (m_pile : Nat) (m_caseMany : Nat) (m_happen : Nat) (m_hasIf : Nat) (m_becomes : Nat) (m_goneOf : Nat) (m_heard : Nat) (m_pairs : Nat) (m_heaps : Nat) (q_rounds : Int32) (q_heapMany : Int32) (m_led : Nat) (m_newAt : Nat) (m_knowing : Nat) (m_firsts : Nat) (q_people : Nat) (m_secrets : Nat) (m_tried : Nat) (m_lanes : Nat) (m_lengths : Nat) (m_cells : Nat) (hq_wrong : q_wrong ≤ 5) : CT l yX12_fails (Cond.code yX12_fails cX12_fails 2 none :: TB) ({ frames := 0, cells := 0, slots := 0, locals := 0 }) E ro [.ref hm, .int (nI c)] [(hm, .inr (12, [.ref m_manys, .ref m_reals, .ref m_factsOf, .ref m_possible, .int (nI q_undos), .int (nI q_models), .ref m_tape, .int (nI q_taped), .int q_fault, .int (nI q_wrong), .int q_wrongAt, .int q_spot, .int q_place, .int q_token, .int q_value, .ref m_ends, .ref m_letters, .ref m_actOf, .ref m_whom, .ref m_actMany, .ref m_tokens, .ref m_afters, .ref m_afterOf, .int q_counted, .ref m_pile, .ref m_caseMany, .ref m_happen, .ref m_hasIf, .ref m_becomes, .ref m_goneOf, .ref m_heard, .ref m_pairs, .ref m_heaps, .int q_rounds, .int q_heapMany, .ref m_led, .ref m_newAt, .ref m_knowing, .ref m_firsts, .int (nI q_people), .ref m_secrets, .ref m_tried, .ref m_lanes, .ref m_lengths, .ref m_cells]))] (Qv E (fun uz => (uz = [(hm, .inr (12, [.ref m_manys, .ref m_reals, .ref m_factsOf, .ref m_possible, .int (nI q_undos), .int (nI q_models), .ref m_tape, .int (nI q_taped), .int q_fault, .int (nI c), .int q_place, .int q_spot, .int q_place, .int q_token, .int q_value, .ref m_ends, .ref m_letters, .ref m_actOf, .ref m_whom, .ref m_actMany, .ref m_tokens, .ref m_afters, .ref m_afterOf, .int q_counted, .ref m_pile, .ref m_caseMany, .ref m_happen, .ref m_hasIf, .ref m_becomes, .ref m_goneOf, .ref m_heard, .ref m_pairs, .ref m_heaps, .int q_rounds, .int q_heapMany, .ref m_led, .ref m_newAt, .ref m_knowing, .ref m_firsts, .int (nI q_people), .ref m_secrets, .ref m_tried, .ref m_lanes, .ref m_lengths, .ref m_cells]))] ∧ (q_wrong = 0)) ∨ (uz = [(hm, .inr (12, [.ref m_manys, .ref m_reals, .ref m_factsOf, .ref m_possible, .int (nI q_undos), .int (nI q_models), .ref m_tape, .int (nI q_taped), .int q_fault, .int (nI q_wrong), .int q_wrongAt, .int q_spot, .int q_place, .int q_token, .int q_value, .ref m_ends, .ref m_letters, .ref m_actOf, .ref m_whom, .ref m_actMany, .ref m_tokens, .ref m_afters, .ref m_afterOf, .int q_counted, .ref m_pile, .ref m_caseMany, .ref m_happen, .ref m_hasIf, .ref m_becomes, .ref m_goneOf, .ref m_heard, .ref m_pairs, .ref m_heaps, .int q_rounds, .int q_heapMany, .ref m_led, .ref m_newAt, .ref m_knowing, .ref m_firsts, .int (nI q_people), .ref m_secrets, .ref m_tried, .ref m_lanes, .ref m_lengths, .ref m_cells]))] ∧ (0 < q_wrong)))) 0 0 := by
  refine ct_of rfl rfl ?_
  intro X C hT hin hro
  show WW X 2 E 0 [(0, .ref hm), (1, .int (nI c))] [] [(hm, .inr (12, [.ref m_manys, .ref m_reals, .ref m_factsOf, .ref m_possible, .int (nI q_undos), .int (nI q_models), .ref m_tape, .int (nI q_taped), .int q_fault, .int (nI q_wrong), .int q_wrongAt, .int q_spot, .int q_place, .int q_token, .int q_value, .ref m_ends, .ref m_letters, .ref m_actOf, .ref m_whom, .ref m_actMany, .ref m_tokens, .ref m_afters, .ref m_afterOf, .int q_counted, .ref m_pile, .ref m_caseMany, .ref m_happen, .ref m_hasIf, .ref m_becomes, .ref m_goneOf, .ref m_heard, .ref m_pairs, .ref m_heaps, .int q_rounds, .int q_heapMany, .ref m_led, .ref m_newAt, .ref m_knowing, .ref m_firsts, .int (nI q_people), .ref m_secrets, .ref m_tried, .ref m_lanes, .ref m_lengths, .ref m_cells]))] 0 0
  refine ww_aload_n C dX12_fails_0 0 rfl rfl ?_
  refine ww_get C fg_X12_157 0 rfl rfl dX12_fails_1 ?_
  refine ww_if_ne (tgt := 20) C dX12_fails_4 (by decide) (fun c_1 => ?_) (fun c_1 => ?_)
  · have zc_1 : ((q_wrong : Nat) : Int) ≠ 0 := i_ne (nI_toInt (n := q_wrong) (by omega)) rfl c_1
    exact ww_vret (u := [(hm, .inr (12, [.ref m_manys, .ref m_reals, .ref m_factsOf, .ref m_possible, .int (nI q_undos), .int (nI q_models), .ref m_tape, .int (nI q_taped), .int q_fault, .int (nI q_wrong), .int q_wrongAt, .int q_spot, .int q_place, .int q_token, .int q_value, .ref m_ends, .ref m_letters, .ref m_actOf, .ref m_whom, .ref m_actMany, .ref m_tokens, .ref m_afters, .ref m_afterOf, .int q_counted, .ref m_pile, .ref m_caseMany, .ref m_happen, .ref m_hasIf, .ref m_becomes, .ref m_goneOf, .ref m_heard, .ref m_pairs, .ref m_heaps, .int q_rounds, .int q_heapMany, .ref m_led, .ref m_newAt, .ref m_knowing, .ref m_firsts, .int (nI q_people), .ref m_secrets, .ref m_tried, .ref m_lanes, .ref m_lengths, .ref m_cells]))]) C hT [0] rfl rfl rfl rfl dX12_fails_20 (Or.inr ⟨rfl, (by first | assumption | omega | decide)⟩)
  · have zc_1 : ((q_wrong : Nat) : Int) = 0 := i_eq (nI_toInt (n := q_wrong) (by omega)) rfl c_1
    refine ww_aload_n C dX12_fails_7 0 rfl rfl ?_
    refine ww_iload_n C dX12_fails_8 1 rfl rfl ?_
    refine ww_put (ws' := [(hm, .inr (12, [.ref m_manys, .ref m_reals, .ref m_factsOf, .ref m_possible, .int (nI q_undos), .int (nI q_models), .ref m_tape, .int (nI q_taped), .int q_fault, .int (nI c), .int q_wrongAt, .int q_spot, .int q_place, .int q_token, .int q_value, .ref m_ends, .ref m_letters, .ref m_actOf, .ref m_whom, .ref m_actMany, .ref m_tokens, .ref m_afters, .ref m_afterOf, .int q_counted, .ref m_pile, .ref m_caseMany, .ref m_happen, .ref m_hasIf, .ref m_becomes, .ref m_goneOf, .ref m_heard, .ref m_pairs, .ref m_heaps, .int q_rounds, .int q_heapMany, .ref m_led, .ref m_newAt, .ref m_knowing, .ref m_firsts, .int (nI q_people), .ref m_secrets, .ref m_tried, .ref m_lanes, .ref m_lengths, .ref m_cells]))]) C fp_X12_157 0 rfl rfl rfl rfl rfl dX12_fails_9 ?_
    refine ww_aload_n C dX12_fails_12 0 rfl rfl ?_
    refine ww_aload_n C dX12_fails_13 0 rfl rfl ?_
    refine ww_get C fg_X12_160 0 rfl rfl dX12_fails_14 ?_
    refine ww_put (ws' := [(hm, .inr (12, [.ref m_manys, .ref m_reals, .ref m_factsOf, .ref m_possible, .int (nI q_undos), .int (nI q_models), .ref m_tape, .int (nI q_taped), .int q_fault, .int (nI c), .int q_place, .int q_spot, .int q_place, .int q_token, .int q_value, .ref m_ends, .ref m_letters, .ref m_actOf, .ref m_whom, .ref m_actMany, .ref m_tokens, .ref m_afters, .ref m_afterOf, .int q_counted, .ref m_pile, .ref m_caseMany, .ref m_happen, .ref m_hasIf, .ref m_becomes, .ref m_goneOf, .ref m_heard, .ref m_pairs, .ref m_heaps, .int q_rounds, .int q_heapMany, .ref m_led, .ref m_newAt, .ref m_knowing, .ref m_firsts, .int (nI q_people), .ref m_secrets, .ref m_tried, .ref m_lanes, .ref m_lengths, .ref m_cells]))]) C fp_X12_163 0 rfl rfl rfl rfl rfl dX12_fails_17 ?_
    exact ww_vret (u := [(hm, .inr (12, [.ref m_manys, .ref m_reals, .ref m_factsOf, .ref m_possible, .int (nI q_undos), .int (nI q_models), .ref m_tape, .int (nI q_taped), .int q_fault, .int (nI c), .int q_place, .int q_spot, .int q_place, .int q_token, .int q_value, .ref m_ends, .ref m_letters, .ref m_actOf, .ref m_whom, .ref m_actMany, .ref m_tokens, .ref m_afters, .ref m_afterOf, .int q_counted, .ref m_pile, .ref m_caseMany, .ref m_happen, .ref m_hasIf, .ref m_becomes, .ref m_goneOf, .ref m_heard, .ref m_pairs, .ref m_heaps, .int q_rounds, .int q_heapMany, .ref m_led, .ref m_newAt, .ref m_knowing, .ref m_firsts, .int (nI q_people), .ref m_secrets, .ref m_tried, .ref m_lanes, .ref m_lengths, .ref m_cells]))]) C hT [0] rfl rfl rfl rfl dX12_fails_20 (Or.inl ⟨rfl, (by first | assumption | omega | decide)⟩)
theorem dX12_next_0 : decode cX12_next 0 = .ok (.aload_n 0, 1) := dl_42 (by decide +kernel)
theorem dX12_next_1 : decode cX12_next 1 = .ok (.getfield 157, 3) := dl_180 (by decide +kernel)
theorem dX12_next_4 : decode cX12_next 4 = .ok (.ifCond .le 4, 3) := dl_158 (by decide +kernel)
theorem dX12_next_8 : decode cX12_next 8 = .ok (.aload_n 0, 1) := dl_42 (by decide +kernel)
theorem dX12_next_9 : decode cX12_next 9 = .ok (.aload_n 0, 1) := dl_42 (by decide +kernel)
theorem dX12_next_10 : decode cX12_next 10 = .ok (.getfield 166, 3) := dl_180 (by decide +kernel)
theorem wf_X12_166 : Cond.fieldLink RX12 166 RX12 "spot" "I" ∈ TB := tbm (tq5 (List.mem_of_getElem? (i := 89) (by decide +kernel))) (by decide +kernel)
theorem fg_X12_166 : FG RX12 166 12 11 := ⟨RX12, TX12, 45, uw_X12, wf_X12_166, rfl, by decide, rfl⟩
theorem dX12_next_13 : decode cX12_next 13 = .ok (.invokevirtual 169, 3) := dl_182 (by decide +kernel)
theorem wl_X12_169 : Cond.methodLink RX12 169 yX12_byteAt ∈ TB := tbm (tq6 (List.mem_of_getElem? (i := 57) (by decide +kernel))) (by decide +kernel)
theorem wc_X12_byteAt : Cond.code yX12_byteAt cX12_byteAt 2 (some .int) ∈ TB := tbm (tq6 (List.mem_of_getElem? (i := 60) (rfl))) (by decide +kernel)
theorem wi_X12_byteAt : Cond.instanceMethod yX12_byteAt ∈ TB := tbm (tq6 (List.mem_of_getElem? (i := 59) (by decide +kernel))) (by decide +kernel)
theorem ws_X12_byteAt : Cond.selects RX12 yX12_byteAt yX12_byteAt ∈ TB := tbm (tq0 (List.mem_of_getElem? (i := 44) (by decide +kernel))) (by decide +kernel)
theorem mi_X12_byteAt : MI yX12_byteAt cX12_byteAt 2 (some .int) 1 := ⟨wc_X12_byteAt, wn_X12, ⟨by decide +kernel, by decide +kernel, by decide +kernel⟩, wi_X12_byteAt, ws_X12_byteAt⟩
theorem dX12_next_16 : decode cX12_next 16 = .ok (.bipush 32, 2) := dl_16 (by decide +kernel)
theorem dX12_next_18 : decode cX12_next 18 = .ok (.if_icmp .ne 16, 3) := dl_160 (by decide +kernel)
theorem dX12_next_34 : decode cX12_next 34 = .ok (.aload_n 0, 1) := dl_42 (by decide +kernel)
theorem dX12_next_35 : decode cX12_next 35 = .ok (.aload_n 0, 1) := dl_42 (by decide +kernel)
theorem dX12_next_36 : decode cX12_next 36 = .ok (.getfield 166, 3) := dl_180 (by decide +kernel)
theorem dX12_next_39 : decode cX12_next 39 = .ok (.putfield 160, 3) := dl_181 (by decide +kernel)
theorem fp_X12_160 : FP RX12 160 12 12 .int false := ⟨RX12, TX12, 45, tyX12, uw_X12, wf_X12_160, rfl, by decide, rfl, tyX12_ok, nmX12, rfl, by decide +kernel⟩
theorem dX12_next_42 : decode cX12_next 42 = .ok (.aload_n 0, 1) := dl_42 (by decide +kernel)
theorem dX12_next_43 : decode cX12_next 43 = .ok (.aload_n 0, 1) := dl_42 (by decide +kernel)
theorem dX12_next_44 : decode cX12_next 44 = .ok (.getfield 166, 3) := dl_180 (by decide +kernel)
theorem dX12_next_47 : decode cX12_next 47 = .ok (.invokevirtual 169, 3) := dl_182 (by decide +kernel)
theorem dX12_next_50 : decode cX12_next 50 = .ok (.istore_n 1, 1) := dl_60 (by decide +kernel)
theorem dX12_next_51 : decode cX12_next 51 = .ok (.aload_n 0, 1) := dl_42 (by decide +kernel)
theorem dX12_next_52 : decode cX12_next 52 = .ok (.iconst 0, 1) := dl_3 (by decide +kernel)
theorem dX12_next_53 : decode cX12_next 53 = .ok (.putfield 172, 3) := dl_181 (by decide +kernel)
theorem wf_X12_172 : Cond.fieldLink RX12 172 RX12 "value" "I" ∈ TB := tbm (tq5 (List.mem_of_getElem? (i := 92) (by decide +kernel))) (by decide +kernel)
theorem fp_X12_172 : FP RX12 172 12 14 .int false := ⟨RX12, TX12, 45, tyX12, uw_X12, wf_X12_172, rfl, by decide, rfl, tyX12_ok, nmX12, rfl, by decide +kernel⟩
theorem dX12_next_56 : decode cX12_next 56 = .ok (.iload_n 1, 1) := dl_27 (by decide +kernel)
theorem dX12_next_57 : decode cX12_next 57 = .ok (.bipush (-4), 2) := dl_16 (by decide +kernel)
theorem dX12_next_59 : decode cX12_next 59 = .ok (.if_icmp .ne 11, 3) := dl_160 (by decide +kernel)
theorem dX12_next_70 : decode cX12_next 70 = .ok (.iload_n 1, 1) := dl_27 (by decide +kernel)
theorem dX12_next_71 : decode cX12_next 71 = .ok (.i2l, 1) := dl_133 (by decide +kernel)
theorem dX12_next_72 : decode cX12_next 72 = .ok (.ldc2_w 178, 3) := dl_20 (by decide +kernel)
theorem wv_X12_178 : Cond.constantLong RX12 178 97 ∈ TB := tbm (tq6 (List.mem_of_getElem? (i := 61) (by decide +kernel))) (by decide +kernel)
theorem dX12_next_75 : decode cX12_next 75 = .ok (.ldc2_w 180, 3) := dl_20 (by decide +kernel)
theorem wv_X12_180 : Cond.constantLong RX12 180 122 ∈ TB := tbm (tq6 (List.mem_of_getElem? (i := 62) (by decide +kernel))) (by decide +kernel)
theorem dX12_next_78 : decode cX12_next 78 = .ok (.invokestatic 115, 3) := dl_184 (by decide +kernel)
theorem dX12_next_81 : decode cX12_next 81 = .ok (.ifCond .eq 45, 3) := dl_153 (by decide +kernel)
theorem dX12_next_84 : decode cX12_next 84 = .ok (.aload_n 0, 1) := dl_42 (by decide +kernel)
theorem dX12_next_85 : decode cX12_next 85 = .ok (.aload_n 0, 1) := dl_42 (by decide +kernel)
theorem dX12_next_86 : decode cX12_next 86 = .ok (.getfield 166, 3) := dl_180 (by decide +kernel)
theorem dX12_next_89 : decode cX12_next 89 = .ok (.invokevirtual 169, 3) := dl_182 (by decide +kernel)
theorem dX12_next_92 : decode cX12_next 92 = .ok (.i2l, 1) := dl_133 (by decide +kernel)
theorem dX12_next_93 : decode cX12_next 93 = .ok (.ldc2_w 178, 3) := dl_20 (by decide +kernel)
theorem dX12_next_96 : decode cX12_next 96 = .ok (.ldc2_w 180, 3) := dl_20 (by decide +kernel)
theorem dX12_next_99 : decode cX12_next 99 = .ok (.invokestatic 115, 3) := dl_184 (by decide +kernel)
theorem dX12_next_102 : decode cX12_next 102 = .ok (.ifCond .eq 16, 3) := dl_153 (by decide +kernel)
theorem dX12_next_105 : decode cX12_next 105 = .ok (.aload_n 0, 1) := dl_42 (by decide +kernel)
theorem dX12_next_106 : decode cX12_next 106 = .ok (.dup, 1) := dl_89 (by decide +kernel)
theorem dX12_next_107 : decode cX12_next 107 = .ok (.getfield 166, 3) := dl_180 (by decide +kernel)
theorem dX12_next_110 : decode cX12_next 110 = .ok (.iconst 1, 1) := dl_4 (by decide +kernel)
theorem dX12_next_111 : decode cX12_next 111 = .ok (.iadd, 1) := dl_96 (by decide +kernel)
theorem dX12_next_112 : decode cX12_next 112 = .ok (.putfield 166, 3) := dl_181 (by decide +kernel)
theorem fp_X12_166 : FP RX12 166 12 11 .int false := ⟨RX12, TX12, 45, tyX12, uw_X12, wf_X12_166, rfl, by decide, rfl, tyX12_ok, nmX12, rfl, by decide +kernel⟩
theorem dX12_next_115 : decode cX12_next 115 = .ok (.goto (-31), 3) := dl_167 (by decide +kernel)
theorem dX12_next_118 : decode cX12_next 118 = .ok (.aload_n 0, 1) := dl_42 (by decide +kernel)
theorem dX12_next_119 : decode cX12_next 119 = .ok (.iconst 1, 1) := dl_4 (by decide +kernel)
theorem dX12_next_120 : decode cX12_next 120 = .ok (.putfield 175, 3) := dl_181 (by decide +kernel)
theorem wf_X12_175 : Cond.fieldLink RX12 175 RX12 "token" "I" ∈ TB := tbm (tq5 (List.mem_of_getElem? (i := 91) (by decide +kernel))) (by decide +kernel)
theorem fp_X12_175 : FP RX12 175 12 13 .int false := ⟨RX12, TX12, 45, tyX12, uw_X12, wf_X12_175, rfl, by decide, rfl, tyX12_ok, nmX12, rfl, by decide +kernel⟩
theorem dX12_next_123 : decode cX12_next 123 = .ok (.goto 90, 3) := dl_167 (by decide +kernel)
theorem dX12_next_213 : decode cX12_next 213 = .ok (.return_, 1) := dl_177 (by decide +kernel)
theorem dX12_next_126 : decode cX12_next 126 = .ok (.iload_n 1, 1) := dl_27 (by decide +kernel)
theorem dX12_next_127 : decode cX12_next 127 = .ok (.i2l, 1) := dl_133 (by decide +kernel)
theorem dX12_next_128 : decode cX12_next 128 = .ok (.ldc2_w 182, 3) := dl_20 (by decide +kernel)
theorem wv_X12_182 : Cond.constantLong RX12 182 48 ∈ TB := tbm (tq6 (List.mem_of_getElem? (i := 63) (by decide +kernel))) (by decide +kernel)
theorem dX12_next_131 : decode cX12_next 131 = .ok (.ldc2_w 184, 3) := dl_20 (by decide +kernel)
theorem wv_X12_184 : Cond.constantLong RX12 184 57 ∈ TB := tbm (tq6 (List.mem_of_getElem? (i := 64) (by decide +kernel))) (by decide +kernel)
theorem dX12_next_134 : decode cX12_next 134 = .ok (.invokestatic 115, 3) := dl_184 (by decide +kernel)
theorem dX12_next_137 : decode cX12_next 137 = .ok (.ifCond .eq 71, 3) := dl_153 (by decide +kernel)
theorem dX12_next_140 : decode cX12_next 140 = .ok (.aload_n 0, 1) := dl_42 (by decide +kernel)
theorem dX12_next_141 : decode cX12_next 141 = .ok (.aload_n 0, 1) := dl_42 (by decide +kernel)
theorem dX12_next_142 : decode cX12_next 142 = .ok (.getfield 166, 3) := dl_180 (by decide +kernel)
theorem dX12_next_145 : decode cX12_next 145 = .ok (.invokevirtual 169, 3) := dl_182 (by decide +kernel)
theorem dX12_next_148 : decode cX12_next 148 = .ok (.i2l, 1) := dl_133 (by decide +kernel)
theorem dX12_next_149 : decode cX12_next 149 = .ok (.ldc2_w 182, 3) := dl_20 (by decide +kernel)
theorem dX12_next_152 : decode cX12_next 152 = .ok (.ldc2_w 184, 3) := dl_20 (by decide +kernel)
theorem dX12_next_155 : decode cX12_next 155 = .ok (.invokestatic 115, 3) := dl_184 (by decide +kernel)
theorem dX12_next_158 : decode cX12_next 158 = .ok (.ifCond .eq 16, 3) := dl_153 (by decide +kernel)
theorem dX12_next_161 : decode cX12_next 161 = .ok (.aload_n 0, 1) := dl_42 (by decide +kernel)
theorem dX12_next_162 : decode cX12_next 162 = .ok (.dup, 1) := dl_89 (by decide +kernel)
theorem dX12_next_163 : decode cX12_next 163 = .ok (.getfield 166, 3) := dl_180 (by decide +kernel)
theorem dX12_next_166 : decode cX12_next 166 = .ok (.iconst 1, 1) := dl_4 (by decide +kernel)
theorem dX12_next_167 : decode cX12_next 167 = .ok (.iadd, 1) := dl_96 (by decide +kernel)
theorem dX12_next_168 : decode cX12_next 168 = .ok (.putfield 166, 3) := dl_181 (by decide +kernel)
theorem dX12_next_171 : decode cX12_next 171 = .ok (.goto (-31), 3) := dl_167 (by decide +kernel)
theorem dX12_next_174 : decode cX12_next 174 = .ok (.aload_n 0, 1) := dl_42 (by decide +kernel)
theorem dX12_next_175 : decode cX12_next 175 = .ok (.iconst 2, 1) := dl_5 (by decide +kernel)
theorem dX12_next_176 : decode cX12_next 176 = .ok (.putfield 175, 3) := dl_181 (by decide +kernel)
theorem dX12_next_179 : decode cX12_next 179 = .ok (.aload_n 0, 1) := dl_42 (by decide +kernel)
theorem dX12_next_180 : decode cX12_next 180 = .ok (.iload_n 1, 1) := dl_27 (by decide +kernel)
theorem dX12_next_181 : decode cX12_next 181 = .ok (.bipush 48, 2) := dl_16 (by decide +kernel)
theorem dX12_next_183 : decode cX12_next 183 = .ok (.isub, 1) := dl_100 (by decide +kernel)
theorem dX12_next_184 : decode cX12_next 184 = .ok (.putfield 172, 3) := dl_181 (by decide +kernel)
theorem dX12_next_187 : decode cX12_next 187 = .ok (.aload_n 0, 1) := dl_42 (by decide +kernel)
theorem dX12_next_188 : decode cX12_next 188 = .ok (.getfield 166, 3) := dl_180 (by decide +kernel)
theorem dX12_next_191 : decode cX12_next 191 = .ok (.aload_n 0, 1) := dl_42 (by decide +kernel)
theorem dX12_next_192 : decode cX12_next 192 = .ok (.getfield 160, 3) := dl_180 (by decide +kernel)
theorem dX12_next_195 : decode cX12_next 195 = .ok (.isub, 1) := dl_100 (by decide +kernel)
theorem dX12_next_196 : decode cX12_next 196 = .ok (.iconst 1, 1) := dl_4 (by decide +kernel)
theorem dX12_next_197 : decode cX12_next 197 = .ok (.if_icmp .le 16, 3) := dl_164 (by decide +kernel)
theorem dX12_next_200 : decode cX12_next 200 = .ok (.aload_n 0, 1) := dl_42 (by decide +kernel)
theorem dX12_next_201 : decode cX12_next 201 = .ok (.iconst 1, 1) := dl_4 (by decide +kernel)
theorem dX12_next_202 : decode cX12_next 202 = .ok (.invokevirtual 186, 3) := dl_182 (by decide +kernel)
theorem wl_X12_186 : Cond.methodLink RX12 186 yX12_fails ∈ TB := tbm (tq6 (List.mem_of_getElem? (i := 65) (by decide +kernel))) (by decide +kernel)
theorem wc_X12_fails : Cond.code yX12_fails cX12_fails 2 none ∈ TB := tbm (tq6 (List.mem_of_getElem? (i := 68) (rfl))) (by decide +kernel)
theorem wi_X12_fails : Cond.instanceMethod yX12_fails ∈ TB := tbm (tq6 (List.mem_of_getElem? (i := 67) (by decide +kernel))) (by decide +kernel)
theorem ws_X12_fails : Cond.selects RX12 yX12_fails yX12_fails ∈ TB := tbm (tq0 (List.mem_of_getElem? (i := 45) (by decide +kernel))) (by decide +kernel)
theorem mi_X12_fails : MI yX12_fails cX12_fails 2 none 1 := ⟨wc_X12_fails, wn_X12, ⟨by decide +kernel, by decide +kernel, by decide +kernel⟩, wi_X12_fails, ws_X12_fails⟩
theorem dX12_next_205 : decode cX12_next 205 = .ok (.goto 8, 3) := dl_167 (by decide +kernel)
theorem dX12_next_208 : decode cX12_next 208 = .ok (.aload_n 0, 1) := dl_42 (by decide +kernel)
theorem dX12_next_209 : decode cX12_next 209 = .ok (.iconst 1, 1) := dl_4 (by decide +kernel)
theorem dX12_next_210 : decode cX12_next 210 = .ok (.invokevirtual 186, 3) := dl_182 (by decide +kernel)
theorem dX12_next_62 : decode cX12_next 62 = .ok (.aload_n 0, 1) := dl_42 (by decide +kernel)
theorem dX12_next_63 : decode cX12_next 63 = .ok (.iconst 0, 1) := dl_3 (by decide +kernel)
theorem dX12_next_64 : decode cX12_next 64 = .ok (.putfield 175, 3) := dl_181 (by decide +kernel)
theorem dX12_next_67 : decode cX12_next 67 = .ok (.goto 146, 3) := dl_167 (by decide +kernel)
theorem dX12_next_21 : decode cX12_next 21 = .ok (.aload_n 0, 1) := dl_42 (by decide +kernel)
theorem dX12_next_22 : decode cX12_next 22 = .ok (.dup, 1) := dl_89 (by decide +kernel)
theorem dX12_next_23 : decode cX12_next 23 = .ok (.getfield 166, 3) := dl_180 (by decide +kernel)
theorem dX12_next_26 : decode cX12_next 26 = .ok (.iconst 1, 1) := dl_4 (by decide +kernel)
theorem dX12_next_27 : decode cX12_next 27 = .ok (.iadd, 1) := dl_96 (by decide +kernel)
theorem dX12_next_28 : decode cX12_next 28 = .ok (.putfield 166, 3) := dl_181 (by decide +kernel)
theorem dX12_next_31 : decode cX12_next 31 = .ok (.goto (-23), 3) := dl_167 (by decide +kernel)
theorem dX12_next_7 : decode cX12_next 7 = .ok (.return_, 1) := dl_177 (by decide +kernel)
set_option maxRecDepth 100000 in
set_option maxHeartbeats 4000000 in
theorem r_next (l : Launch) (E : EV) (ro : va_W) (hm : Nat) (m_manys : Nat) (m_reals : Nat) (m_factsOf : Nat) (m_possible : Nat) (q_undos : Nat) (q_models : Nat) (m_tape : Nat) (q_taped : Nat) (q_fault : Int32) (q_wrong : Nat) (q_wrongAt : Int32) (q_spot : Nat) (q_place : Int32) (q_token : Nat) (q_value : Nat) (m_ends : Nat) (m_letters : Nat) (m_actOf : Nat) (m_whom : Nat) (m_actMany : Nat) (m_tokens : Nat) (m_afters : Nat) (m_afterOf : Nat) (q_counted : Int32) (m_pile : Nat) (m_caseMany : Nat) (m_happen : Nat) (m_hasIf : Nat) (m_becomes : Nat) (m_goneOf : Nat) (m_heard : Nat) (m_pairs : Nat) (m_heaps : Nat) (q_rounds : Int32) (q_heapMany : Int32) (m_led : Nat) (m_newAt : Nat) (m_knowing : Nat) (m_firsts : Nat) (q_people : Nat) (m_secrets : Nat) (m_tried : Nat) (m_lanes : Nat) (m_lengths : Nat) (m_cells : Nat) (f_tape : Nat → Int32) (hb_tape : NB 160 255 f_tape) (hq_taped : q_taped ≤ 160) (hq_spot : q_spot ≤ q_taped) (hq_wrong : q_wrong ≤ 5) (hq_value : q_value ≤ 9) (hq_token : q_token ≤ 2) : CT l yX12_next (Cond.code yX12_next cX12_next 2 none :: TB) ({ frames := 1, cells := 0, slots := 0, locals := 25 }) E ro [.ref hm] [(hm, .inr (12, [.ref m_manys, .ref m_reals, .ref m_factsOf, .ref m_possible, .int (nI q_undos), .int (nI q_models), .ref m_tape, .int (nI q_taped), .int q_fault, .int (nI q_wrong), .int q_wrongAt, .int (nI q_spot), .int q_place, .int (nI q_token), .int (nI q_value), .ref m_ends, .ref m_letters, .ref m_actOf, .ref m_whom, .ref m_actMany, .ref m_tokens, .ref m_afters, .ref m_afterOf, .int q_counted, .ref m_pile, .ref m_caseMany, .ref m_happen, .ref m_hasIf, .ref m_becomes, .ref m_goneOf, .ref m_heard, .ref m_pairs, .ref m_heaps, .int q_rounds, .int q_heapMany, .ref m_led, .ref m_newAt, .ref m_knowing, .ref m_firsts, .int (nI q_people), .ref m_secrets, .ref m_tried, .ref m_lanes, .ref m_lengths, .ref m_cells])), (m_tape, .inl (E.2.1 1, 160, .inl f_tape))] (Qv E (fun uz => (uz = [(hm, .inr (12, [.ref m_manys, .ref m_reals, .ref m_factsOf, .ref m_possible, .int (nI q_undos), .int (nI q_models), .ref m_tape, .int (nI q_taped), .int q_fault, .int (nI q_wrong), .int q_wrongAt, .int (nI q_spot), .int q_place, .int (nI q_token), .int (nI q_value), .ref m_ends, .ref m_letters, .ref m_actOf, .ref m_whom, .ref m_actMany, .ref m_tokens, .ref m_afters, .ref m_afterOf, .int q_counted, .ref m_pile, .ref m_caseMany, .ref m_happen, .ref m_hasIf, .ref m_becomes, .ref m_goneOf, .ref m_heard, .ref m_pairs, .ref m_heaps, .int q_rounds, .int q_heapMany, .ref m_led, .ref m_newAt, .ref m_knowing, .ref m_firsts, .int (nI q_people), .ref m_secrets, .ref m_tried, .ref m_lanes, .ref m_lengths, .ref m_cells])), (m_tape, .inl (E.2.1 1, 160, .inl f_tape))] ∧ (0 < q_wrong)) ∨ (∃ (sp2 : Nat) (pl2 : Nat) (tk2 : Nat) (vl2 : Nat), uz = [(hm, .inr (12, [.ref m_manys, .ref m_reals, .ref m_factsOf, .ref m_possible, .int (nI q_undos), .int (nI q_models), .ref m_tape, .int (nI q_taped), .int q_fault, .int 0, .int q_wrongAt, .int (nI sp2), .int (nI pl2), .int (nI tk2), .int (nI vl2), .ref m_ends, .ref m_letters, .ref m_actOf, .ref m_whom, .ref m_actMany, .ref m_tokens, .ref m_afters, .ref m_afterOf, .int q_counted, .ref m_pile, .ref m_caseMany, .ref m_happen, .ref m_hasIf, .ref m_becomes, .ref m_goneOf, .ref m_heard, .ref m_pairs, .ref m_heaps, .int q_rounds, .int q_heapMany, .ref m_led, .ref m_newAt, .ref m_knowing, .ref m_firsts, .int (nI q_people), .ref m_secrets, .ref m_tried, .ref m_lanes, .ref m_lengths, .ref m_cells])), (m_tape, .inl (E.2.1 1, 160, .inl f_tape))] ∧ (pl2 ≤ sp2) ∧ (sp2 ≤ q_taped) ∧ (tk2 ≤ 2) ∧ (vl2 ≤ 9) ∧ (q_wrong = 0) ∧ (TK (cz f_tape q_taped) q_spot pl2 tk2 sp2) ∧ (tk2 = 2 → (vl2 : Int) = cz f_tape q_taped pl2 - 48)) ∨ (∃ (sp2 : Nat) (pl2 : Nat) (tk2 : Nat) (vl2 : Nat), uz = [(hm, .inr (12, [.ref m_manys, .ref m_reals, .ref m_factsOf, .ref m_possible, .int (nI q_undos), .int (nI q_models), .ref m_tape, .int (nI q_taped), .int q_fault, .int 1, .int (nI pl2), .int (nI sp2), .int (nI pl2), .int (nI tk2), .int (nI vl2), .ref m_ends, .ref m_letters, .ref m_actOf, .ref m_whom, .ref m_actMany, .ref m_tokens, .ref m_afters, .ref m_afterOf, .int q_counted, .ref m_pile, .ref m_caseMany, .ref m_happen, .ref m_hasIf, .ref m_becomes, .ref m_goneOf, .ref m_heard, .ref m_pairs, .ref m_heaps, .int q_rounds, .int q_heapMany, .ref m_led, .ref m_newAt, .ref m_knowing, .ref m_firsts, .int (nI q_people), .ref m_secrets, .ref m_tried, .ref m_lanes, .ref m_lengths, .ref m_cells])), (m_tape, .inl (E.2.1 1, 160, .inl f_tape))] ∧ (pl2 ≤ sp2) ∧ (sp2 ≤ q_taped) ∧ (tk2 ≤ 2) ∧ (vl2 ≤ 9) ∧ (q_wrong = 0) ∧ (sK (cz f_tape q_taped) q_spot = 3 ∧ pl2 = sS (cz f_tape q_taped) q_spot)))) 0 0 := by
  refine ct_of rfl rfl ?_
  intro X C hT hin hro
  show WW X 2 E 0 [(0, .ref hm)] [] [(hm, .inr (12, [.ref m_manys, .ref m_reals, .ref m_factsOf, .ref m_possible, .int (nI q_undos), .int (nI q_models), .ref m_tape, .int (nI q_taped), .int q_fault, .int (nI q_wrong), .int q_wrongAt, .int (nI q_spot), .int q_place, .int (nI q_token), .int (nI q_value), .ref m_ends, .ref m_letters, .ref m_actOf, .ref m_whom, .ref m_actMany, .ref m_tokens, .ref m_afters, .ref m_afterOf, .int q_counted, .ref m_pile, .ref m_caseMany, .ref m_happen, .ref m_hasIf, .ref m_becomes, .ref m_goneOf, .ref m_heard, .ref m_pairs, .ref m_heaps, .int q_rounds, .int q_heapMany, .ref m_led, .ref m_newAt, .ref m_knowing, .ref m_firsts, .int (nI q_people), .ref m_secrets, .ref m_tried, .ref m_lanes, .ref m_lengths, .ref m_cells])), (m_tape, .inl (E.2.1 1, 160, .inl f_tape))] 0 0
  refine ww_aload_n C dX12_next_0 0 rfl rfl ?_
  refine ww_get C fg_X12_157 0 rfl rfl dX12_next_1 ?_
  refine ww_if_le (tgt := 8) C dX12_next_4 (by decide) (fun c_1 => ?_) (fun c_1 => ?_)
  · have zc_1 : ((q_wrong : Nat) : Int) ≤ 0 := i_le (nI_toInt (n := q_wrong) (by omega)) rfl c_1
    obtain rfl : q_wrong = 0 := by omega
    refine ww_eq (ws' := [(hm, .inr (12, [.ref m_manys, .ref m_reals, .ref m_factsOf, .ref m_possible, .int (nI q_undos), .int (nI q_models), .ref m_tape, .int (nI q_taped), .int q_fault, .int 0, .int q_wrongAt, .int (nI q_spot), .int q_place, .int (nI q_token), .int (nI q_value), .ref m_ends, .ref m_letters, .ref m_actOf, .ref m_whom, .ref m_actMany, .ref m_tokens, .ref m_afters, .ref m_afterOf, .int q_counted, .ref m_pile, .ref m_caseMany, .ref m_happen, .ref m_hasIf, .ref m_becomes, .ref m_goneOf, .ref m_heard, .ref m_pairs, .ref m_heaps, .int q_rounds, .int q_heapMany, .ref m_led, .ref m_newAt, .ref m_knowing, .ref m_firsts, .int (nI q_people), .ref m_secrets, .ref m_tried, .ref m_lanes, .ref m_lengths, .ref m_cells])), (m_tape, .inl (E.2.1 1, 160, .inl f_tape))]) ?_ rfl rfl rfl
    have loop_8 : ∀ (fu : Nat) (sp1 : Nat), (sp1 ≤ q_taped) → (q_spot ≤ sp1) → (RGY (cz f_tape q_taped) q_spot sp1 32 32) → q_taped - sp1 < fu → WW X 2 E 8 [(0, .ref hm)] [] [(hm, .inr (12, [.ref m_manys, .ref m_reals, .ref m_factsOf, .ref m_possible, .int (nI q_undos), .int (nI q_models), .ref m_tape, .int (nI q_taped), .int q_fault, .int 0, .int q_wrongAt, .int (nI sp1), .int q_place, .int (nI q_token), .int (nI q_value), .ref m_ends, .ref m_letters, .ref m_actOf, .ref m_whom, .ref m_actMany, .ref m_tokens, .ref m_afters, .ref m_afterOf, .int q_counted, .ref m_pile, .ref m_caseMany, .ref m_happen, .ref m_hasIf, .ref m_becomes, .ref m_goneOf, .ref m_heard, .ref m_pairs, .ref m_heaps, .int q_rounds, .int q_heapMany, .ref m_led, .ref m_newAt, .ref m_knowing, .ref m_firsts, .int (nI q_people), .ref m_secrets, .ref m_tried, .ref m_lanes, .ref m_lengths, .ref m_cells])), (m_tape, .inl (E.2.1 1, 160, .inl f_tape))] 0 0 := by
      intro fu
      induction fu with
      | zero => intro sp1 hsp1 hlsp1 hysp1 hmeas; exact absurd hmeas (Nat.not_lt_zero _)
      | succ fu ih_8 =>
        intro sp1 hsp1 hlsp1 hysp1 hmeas
        refine ww_aload_n C dX12_next_8 0 rfl rfl ?_
        refine ww_aload_n C dX12_next_9 0 rfl rfl ?_
        refine ww_get C fg_X12_166 0 rfl rfl dX12_next_10 ?_
        refine ww_ci (wr := []) (k' := 0) (n' := 0) C (run_V (As := [.int (nI sp1)]) (rest := []) C (r_byteAt X.2.1 E ro hm sp1 m_manys m_reals m_factsOf m_possible q_undos q_models m_tape q_taped q_fault 0 q_wrongAt (nI sp1) q_place (nI q_token) (nI q_value) m_ends m_letters m_actOf m_whom m_actMany m_tokens m_afters m_afterOf q_counted m_pile m_caseMany m_happen m_hasIf m_becomes m_goneOf m_heard m_pairs m_heaps q_rounds q_heapMany m_led m_newAt m_knowing m_firsts q_people m_secrets m_tried m_lanes m_lengths m_cells f_tape hb_tape (by omega) (by omega)) mi_X12_byteAt wl_X12_169 rfl 0 12 rfl rfl rfl rfl rfl dX12_next_13) (roK hro) [0, 1] [] rfl rfl rfl rfl (fun r_2 uz hw => ?_)
        refine an1 hw ?_
        clear hw
        intro he_3 hw
        have he_4 := hw
        clear hw
        have he_3 := he_3.symm
        subst he_3
        subst he_4
        refine ww_eq (ws' := [(hm, .inr (12, [.ref m_manys, .ref m_reals, .ref m_factsOf, .ref m_possible, .int (nI q_undos), .int (nI q_models), .ref m_tape, .int (nI q_taped), .int q_fault, .int 0, .int q_wrongAt, .int (nI sp1), .int q_place, .int (nI q_token), .int (nI q_value), .ref m_ends, .ref m_letters, .ref m_actOf, .ref m_whom, .ref m_actMany, .ref m_tokens, .ref m_afters, .ref m_afterOf, .int q_counted, .ref m_pile, .ref m_caseMany, .ref m_happen, .ref m_hasIf, .ref m_becomes, .ref m_goneOf, .ref m_heard, .ref m_pairs, .ref m_heaps, .int q_rounds, .int q_heapMany, .ref m_led, .ref m_newAt, .ref m_knowing, .ref m_firsts, .int (nI q_people), .ref m_secrets, .ref m_tried, .ref m_lanes, .ref m_lengths, .ref m_cells])), (m_tape, .inl (E.2.1 1, 160, .inl f_tape))]) ?_ rfl rfl rfl
        refine ww_bipush (v := 32) C dX12_next_16 rfl ?_
        refine ww_icmp_ne (tgt := 34) C dX12_next_18 (by decide) (fun c_5 => ?_) (fun c_5 => ?_)
        · have zc_5 : (byt f_tape q_taped sp1).toInt ≠ 32 := i_ne rfl rfl c_5
          refine ww_aload_n C dX12_next_34 0 rfl rfl ?_
          refine ww_aload_n C dX12_next_35 0 rfl rfl ?_
          refine ww_get C fg_X12_166 0 rfl rfl dX12_next_36 ?_
          refine ww_put (ws' := [(hm, .inr (12, [.ref m_manys, .ref m_reals, .ref m_factsOf, .ref m_possible, .int (nI q_undos), .int (nI q_models), .ref m_tape, .int (nI q_taped), .int q_fault, .int 0, .int q_wrongAt, .int (nI sp1), .int (nI sp1), .int (nI q_token), .int (nI q_value), .ref m_ends, .ref m_letters, .ref m_actOf, .ref m_whom, .ref m_actMany, .ref m_tokens, .ref m_afters, .ref m_afterOf, .int q_counted, .ref m_pile, .ref m_caseMany, .ref m_happen, .ref m_hasIf, .ref m_becomes, .ref m_goneOf, .ref m_heard, .ref m_pairs, .ref m_heaps, .int q_rounds, .int q_heapMany, .ref m_led, .ref m_newAt, .ref m_knowing, .ref m_firsts, .int (nI q_people), .ref m_secrets, .ref m_tried, .ref m_lanes, .ref m_lengths, .ref m_cells])), (m_tape, .inl (E.2.1 1, 160, .inl f_tape))]) C fp_X12_160 0 rfl rfl rfl rfl rfl dX12_next_39 ?_
          refine ww_aload_n C dX12_next_42 0 rfl rfl ?_
          refine ww_aload_n C dX12_next_43 0 rfl rfl ?_
          refine ww_get C fg_X12_166 0 rfl rfl dX12_next_44 ?_
          refine ww_ci (wr := []) (k' := 0) (n' := 0) C (run_V (As := [.int (nI sp1)]) (rest := []) C (r_byteAt X.2.1 E ro hm sp1 m_manys m_reals m_factsOf m_possible q_undos q_models m_tape q_taped q_fault 0 q_wrongAt (nI sp1) (nI sp1) (nI q_token) (nI q_value) m_ends m_letters m_actOf m_whom m_actMany m_tokens m_afters m_afterOf q_counted m_pile m_caseMany m_happen m_hasIf m_becomes m_goneOf m_heard m_pairs m_heaps q_rounds q_heapMany m_led m_newAt m_knowing m_firsts q_people m_secrets m_tried m_lanes m_lengths m_cells f_tape hb_tape (by omega) (by omega)) mi_X12_byteAt wl_X12_169 rfl 0 12 rfl rfl rfl rfl rfl dX12_next_47) (roK hro) [0, 1] [] rfl rfl rfl rfl (fun r_6 uz hw => ?_)
          refine an1 hw ?_
          clear hw
          intro he_7 hw
          have he_8 := hw
          clear hw
          have he_7 := he_7.symm
          subst he_7
          subst he_8
          refine ww_eq (ws' := [(hm, .inr (12, [.ref m_manys, .ref m_reals, .ref m_factsOf, .ref m_possible, .int (nI q_undos), .int (nI q_models), .ref m_tape, .int (nI q_taped), .int q_fault, .int 0, .int q_wrongAt, .int (nI sp1), .int (nI sp1), .int (nI q_token), .int (nI q_value), .ref m_ends, .ref m_letters, .ref m_actOf, .ref m_whom, .ref m_actMany, .ref m_tokens, .ref m_afters, .ref m_afterOf, .int q_counted, .ref m_pile, .ref m_caseMany, .ref m_happen, .ref m_hasIf, .ref m_becomes, .ref m_goneOf, .ref m_heard, .ref m_pairs, .ref m_heaps, .int q_rounds, .int q_heapMany, .ref m_led, .ref m_newAt, .ref m_knowing, .ref m_firsts, .int (nI q_people), .ref m_secrets, .ref m_tried, .ref m_lanes, .ref m_lengths, .ref m_cells])), (m_tape, .inl (E.2.1 1, 160, .inl f_tape))]) ?_ rfl rfl rfl
          refine ww_istore_n (lv' := [(1, .int (byt f_tape q_taped sp1)), (0, .ref hm)]) C dX12_next_50 rfl rfl rfl ?_
          refine ww_aload_n C dX12_next_51 1 rfl rfl ?_
          refine ww_iconst (v := 0) C dX12_next_52 rfl ?_
          refine ww_put (ws' := [(hm, .inr (12, [.ref m_manys, .ref m_reals, .ref m_factsOf, .ref m_possible, .int (nI q_undos), .int (nI q_models), .ref m_tape, .int (nI q_taped), .int q_fault, .int 0, .int q_wrongAt, .int (nI sp1), .int (nI sp1), .int (nI q_token), .int 0, .ref m_ends, .ref m_letters, .ref m_actOf, .ref m_whom, .ref m_actMany, .ref m_tokens, .ref m_afters, .ref m_afterOf, .int q_counted, .ref m_pile, .ref m_caseMany, .ref m_happen, .ref m_hasIf, .ref m_becomes, .ref m_goneOf, .ref m_heard, .ref m_pairs, .ref m_heaps, .int q_rounds, .int q_heapMany, .ref m_led, .ref m_newAt, .ref m_knowing, .ref m_firsts, .int (nI q_people), .ref m_secrets, .ref m_tried, .ref m_lanes, .ref m_lengths, .ref m_cells])), (m_tape, .inl (E.2.1 1, 160, .inl f_tape))]) C fp_X12_172 0 rfl rfl rfl rfl rfl dX12_next_53 ?_
          refine ww_iload_n C dX12_next_56 0 rfl rfl ?_
          refine ww_bipush (v := (-4)) C dX12_next_57 rfl ?_
          refine ww_icmp_ne (tgt := 70) C dX12_next_59 (by decide) (fun c_9 => ?_) (fun c_9 => ?_)
          · have zc_9 : (byt f_tape q_taped sp1).toInt ≠ (-4) := i_ne rfl rfl c_9
            refine ww_iload_n C dX12_next_70 0 rfl rfl ?_
            refine ww_i2l (v := (byt f_tape q_taped sp1).toInt64) C dX12_next_71 rfl ?_
            refine ww_ldc2 C wv_X12_178 dX12_next_72 ?_
            refine ww_ldc2 C wv_X12_180 dX12_next_75 ?_
            refine ww_ci (wr := [(hm, .inr (12, [.ref m_manys, .ref m_reals, .ref m_factsOf, .ref m_possible, .int (nI q_undos), .int (nI q_models), .ref m_tape, .int (nI q_taped), .int q_fault, .int 0, .int q_wrongAt, .int (nI sp1), .int (nI sp1), .int (nI q_token), .int 0, .ref m_ends, .ref m_letters, .ref m_actOf, .ref m_whom, .ref m_actMany, .ref m_tokens, .ref m_afters, .ref m_afterOf, .int q_counted, .ref m_pile, .ref m_caseMany, .ref m_happen, .ref m_hasIf, .ref m_becomes, .ref m_goneOf, .ref m_heard, .ref m_pairs, .ref m_heaps, .int q_rounds, .int q_heapMany, .ref m_led, .ref m_newAt, .ref m_knowing, .ref m_firsts, .int (nI q_people), .ref m_secrets, .ref m_tried, .ref m_lanes, .ref m_lengths, .ref m_cells])), (m_tape, .inl (E.2.1 1, 160, .inl f_tape))]) (k' := 0) (n' := 0) C (run_S (As := [.long ((byt f_tape q_taped sp1).toInt64), .long 97, .long 122]) (rest := []) C (r_in X.2.1 E ro ((byt f_tape q_taped sp1).toInt64) 97 122 ((byt f_tape q_taped sp1).toInt) 97 122 (Int32.toInt_toInt64 _) rfl rfl) ms_X12_in wl_X12_115 rfl rfl rfl rfl dX12_next_78) (roK hro) [] [0, 1] rfl rfl rfl rfl (fun r_10 uz hw => ?_)
            rcases hw with hw | hw
            · refine an3 hw ?_
              clear hw
              intro he_13 he_14 h_11 hw
              have h_12 := hw
              clear hw
              have he_13 := he_13.symm
              subst he_13
              subst he_14
              refine ww_eq (ws' := [(hm, .inr (12, [.ref m_manys, .ref m_reals, .ref m_factsOf, .ref m_possible, .int (nI q_undos), .int (nI q_models), .ref m_tape, .int (nI q_taped), .int q_fault, .int 0, .int q_wrongAt, .int (nI sp1), .int (nI sp1), .int (nI q_token), .int 0, .ref m_ends, .ref m_letters, .ref m_actOf, .ref m_whom, .ref m_actMany, .ref m_tokens, .ref m_afters, .ref m_afterOf, .int q_counted, .ref m_pile, .ref m_caseMany, .ref m_happen, .ref m_hasIf, .ref m_becomes, .ref m_goneOf, .ref m_heard, .ref m_pairs, .ref m_heaps, .int q_rounds, .int q_heapMany, .ref m_led, .ref m_newAt, .ref m_knowing, .ref m_firsts, .int (nI q_people), .ref m_secrets, .ref m_tried, .ref m_lanes, .ref m_lengths, .ref m_cells])), (m_tape, .inl (E.2.1 1, 160, .inl f_tape))]) ?_ rfl rfl rfl
              refine ww_if_eq_f (tgt := 126) C dX12_next_81 (by decide) (by decide) ?_
              have loop_84 : ∀ (fu : Nat) (sp3 : Nat), (sp3 ≤ q_taped) → (sp1 ≤ sp3) → (RGY (cz f_tape q_taped) sp1 sp3 97 122) → q_taped - sp3 < fu → WW X 2 E 84 [(1, .int (byt f_tape q_taped sp1)), (0, .ref hm)] [] [(hm, .inr (12, [.ref m_manys, .ref m_reals, .ref m_factsOf, .ref m_possible, .int (nI q_undos), .int (nI q_models), .ref m_tape, .int (nI q_taped), .int q_fault, .int 0, .int q_wrongAt, .int (nI sp3), .int (nI sp1), .int (nI q_token), .int 0, .ref m_ends, .ref m_letters, .ref m_actOf, .ref m_whom, .ref m_actMany, .ref m_tokens, .ref m_afters, .ref m_afterOf, .int q_counted, .ref m_pile, .ref m_caseMany, .ref m_happen, .ref m_hasIf, .ref m_becomes, .ref m_goneOf, .ref m_heard, .ref m_pairs, .ref m_heaps, .int q_rounds, .int q_heapMany, .ref m_led, .ref m_newAt, .ref m_knowing, .ref m_firsts, .int (nI q_people), .ref m_secrets, .ref m_tried, .ref m_lanes, .ref m_lengths, .ref m_cells])), (m_tape, .inl (E.2.1 1, 160, .inl f_tape))] 0 0 := by
                intro fu
                induction fu with
                | zero => intro sp3 hsp3 hlsp3 hysp3 hmeas; exact absurd hmeas (Nat.not_lt_zero _)
                | succ fu ih_84 =>
                  intro sp3 hsp3 hlsp3 hysp3 hmeas
                  refine ww_aload_n C dX12_next_84 1 rfl rfl ?_
                  refine ww_aload_n C dX12_next_85 1 rfl rfl ?_
                  refine ww_get C fg_X12_166 0 rfl rfl dX12_next_86 ?_
                  refine ww_ci (wr := []) (k' := 0) (n' := 0) C (run_V (As := [.int (nI sp3)]) (rest := []) C (r_byteAt X.2.1 E ro hm sp3 m_manys m_reals m_factsOf m_possible q_undos q_models m_tape q_taped q_fault 0 q_wrongAt (nI sp3) (nI sp1) (nI q_token) 0 m_ends m_letters m_actOf m_whom m_actMany m_tokens m_afters m_afterOf q_counted m_pile m_caseMany m_happen m_hasIf m_becomes m_goneOf m_heard m_pairs m_heaps q_rounds q_heapMany m_led m_newAt m_knowing m_firsts q_people m_secrets m_tried m_lanes m_lengths m_cells f_tape hb_tape (by omega) (by omega)) mi_X12_byteAt wl_X12_169 rfl 0 12 rfl rfl rfl rfl rfl dX12_next_89) (roK hro) [0, 1] [] rfl rfl rfl rfl (fun r_18 uz hw => ?_)
                  refine an1 hw ?_
                  clear hw
                  intro he_19 hw
                  have he_20 := hw
                  clear hw
                  have he_19 := he_19.symm
                  subst he_19
                  subst he_20
                  refine ww_eq (ws' := [(hm, .inr (12, [.ref m_manys, .ref m_reals, .ref m_factsOf, .ref m_possible, .int (nI q_undos), .int (nI q_models), .ref m_tape, .int (nI q_taped), .int q_fault, .int 0, .int q_wrongAt, .int (nI sp3), .int (nI sp1), .int (nI q_token), .int 0, .ref m_ends, .ref m_letters, .ref m_actOf, .ref m_whom, .ref m_actMany, .ref m_tokens, .ref m_afters, .ref m_afterOf, .int q_counted, .ref m_pile, .ref m_caseMany, .ref m_happen, .ref m_hasIf, .ref m_becomes, .ref m_goneOf, .ref m_heard, .ref m_pairs, .ref m_heaps, .int q_rounds, .int q_heapMany, .ref m_led, .ref m_newAt, .ref m_knowing, .ref m_firsts, .int (nI q_people), .ref m_secrets, .ref m_tried, .ref m_lanes, .ref m_lengths, .ref m_cells])), (m_tape, .inl (E.2.1 1, 160, .inl f_tape))]) ?_ rfl rfl rfl
                  refine ww_i2l (v := (byt f_tape q_taped sp3).toInt64) C dX12_next_92 rfl ?_
                  refine ww_ldc2 C wv_X12_178 dX12_next_93 ?_
                  refine ww_ldc2 C wv_X12_180 dX12_next_96 ?_
                  refine ww_ci (wr := [(hm, .inr (12, [.ref m_manys, .ref m_reals, .ref m_factsOf, .ref m_possible, .int (nI q_undos), .int (nI q_models), .ref m_tape, .int (nI q_taped), .int q_fault, .int 0, .int q_wrongAt, .int (nI sp3), .int (nI sp1), .int (nI q_token), .int 0, .ref m_ends, .ref m_letters, .ref m_actOf, .ref m_whom, .ref m_actMany, .ref m_tokens, .ref m_afters, .ref m_afterOf, .int q_counted, .ref m_pile, .ref m_caseMany, .ref m_happen, .ref m_hasIf, .ref m_becomes, .ref m_goneOf, .ref m_heard, .ref m_pairs, .ref m_heaps, .int q_rounds, .int q_heapMany, .ref m_led, .ref m_newAt, .ref m_knowing, .ref m_firsts, .int (nI q_people), .ref m_secrets, .ref m_tried, .ref m_lanes, .ref m_lengths, .ref m_cells])), (m_tape, .inl (E.2.1 1, 160, .inl f_tape))]) (k' := 0) (n' := 0) C (run_S (As := [.long ((byt f_tape q_taped sp3).toInt64), .long 97, .long 122]) (rest := []) C (r_in X.2.1 E ro ((byt f_tape q_taped sp3).toInt64) 97 122 ((byt f_tape q_taped sp3).toInt) 97 122 (Int32.toInt_toInt64 _) rfl rfl) ms_X12_in wl_X12_115 rfl rfl rfl rfl dX12_next_99) (roK hro) [] [0, 1] rfl rfl rfl rfl (fun r_21 uz hw => ?_)
                  rcases hw with hw | hw
                  · refine an3 hw ?_
                    clear hw
                    intro he_24 he_25 h_22 hw
                    have h_23 := hw
                    clear hw
                    have he_24 := he_24.symm
                    subst he_24
                    subst he_25
                    refine ww_eq (ws' := [(hm, .inr (12, [.ref m_manys, .ref m_reals, .ref m_factsOf, .ref m_possible, .int (nI q_undos), .int (nI q_models), .ref m_tape, .int (nI q_taped), .int q_fault, .int 0, .int q_wrongAt, .int (nI sp3), .int (nI sp1), .int (nI q_token), .int 0, .ref m_ends, .ref m_letters, .ref m_actOf, .ref m_whom, .ref m_actMany, .ref m_tokens, .ref m_afters, .ref m_afterOf, .int q_counted, .ref m_pile, .ref m_caseMany, .ref m_happen, .ref m_hasIf, .ref m_becomes, .ref m_goneOf, .ref m_heard, .ref m_pairs, .ref m_heaps, .int q_rounds, .int q_heapMany, .ref m_led, .ref m_newAt, .ref m_knowing, .ref m_firsts, .int (nI q_people), .ref m_secrets, .ref m_tried, .ref m_lanes, .ref m_lengths, .ref m_cells])), (m_tape, .inl (E.2.1 1, 160, .inl f_tape))]) ?_ rfl rfl rfl
                    refine ww_if_eq_f (tgt := 118) C dX12_next_102 (by decide) (by decide) ?_
                    have hlt_k_29 := byt_lt (f := f_tape) (t := q_taped) (k := sp3) (by omega)
                    refine ww_aload_n C dX12_next_105 1 rfl rfl ?_
                    refine ww_dup C dX12_next_106 rfl ?_
                    refine ww_get C fg_X12_166 0 rfl rfl dX12_next_107 ?_
                    refine ww_iconst (v := 1) C dX12_next_110 rfl ?_
                    refine ww_iadd (v := (nI (sp3 + 1))) C dX12_next_111 (nI_add sp3 1) ?_
                    refine ww_put (ws' := [(hm, .inr (12, [.ref m_manys, .ref m_reals, .ref m_factsOf, .ref m_possible, .int (nI q_undos), .int (nI q_models), .ref m_tape, .int (nI q_taped), .int q_fault, .int 0, .int q_wrongAt, .int (nI (sp3 + 1)), .int (nI sp1), .int (nI q_token), .int 0, .ref m_ends, .ref m_letters, .ref m_actOf, .ref m_whom, .ref m_actMany, .ref m_tokens, .ref m_afters, .ref m_afterOf, .int q_counted, .ref m_pile, .ref m_caseMany, .ref m_happen, .ref m_hasIf, .ref m_becomes, .ref m_goneOf, .ref m_heard, .ref m_pairs, .ref m_heaps, .int q_rounds, .int q_heapMany, .ref m_led, .ref m_newAt, .ref m_knowing, .ref m_firsts, .int (nI q_people), .ref m_secrets, .ref m_tried, .ref m_lanes, .ref m_lengths, .ref m_cells])), (m_tape, .inl (E.2.1 1, 160, .inl f_tape))]) C fp_X12_166 0 rfl rfl rfl rfl rfl dX12_next_112 ?_
                    refine ww_goto (tgt := 84) C dX12_next_115 (by decide) ?_
                    exact ww_lv [0, 1] rfl (ww_sub [0, 1] rfl rfl (ih_84 (sp3 + 1) (by omega) (by omega) (RGY.ext hysp3 (by decide) (by decide) ⟨by omega, by omega⟩) (by omega)))
                  · refine an2 hw ?_
                    clear hw
                    intro he_27 he_28 hw
                    have h_26 := hw
                    clear hw
                    have he_27 := he_27.symm
                    subst he_27
                    subst he_28
                    refine ww_eq (ws' := [(hm, .inr (12, [.ref m_manys, .ref m_reals, .ref m_factsOf, .ref m_possible, .int (nI q_undos), .int (nI q_models), .ref m_tape, .int (nI q_taped), .int q_fault, .int 0, .int q_wrongAt, .int (nI sp3), .int (nI sp1), .int (nI q_token), .int 0, .ref m_ends, .ref m_letters, .ref m_actOf, .ref m_whom, .ref m_actMany, .ref m_tokens, .ref m_afters, .ref m_afterOf, .int q_counted, .ref m_pile, .ref m_caseMany, .ref m_happen, .ref m_hasIf, .ref m_becomes, .ref m_goneOf, .ref m_heard, .ref m_pairs, .ref m_heaps, .int q_rounds, .int q_heapMany, .ref m_led, .ref m_newAt, .ref m_knowing, .ref m_firsts, .int (nI q_people), .ref m_secrets, .ref m_tried, .ref m_lanes, .ref m_lengths, .ref m_cells])), (m_tape, .inl (E.2.1 1, 160, .inl f_tape))]) ?_ rfl rfl rfl
                    refine ww_if_eq_t (tgt := 118) C dX12_next_102 (by decide) (rfl) ?_
                    refine ww_aload_n C dX12_next_118 1 rfl rfl ?_
                    refine ww_iconst (v := 1) C dX12_next_119 rfl ?_
                    refine ww_put (ws' := [(hm, .inr (12, [.ref m_manys, .ref m_reals, .ref m_factsOf, .ref m_possible, .int (nI q_undos), .int (nI q_models), .ref m_tape, .int (nI q_taped), .int q_fault, .int 0, .int q_wrongAt, .int (nI sp3), .int (nI sp1), .int 1, .int 0, .ref m_ends, .ref m_letters, .ref m_actOf, .ref m_whom, .ref m_actMany, .ref m_tokens, .ref m_afters, .ref m_afterOf, .int q_counted, .ref m_pile, .ref m_caseMany, .ref m_happen, .ref m_hasIf, .ref m_becomes, .ref m_goneOf, .ref m_heard, .ref m_pairs, .ref m_heaps, .int q_rounds, .int q_heapMany, .ref m_led, .ref m_newAt, .ref m_knowing, .ref m_firsts, .int (nI q_people), .ref m_secrets, .ref m_tried, .ref m_lanes, .ref m_lengths, .ref m_cells])), (m_tape, .inl (E.2.1 1, 160, .inl f_tape))]) C fp_X12_175 0 rfl rfl rfl rfl rfl dX12_next_120 ?_
                    refine ww_goto (tgt := 213) C dX12_next_123 (by decide) ?_
                    exact ww_vret (u := [(hm, .inr (12, [.ref m_manys, .ref m_reals, .ref m_factsOf, .ref m_possible, .int (nI q_undos), .int (nI q_models), .ref m_tape, .int (nI q_taped), .int q_fault, .int 0, .int q_wrongAt, .int (nI sp3), .int (nI sp1), .int 1, .int 0, .ref m_ends, .ref m_letters, .ref m_actOf, .ref m_whom, .ref m_actMany, .ref m_tokens, .ref m_afters, .ref m_afterOf, .int q_counted, .ref m_pile, .ref m_caseMany, .ref m_happen, .ref m_hasIf, .ref m_becomes, .ref m_goneOf, .ref m_heard, .ref m_pairs, .ref m_heaps, .int q_rounds, .int q_heapMany, .ref m_led, .ref m_newAt, .ref m_knowing, .ref m_firsts, .int (nI q_people), .ref m_secrets, .ref m_tried, .ref m_lanes, .ref m_lengths, .ref m_cells])), (m_tape, .inl (E.2.1 1, 160, .inl f_tape))]) C hT [0, 1] rfl rfl rfl rfl dX12_next_213 (Or.inr (Or.inl ⟨sp3, sp1, 1, 0, rfl, (by first | assumption | omega | decide), (by first | assumption | omega | decide), (by first | assumption | omega | decide), (by first | assumption | omega | decide), (by first | assumption | omega | decide), (tk_name (bh_y hysp1 (by omega) (by omega) (by decide) (by decide) (by omega)) ((byt_in (by decide) (by decide)).mp ⟨by omega, by omega⟩) (bh_y hysp3 (by omega) (by omega) (by decide) (by decide) (by omega))), (fun h => absurd h (by decide))⟩))
              exact ww_lv [0, 1] rfl (ww_sub [0, 1] rfl rfl (loop_84 _ sp1 (by omega) (by omega) RGY.nil (Nat.lt_succ_self _)))
            · refine an2 hw ?_
              clear hw
              intro he_16 he_17 hw
              have h_15 := hw
              clear hw
              have he_16 := he_16.symm
              subst he_16
              subst he_17
              refine ww_eq (ws' := [(hm, .inr (12, [.ref m_manys, .ref m_reals, .ref m_factsOf, .ref m_possible, .int (nI q_undos), .int (nI q_models), .ref m_tape, .int (nI q_taped), .int q_fault, .int 0, .int q_wrongAt, .int (nI sp1), .int (nI sp1), .int (nI q_token), .int 0, .ref m_ends, .ref m_letters, .ref m_actOf, .ref m_whom, .ref m_actMany, .ref m_tokens, .ref m_afters, .ref m_afterOf, .int q_counted, .ref m_pile, .ref m_caseMany, .ref m_happen, .ref m_hasIf, .ref m_becomes, .ref m_goneOf, .ref m_heard, .ref m_pairs, .ref m_heaps, .int q_rounds, .int q_heapMany, .ref m_led, .ref m_newAt, .ref m_knowing, .ref m_firsts, .int (nI q_people), .ref m_secrets, .ref m_tried, .ref m_lanes, .ref m_lengths, .ref m_cells])), (m_tape, .inl (E.2.1 1, 160, .inl f_tape))]) ?_ rfl rfl rfl
              refine ww_if_eq_t (tgt := 126) C dX12_next_81 (by decide) (rfl) ?_
              refine ww_iload_n C dX12_next_126 0 rfl rfl ?_
              refine ww_i2l (v := (byt f_tape q_taped sp1).toInt64) C dX12_next_127 rfl ?_
              refine ww_ldc2 C wv_X12_182 dX12_next_128 ?_
              refine ww_ldc2 C wv_X12_184 dX12_next_131 ?_
              refine ww_ci (wr := [(hm, .inr (12, [.ref m_manys, .ref m_reals, .ref m_factsOf, .ref m_possible, .int (nI q_undos), .int (nI q_models), .ref m_tape, .int (nI q_taped), .int q_fault, .int 0, .int q_wrongAt, .int (nI sp1), .int (nI sp1), .int (nI q_token), .int 0, .ref m_ends, .ref m_letters, .ref m_actOf, .ref m_whom, .ref m_actMany, .ref m_tokens, .ref m_afters, .ref m_afterOf, .int q_counted, .ref m_pile, .ref m_caseMany, .ref m_happen, .ref m_hasIf, .ref m_becomes, .ref m_goneOf, .ref m_heard, .ref m_pairs, .ref m_heaps, .int q_rounds, .int q_heapMany, .ref m_led, .ref m_newAt, .ref m_knowing, .ref m_firsts, .int (nI q_people), .ref m_secrets, .ref m_tried, .ref m_lanes, .ref m_lengths, .ref m_cells])), (m_tape, .inl (E.2.1 1, 160, .inl f_tape))]) (k' := 0) (n' := 0) C (run_S (As := [.long ((byt f_tape q_taped sp1).toInt64), .long 48, .long 57]) (rest := []) C (r_in X.2.1 E ro ((byt f_tape q_taped sp1).toInt64) 48 57 ((byt f_tape q_taped sp1).toInt) 48 57 (Int32.toInt_toInt64 _) rfl rfl) ms_X12_in wl_X12_115 rfl rfl rfl rfl dX12_next_134) (roK hro) [] [0, 1] rfl rfl rfl rfl (fun r_30 uz hw => ?_)
              rcases hw with hw | hw
              · refine an3 hw ?_
                clear hw
                intro he_33 he_34 h_31 hw
                have h_32 := hw
                clear hw
                have he_33 := he_33.symm
                subst he_33
                subst he_34
                refine ww_eq (ws' := [(hm, .inr (12, [.ref m_manys, .ref m_reals, .ref m_factsOf, .ref m_possible, .int (nI q_undos), .int (nI q_models), .ref m_tape, .int (nI q_taped), .int q_fault, .int 0, .int q_wrongAt, .int (nI sp1), .int (nI sp1), .int (nI q_token), .int 0, .ref m_ends, .ref m_letters, .ref m_actOf, .ref m_whom, .ref m_actMany, .ref m_tokens, .ref m_afters, .ref m_afterOf, .int q_counted, .ref m_pile, .ref m_caseMany, .ref m_happen, .ref m_hasIf, .ref m_becomes, .ref m_goneOf, .ref m_heard, .ref m_pairs, .ref m_heaps, .int q_rounds, .int q_heapMany, .ref m_led, .ref m_newAt, .ref m_knowing, .ref m_firsts, .int (nI q_people), .ref m_secrets, .ref m_tried, .ref m_lanes, .ref m_lengths, .ref m_cells])), (m_tape, .inl (E.2.1 1, 160, .inl f_tape))]) ?_ rfl rfl rfl
                refine ww_if_eq_f (tgt := 208) C dX12_next_137 (by decide) (by decide) ?_
                have loop_140 : ∀ (fu : Nat) (sp4 : Nat), (sp4 ≤ q_taped) → (sp1 ≤ sp4) → (RGY (cz f_tape q_taped) sp1 sp4 48 57) → q_taped - sp4 < fu → WW X 2 E 140 [(1, .int (byt f_tape q_taped sp1)), (0, .ref hm)] [] [(hm, .inr (12, [.ref m_manys, .ref m_reals, .ref m_factsOf, .ref m_possible, .int (nI q_undos), .int (nI q_models), .ref m_tape, .int (nI q_taped), .int q_fault, .int 0, .int q_wrongAt, .int (nI sp4), .int (nI sp1), .int (nI q_token), .int 0, .ref m_ends, .ref m_letters, .ref m_actOf, .ref m_whom, .ref m_actMany, .ref m_tokens, .ref m_afters, .ref m_afterOf, .int q_counted, .ref m_pile, .ref m_caseMany, .ref m_happen, .ref m_hasIf, .ref m_becomes, .ref m_goneOf, .ref m_heard, .ref m_pairs, .ref m_heaps, .int q_rounds, .int q_heapMany, .ref m_led, .ref m_newAt, .ref m_knowing, .ref m_firsts, .int (nI q_people), .ref m_secrets, .ref m_tried, .ref m_lanes, .ref m_lengths, .ref m_cells])), (m_tape, .inl (E.2.1 1, 160, .inl f_tape))] 0 0 := by
                  intro fu
                  induction fu with
                  | zero => intro sp4 hsp4 hlsp4 hysp4 hmeas; exact absurd hmeas (Nat.not_lt_zero _)
                  | succ fu ih_140 =>
                    intro sp4 hsp4 hlsp4 hysp4 hmeas
                    refine ww_aload_n C dX12_next_140 1 rfl rfl ?_
                    refine ww_aload_n C dX12_next_141 1 rfl rfl ?_
                    refine ww_get C fg_X12_166 0 rfl rfl dX12_next_142 ?_
                    refine ww_ci (wr := []) (k' := 0) (n' := 0) C (run_V (As := [.int (nI sp4)]) (rest := []) C (r_byteAt X.2.1 E ro hm sp4 m_manys m_reals m_factsOf m_possible q_undos q_models m_tape q_taped q_fault 0 q_wrongAt (nI sp4) (nI sp1) (nI q_token) 0 m_ends m_letters m_actOf m_whom m_actMany m_tokens m_afters m_afterOf q_counted m_pile m_caseMany m_happen m_hasIf m_becomes m_goneOf m_heard m_pairs m_heaps q_rounds q_heapMany m_led m_newAt m_knowing m_firsts q_people m_secrets m_tried m_lanes m_lengths m_cells f_tape hb_tape (by omega) (by omega)) mi_X12_byteAt wl_X12_169 rfl 0 12 rfl rfl rfl rfl rfl dX12_next_145) (roK hro) [0, 1] [] rfl rfl rfl rfl (fun r_38 uz hw => ?_)
                    refine an1 hw ?_
                    clear hw
                    intro he_39 hw
                    have he_40 := hw
                    clear hw
                    have he_39 := he_39.symm
                    subst he_39
                    subst he_40
                    refine ww_eq (ws' := [(hm, .inr (12, [.ref m_manys, .ref m_reals, .ref m_factsOf, .ref m_possible, .int (nI q_undos), .int (nI q_models), .ref m_tape, .int (nI q_taped), .int q_fault, .int 0, .int q_wrongAt, .int (nI sp4), .int (nI sp1), .int (nI q_token), .int 0, .ref m_ends, .ref m_letters, .ref m_actOf, .ref m_whom, .ref m_actMany, .ref m_tokens, .ref m_afters, .ref m_afterOf, .int q_counted, .ref m_pile, .ref m_caseMany, .ref m_happen, .ref m_hasIf, .ref m_becomes, .ref m_goneOf, .ref m_heard, .ref m_pairs, .ref m_heaps, .int q_rounds, .int q_heapMany, .ref m_led, .ref m_newAt, .ref m_knowing, .ref m_firsts, .int (nI q_people), .ref m_secrets, .ref m_tried, .ref m_lanes, .ref m_lengths, .ref m_cells])), (m_tape, .inl (E.2.1 1, 160, .inl f_tape))]) ?_ rfl rfl rfl
                    refine ww_i2l (v := (byt f_tape q_taped sp4).toInt64) C dX12_next_148 rfl ?_
                    refine ww_ldc2 C wv_X12_182 dX12_next_149 ?_
                    refine ww_ldc2 C wv_X12_184 dX12_next_152 ?_
                    refine ww_ci (wr := [(hm, .inr (12, [.ref m_manys, .ref m_reals, .ref m_factsOf, .ref m_possible, .int (nI q_undos), .int (nI q_models), .ref m_tape, .int (nI q_taped), .int q_fault, .int 0, .int q_wrongAt, .int (nI sp4), .int (nI sp1), .int (nI q_token), .int 0, .ref m_ends, .ref m_letters, .ref m_actOf, .ref m_whom, .ref m_actMany, .ref m_tokens, .ref m_afters, .ref m_afterOf, .int q_counted, .ref m_pile, .ref m_caseMany, .ref m_happen, .ref m_hasIf, .ref m_becomes, .ref m_goneOf, .ref m_heard, .ref m_pairs, .ref m_heaps, .int q_rounds, .int q_heapMany, .ref m_led, .ref m_newAt, .ref m_knowing, .ref m_firsts, .int (nI q_people), .ref m_secrets, .ref m_tried, .ref m_lanes, .ref m_lengths, .ref m_cells])), (m_tape, .inl (E.2.1 1, 160, .inl f_tape))]) (k' := 0) (n' := 0) C (run_S (As := [.long ((byt f_tape q_taped sp4).toInt64), .long 48, .long 57]) (rest := []) C (r_in X.2.1 E ro ((byt f_tape q_taped sp4).toInt64) 48 57 ((byt f_tape q_taped sp4).toInt) 48 57 (Int32.toInt_toInt64 _) rfl rfl) ms_X12_in wl_X12_115 rfl rfl rfl rfl dX12_next_155) (roK hro) [] [0, 1] rfl rfl rfl rfl (fun r_41 uz hw => ?_)
                    rcases hw with hw | hw
                    · refine an3 hw ?_
                      clear hw
                      intro he_44 he_45 h_42 hw
                      have h_43 := hw
                      clear hw
                      have he_44 := he_44.symm
                      subst he_44
                      subst he_45
                      refine ww_eq (ws' := [(hm, .inr (12, [.ref m_manys, .ref m_reals, .ref m_factsOf, .ref m_possible, .int (nI q_undos), .int (nI q_models), .ref m_tape, .int (nI q_taped), .int q_fault, .int 0, .int q_wrongAt, .int (nI sp4), .int (nI sp1), .int (nI q_token), .int 0, .ref m_ends, .ref m_letters, .ref m_actOf, .ref m_whom, .ref m_actMany, .ref m_tokens, .ref m_afters, .ref m_afterOf, .int q_counted, .ref m_pile, .ref m_caseMany, .ref m_happen, .ref m_hasIf, .ref m_becomes, .ref m_goneOf, .ref m_heard, .ref m_pairs, .ref m_heaps, .int q_rounds, .int q_heapMany, .ref m_led, .ref m_newAt, .ref m_knowing, .ref m_firsts, .int (nI q_people), .ref m_secrets, .ref m_tried, .ref m_lanes, .ref m_lengths, .ref m_cells])), (m_tape, .inl (E.2.1 1, 160, .inl f_tape))]) ?_ rfl rfl rfl
                      refine ww_if_eq_f (tgt := 174) C dX12_next_158 (by decide) (by decide) ?_
                      have hlt_k_49 := byt_lt (f := f_tape) (t := q_taped) (k := sp4) (by omega)
                      refine ww_aload_n C dX12_next_161 1 rfl rfl ?_
                      refine ww_dup C dX12_next_162 rfl ?_
                      refine ww_get C fg_X12_166 0 rfl rfl dX12_next_163 ?_
                      refine ww_iconst (v := 1) C dX12_next_166 rfl ?_
                      refine ww_iadd (v := (nI (sp4 + 1))) C dX12_next_167 (nI_add sp4 1) ?_
                      refine ww_put (ws' := [(hm, .inr (12, [.ref m_manys, .ref m_reals, .ref m_factsOf, .ref m_possible, .int (nI q_undos), .int (nI q_models), .ref m_tape, .int (nI q_taped), .int q_fault, .int 0, .int q_wrongAt, .int (nI (sp4 + 1)), .int (nI sp1), .int (nI q_token), .int 0, .ref m_ends, .ref m_letters, .ref m_actOf, .ref m_whom, .ref m_actMany, .ref m_tokens, .ref m_afters, .ref m_afterOf, .int q_counted, .ref m_pile, .ref m_caseMany, .ref m_happen, .ref m_hasIf, .ref m_becomes, .ref m_goneOf, .ref m_heard, .ref m_pairs, .ref m_heaps, .int q_rounds, .int q_heapMany, .ref m_led, .ref m_newAt, .ref m_knowing, .ref m_firsts, .int (nI q_people), .ref m_secrets, .ref m_tried, .ref m_lanes, .ref m_lengths, .ref m_cells])), (m_tape, .inl (E.2.1 1, 160, .inl f_tape))]) C fp_X12_166 0 rfl rfl rfl rfl rfl dX12_next_168 ?_
                      refine ww_goto (tgt := 140) C dX12_next_171 (by decide) ?_
                      exact ww_lv [0, 1] rfl (ww_sub [0, 1] rfl rfl (ih_140 (sp4 + 1) (by omega) (by omega) (RGY.ext hysp4 (by decide) (by decide) ⟨by omega, by omega⟩) (by omega)))
                    · refine an2 hw ?_
                      clear hw
                      intro he_47 he_48 hw
                      have h_46 := hw
                      clear hw
                      have he_47 := he_47.symm
                      subst he_47
                      subst he_48
                      refine ww_eq (ws' := [(hm, .inr (12, [.ref m_manys, .ref m_reals, .ref m_factsOf, .ref m_possible, .int (nI q_undos), .int (nI q_models), .ref m_tape, .int (nI q_taped), .int q_fault, .int 0, .int q_wrongAt, .int (nI sp4), .int (nI sp1), .int (nI q_token), .int 0, .ref m_ends, .ref m_letters, .ref m_actOf, .ref m_whom, .ref m_actMany, .ref m_tokens, .ref m_afters, .ref m_afterOf, .int q_counted, .ref m_pile, .ref m_caseMany, .ref m_happen, .ref m_hasIf, .ref m_becomes, .ref m_goneOf, .ref m_heard, .ref m_pairs, .ref m_heaps, .int q_rounds, .int q_heapMany, .ref m_led, .ref m_newAt, .ref m_knowing, .ref m_firsts, .int (nI q_people), .ref m_secrets, .ref m_tried, .ref m_lanes, .ref m_lengths, .ref m_cells])), (m_tape, .inl (E.2.1 1, 160, .inl f_tape))]) ?_ rfl rfl rfl
                      refine ww_if_eq_t (tgt := 174) C dX12_next_158 (by decide) (rfl) ?_
                      refine ww_aload_n C dX12_next_174 1 rfl rfl ?_
                      refine ww_iconst (v := 2) C dX12_next_175 rfl ?_
                      refine ww_put (ws' := [(hm, .inr (12, [.ref m_manys, .ref m_reals, .ref m_factsOf, .ref m_possible, .int (nI q_undos), .int (nI q_models), .ref m_tape, .int (nI q_taped), .int q_fault, .int 0, .int q_wrongAt, .int (nI sp4), .int (nI sp1), .int 2, .int 0, .ref m_ends, .ref m_letters, .ref m_actOf, .ref m_whom, .ref m_actMany, .ref m_tokens, .ref m_afters, .ref m_afterOf, .int q_counted, .ref m_pile, .ref m_caseMany, .ref m_happen, .ref m_hasIf, .ref m_becomes, .ref m_goneOf, .ref m_heard, .ref m_pairs, .ref m_heaps, .int q_rounds, .int q_heapMany, .ref m_led, .ref m_newAt, .ref m_knowing, .ref m_firsts, .int (nI q_people), .ref m_secrets, .ref m_tried, .ref m_lanes, .ref m_lengths, .ref m_cells])), (m_tape, .inl (E.2.1 1, 160, .inl f_tape))]) C fp_X12_175 0 rfl rfl rfl rfl rfl dX12_next_176 ?_
                      refine ww_aload_n C dX12_next_179 1 rfl rfl ?_
                      refine ww_iload_n C dX12_next_180 0 rfl rfl ?_
                      refine ww_bipush (v := 48) C dX12_next_181 rfl ?_
                      obtain ⟨j_50, ej_50, hj_50, hzj_50⟩ := dig (x := (byt f_tape q_taped sp1)) (by omega) (by omega)
                      refine ww_isub (v := (nI j_50)) C dX12_next_183 ej_50 ?_
                      refine ww_put (ws' := [(hm, .inr (12, [.ref m_manys, .ref m_reals, .ref m_factsOf, .ref m_possible, .int (nI q_undos), .int (nI q_models), .ref m_tape, .int (nI q_taped), .int q_fault, .int 0, .int q_wrongAt, .int (nI sp4), .int (nI sp1), .int 2, .int (nI j_50), .ref m_ends, .ref m_letters, .ref m_actOf, .ref m_whom, .ref m_actMany, .ref m_tokens, .ref m_afters, .ref m_afterOf, .int q_counted, .ref m_pile, .ref m_caseMany, .ref m_happen, .ref m_hasIf, .ref m_becomes, .ref m_goneOf, .ref m_heard, .ref m_pairs, .ref m_heaps, .int q_rounds, .int q_heapMany, .ref m_led, .ref m_newAt, .ref m_knowing, .ref m_firsts, .int (nI q_people), .ref m_secrets, .ref m_tried, .ref m_lanes, .ref m_lengths, .ref m_cells])), (m_tape, .inl (E.2.1 1, 160, .inl f_tape))]) C fp_X12_172 0 rfl rfl rfl rfl rfl dX12_next_184 ?_
                      refine ww_aload_n C dX12_next_187 1 rfl rfl ?_
                      refine ww_get C fg_X12_166 0 rfl rfl dX12_next_188 ?_
                      refine ww_aload_n C dX12_next_191 1 rfl rfl ?_
                      refine ww_get C fg_X12_160 0 rfl rfl dX12_next_192 ?_
                      obtain ⟨x_51, ex_51⟩ : ∃ z : Int32, (nI sp4) - (nI sp1) = z := ⟨_, rfl⟩
                      have zx_51 : x_51.toInt = ((sp4 : Nat) : Int) - ((sp1 : Nat) : Int) := by rw [← ex_51]; exact i_sub (nI_toInt (n := sp4) (by omega)) (nI_toInt (n := sp1) (by omega)) (by omega) (by omega)
                      refine ww_isub (v := x_51) C dX12_next_195 ex_51 ?_
                      refine ww_iconst (v := 1) C dX12_next_196 rfl ?_
                      refine ww_icmp_le (tgt := 213) C dX12_next_197 (by decide) (fun c_52 => ?_) (fun c_52 => ?_)
                      · have zc_52 : (((sp4 : Nat) : Int) - ((sp1 : Nat) : Int)) ≤ 1 := i_le zx_51 rfl c_52
                        exact ww_vret (u := [(hm, .inr (12, [.ref m_manys, .ref m_reals, .ref m_factsOf, .ref m_possible, .int (nI q_undos), .int (nI q_models), .ref m_tape, .int (nI q_taped), .int q_fault, .int 0, .int q_wrongAt, .int (nI sp4), .int (nI sp1), .int 2, .int (nI j_50), .ref m_ends, .ref m_letters, .ref m_actOf, .ref m_whom, .ref m_actMany, .ref m_tokens, .ref m_afters, .ref m_afterOf, .int q_counted, .ref m_pile, .ref m_caseMany, .ref m_happen, .ref m_hasIf, .ref m_becomes, .ref m_goneOf, .ref m_heard, .ref m_pairs, .ref m_heaps, .int q_rounds, .int q_heapMany, .ref m_led, .ref m_newAt, .ref m_knowing, .ref m_firsts, .int (nI q_people), .ref m_secrets, .ref m_tried, .ref m_lanes, .ref m_lengths, .ref m_cells])), (m_tape, .inl (E.2.1 1, 160, .inl f_tape))]) C hT [0, 1] rfl rfl rfl rfl dX12_next_213 (Or.inr (Or.inl ⟨sp4, sp1, 2, j_50, rfl, (by first | assumption | omega | decide), (by first | assumption | omega | decide), (by first | assumption | omega | decide), (by first | assumption | omega | decide), (by first | assumption | omega | decide), (tk_num (bh_y hysp1 (by omega) (by omega) (by decide) (by decide) (by omega)) (cy_nn (by omega)) (fun h9 => by have h8 := (byt_in (by decide) (by decide)).mpr h9; omega) (bh_y hysp4 (by omega) (by omega) (by decide) (by decide) (by omega)) (by rcases Nat.lt_or_ge sp1 sp4 with h9 | h9 <;> first | omega | (exfalso; obtain rfl : sp4 = sp1 := (by omega); omega))), (fun _ => by rw [cy_eq (lo := 48) (hi := 57) (by decide) (by decide) ⟨by omega, by omega⟩]; omega)⟩))
                      · have zc_52 : (((sp4 : Nat) : Int) - ((sp1 : Nat) : Int)) > 1 := i_nle zx_51 rfl c_52
                        refine ww_aload_n C dX12_next_200 1 rfl rfl ?_
                        refine ww_iconst (v := 1) C dX12_next_201 rfl ?_
                        refine ww_cv (wr := [(m_tape, .inl (E.2.1 1, 160, .inl f_tape))]) (k' := 0) (n' := 0) C (run_V (As := [.int 1]) (rest := []) C (r_fails X.2.1 E ro hm 1 m_manys m_reals m_factsOf m_possible q_undos q_models m_tape q_taped q_fault 0 q_wrongAt (nI sp4) (nI sp1) 2 (nI j_50) m_ends m_letters m_actOf m_whom m_actMany m_tokens m_afters m_afterOf q_counted m_pile m_caseMany m_happen m_hasIf m_becomes m_goneOf m_heard m_pairs m_heaps q_rounds q_heapMany m_led m_newAt m_knowing m_firsts q_people m_secrets m_tried m_lanes m_lengths m_cells (by omega)) mi_X12_fails wl_X12_186 rfl 0 12 rfl rfl rfl rfl rfl dX12_next_202) (roK hro) [0] [1] rfl rfl rfl rfl (fun uz hw => ?_)
                        rcases hw with hw | hw
                        · refine an1 hw ?_
                          clear hw
                          intro he_55 hw
                          have h_54 := hw
                          clear hw
                          subst he_55
                          refine ww_eq (ws' := [(m_tape, .inl (E.2.1 1, 160, .inl f_tape)), (hm, .inr (12, [.ref m_manys, .ref m_reals, .ref m_factsOf, .ref m_possible, .int (nI q_undos), .int (nI q_models), .ref m_tape, .int (nI q_taped), .int q_fault, .int 1, .int (nI sp1), .int (nI sp4), .int (nI sp1), .int 2, .int (nI j_50), .ref m_ends, .ref m_letters, .ref m_actOf, .ref m_whom, .ref m_actMany, .ref m_tokens, .ref m_afters, .ref m_afterOf, .int q_counted, .ref m_pile, .ref m_caseMany, .ref m_happen, .ref m_hasIf, .ref m_becomes, .ref m_goneOf, .ref m_heard, .ref m_pairs, .ref m_heaps, .int q_rounds, .int q_heapMany, .ref m_led, .ref m_newAt, .ref m_knowing, .ref m_firsts, .int (nI q_people), .ref m_secrets, .ref m_tried, .ref m_lanes, .ref m_lengths, .ref m_cells]))]) ?_ rfl rfl rfl
                          refine ww_goto (tgt := 213) C dX12_next_205 (by decide) ?_
                          exact ww_vret (u := [(hm, .inr (12, [.ref m_manys, .ref m_reals, .ref m_factsOf, .ref m_possible, .int (nI q_undos), .int (nI q_models), .ref m_tape, .int (nI q_taped), .int q_fault, .int 1, .int (nI sp1), .int (nI sp4), .int (nI sp1), .int 2, .int (nI j_50), .ref m_ends, .ref m_letters, .ref m_actOf, .ref m_whom, .ref m_actMany, .ref m_tokens, .ref m_afters, .ref m_afterOf, .int q_counted, .ref m_pile, .ref m_caseMany, .ref m_happen, .ref m_hasIf, .ref m_becomes, .ref m_goneOf, .ref m_heard, .ref m_pairs, .ref m_heaps, .int q_rounds, .int q_heapMany, .ref m_led, .ref m_newAt, .ref m_knowing, .ref m_firsts, .int (nI q_people), .ref m_secrets, .ref m_tried, .ref m_lanes, .ref m_lengths, .ref m_cells])), (m_tape, .inl (E.2.1 1, 160, .inl f_tape))]) C hT [1, 0] rfl rfl rfl rfl dX12_next_213 (Or.inr (Or.inr ⟨sp4, sp1, 2, j_50, rfl, (by first | assumption | omega | decide), (by first | assumption | omega | decide), (by first | assumption | omega | decide), (by first | assumption | omega | decide), (by first | assumption | omega | decide), (by have h7 := (tk_no (bh_y hysp1 (by omega) (by omega) (by decide) (by decide) (by omega)) (cy_nn (by omega)) (fun h9 => by have h8 := (byt_in (by decide) (by decide)).mpr h9; omega) (bh_y hysp4 (by omega) (by omega) (by decide) (by decide) (by omega)) (by omega)); exact ⟨h7.2.1.symm, h7.1⟩)⟩))
                        · refine an1 hw ?_
                          clear hw
                          intro he_57 hw
                          have h_56 := hw
                          clear hw
                          subst he_57
                          omega
                exact ww_lv [0, 1] rfl (ww_sub [0, 1] rfl rfl (loop_140 _ sp1 (by omega) (by omega) RGY.nil (Nat.lt_succ_self _)))
              · refine an2 hw ?_
                clear hw
                intro he_36 he_37 hw
                have h_35 := hw
                clear hw
                have he_36 := he_36.symm
                subst he_36
                subst he_37
                refine ww_eq (ws' := [(hm, .inr (12, [.ref m_manys, .ref m_reals, .ref m_factsOf, .ref m_possible, .int (nI q_undos), .int (nI q_models), .ref m_tape, .int (nI q_taped), .int q_fault, .int 0, .int q_wrongAt, .int (nI sp1), .int (nI sp1), .int (nI q_token), .int 0, .ref m_ends, .ref m_letters, .ref m_actOf, .ref m_whom, .ref m_actMany, .ref m_tokens, .ref m_afters, .ref m_afterOf, .int q_counted, .ref m_pile, .ref m_caseMany, .ref m_happen, .ref m_hasIf, .ref m_becomes, .ref m_goneOf, .ref m_heard, .ref m_pairs, .ref m_heaps, .int q_rounds, .int q_heapMany, .ref m_led, .ref m_newAt, .ref m_knowing, .ref m_firsts, .int (nI q_people), .ref m_secrets, .ref m_tried, .ref m_lanes, .ref m_lengths, .ref m_cells])), (m_tape, .inl (E.2.1 1, 160, .inl f_tape))]) ?_ rfl rfl rfl
                refine ww_if_eq_t (tgt := 208) C dX12_next_137 (by decide) (rfl) ?_
                refine ww_aload_n C dX12_next_208 1 rfl rfl ?_
                refine ww_iconst (v := 1) C dX12_next_209 rfl ?_
                refine ww_cv (wr := [(m_tape, .inl (E.2.1 1, 160, .inl f_tape))]) (k' := 0) (n' := 0) C (run_V (As := [.int 1]) (rest := []) C (r_fails X.2.1 E ro hm 1 m_manys m_reals m_factsOf m_possible q_undos q_models m_tape q_taped q_fault 0 q_wrongAt (nI sp1) (nI sp1) (nI q_token) 0 m_ends m_letters m_actOf m_whom m_actMany m_tokens m_afters m_afterOf q_counted m_pile m_caseMany m_happen m_hasIf m_becomes m_goneOf m_heard m_pairs m_heaps q_rounds q_heapMany m_led m_newAt m_knowing m_firsts q_people m_secrets m_tried m_lanes m_lengths m_cells (by omega)) mi_X12_fails wl_X12_186 rfl 0 12 rfl rfl rfl rfl rfl dX12_next_210) (roK hro) [0] [1] rfl rfl rfl rfl (fun uz hw => ?_)
                rcases hw with hw | hw
                · refine an1 hw ?_
                  clear hw
                  intro he_60 hw
                  have h_59 := hw
                  clear hw
                  subst he_60
                  refine ww_eq (ws' := [(m_tape, .inl (E.2.1 1, 160, .inl f_tape)), (hm, .inr (12, [.ref m_manys, .ref m_reals, .ref m_factsOf, .ref m_possible, .int (nI q_undos), .int (nI q_models), .ref m_tape, .int (nI q_taped), .int q_fault, .int 1, .int (nI sp1), .int (nI sp1), .int (nI sp1), .int (nI q_token), .int 0, .ref m_ends, .ref m_letters, .ref m_actOf, .ref m_whom, .ref m_actMany, .ref m_tokens, .ref m_afters, .ref m_afterOf, .int q_counted, .ref m_pile, .ref m_caseMany, .ref m_happen, .ref m_hasIf, .ref m_becomes, .ref m_goneOf, .ref m_heard, .ref m_pairs, .ref m_heaps, .int q_rounds, .int q_heapMany, .ref m_led, .ref m_newAt, .ref m_knowing, .ref m_firsts, .int (nI q_people), .ref m_secrets, .ref m_tried, .ref m_lanes, .ref m_lengths, .ref m_cells]))]) ?_ rfl rfl rfl
                  exact ww_vret (u := [(hm, .inr (12, [.ref m_manys, .ref m_reals, .ref m_factsOf, .ref m_possible, .int (nI q_undos), .int (nI q_models), .ref m_tape, .int (nI q_taped), .int q_fault, .int 1, .int (nI sp1), .int (nI sp1), .int (nI sp1), .int (nI q_token), .int 0, .ref m_ends, .ref m_letters, .ref m_actOf, .ref m_whom, .ref m_actMany, .ref m_tokens, .ref m_afters, .ref m_afterOf, .int q_counted, .ref m_pile, .ref m_caseMany, .ref m_happen, .ref m_hasIf, .ref m_becomes, .ref m_goneOf, .ref m_heard, .ref m_pairs, .ref m_heaps, .int q_rounds, .int q_heapMany, .ref m_led, .ref m_newAt, .ref m_knowing, .ref m_firsts, .int (nI q_people), .ref m_secrets, .ref m_tried, .ref m_lanes, .ref m_lengths, .ref m_cells])), (m_tape, .inl (E.2.1 1, 160, .inl f_tape))]) C hT [1, 0] rfl rfl rfl rfl dX12_next_213 (Or.inr (Or.inr ⟨sp1, sp1, q_token, 0, rfl, (by first | assumption | omega | decide), (by first | assumption | omega | decide), (by first | assumption | omega | decide), (by first | assumption | omega | decide), (by first | assumption | omega | decide), (by have h7 := (tk_no (bh_y hysp1 (by omega) (by omega) (by decide) (by decide) (by omega)) (cy_nn (by omega)) (fun h9 => by have h8 := (byt_in (by decide) (by decide)).mpr h9; omega) (bh_y RGY.nil (Nat.le_refl _) (by omega) (by decide) (by decide) (by omega)) (by omega)); exact ⟨h7.2.1.symm, h7.1⟩)⟩))
                · refine an1 hw ?_
                  clear hw
                  intro he_62 hw
                  have h_61 := hw
                  clear hw
                  subst he_62
                  omega
          · have zc_9 : (byt f_tape q_taped sp1).toInt = (-4) := i_eq rfl rfl c_9
            refine ww_aload_n C dX12_next_62 1 rfl rfl ?_
            refine ww_iconst (v := 0) C dX12_next_63 rfl ?_
            refine ww_put (ws' := [(hm, .inr (12, [.ref m_manys, .ref m_reals, .ref m_factsOf, .ref m_possible, .int (nI q_undos), .int (nI q_models), .ref m_tape, .int (nI q_taped), .int q_fault, .int 0, .int q_wrongAt, .int (nI sp1), .int (nI sp1), .int 0, .int 0, .ref m_ends, .ref m_letters, .ref m_actOf, .ref m_whom, .ref m_actMany, .ref m_tokens, .ref m_afters, .ref m_afterOf, .int q_counted, .ref m_pile, .ref m_caseMany, .ref m_happen, .ref m_hasIf, .ref m_becomes, .ref m_goneOf, .ref m_heard, .ref m_pairs, .ref m_heaps, .int q_rounds, .int q_heapMany, .ref m_led, .ref m_newAt, .ref m_knowing, .ref m_firsts, .int (nI q_people), .ref m_secrets, .ref m_tried, .ref m_lanes, .ref m_lengths, .ref m_cells])), (m_tape, .inl (E.2.1 1, 160, .inl f_tape))]) C fp_X12_175 0 rfl rfl rfl rfl rfl dX12_next_64 ?_
            refine ww_goto (tgt := 213) C dX12_next_67 (by decide) ?_
            exact ww_vret (u := [(hm, .inr (12, [.ref m_manys, .ref m_reals, .ref m_factsOf, .ref m_possible, .int (nI q_undos), .int (nI q_models), .ref m_tape, .int (nI q_taped), .int q_fault, .int 0, .int q_wrongAt, .int (nI sp1), .int (nI sp1), .int 0, .int 0, .ref m_ends, .ref m_letters, .ref m_actOf, .ref m_whom, .ref m_actMany, .ref m_tokens, .ref m_afters, .ref m_afterOf, .int q_counted, .ref m_pile, .ref m_caseMany, .ref m_happen, .ref m_hasIf, .ref m_becomes, .ref m_goneOf, .ref m_heard, .ref m_pairs, .ref m_heaps, .int q_rounds, .int q_heapMany, .ref m_led, .ref m_newAt, .ref m_knowing, .ref m_firsts, .int (nI q_people), .ref m_secrets, .ref m_tried, .ref m_lanes, .ref m_lengths, .ref m_cells])), (m_tape, .inl (E.2.1 1, 160, .inl f_tape))]) C hT [0, 1] rfl rfl rfl rfl dX12_next_213 (Or.inr (Or.inl ⟨sp1, sp1, 0, 0, rfl, (by first | assumption | omega | decide), (by first | assumption | omega | decide), (by first | assumption | omega | decide), (by first | assumption | omega | decide), (by first | assumption | omega | decide), (tk_end (bh_y hysp1 (by omega) (by omega) (by decide) (by decide) (by omega)) (cy_end (by omega) hb_tape (by omega))), (fun h => absurd h (by decide))⟩))
        · have zc_5 : (byt f_tape q_taped sp1).toInt = 32 := i_eq rfl rfl c_5
          have hlt_k_63 := byt_lt (f := f_tape) (t := q_taped) (k := sp1) (by omega)
          refine ww_aload_n C dX12_next_21 0 rfl rfl ?_
          refine ww_dup C dX12_next_22 rfl ?_
          refine ww_get C fg_X12_166 0 rfl rfl dX12_next_23 ?_
          refine ww_iconst (v := 1) C dX12_next_26 rfl ?_
          refine ww_iadd (v := (nI (sp1 + 1))) C dX12_next_27 (nI_add sp1 1) ?_
          refine ww_put (ws' := [(hm, .inr (12, [.ref m_manys, .ref m_reals, .ref m_factsOf, .ref m_possible, .int (nI q_undos), .int (nI q_models), .ref m_tape, .int (nI q_taped), .int q_fault, .int 0, .int q_wrongAt, .int (nI (sp1 + 1)), .int q_place, .int (nI q_token), .int (nI q_value), .ref m_ends, .ref m_letters, .ref m_actOf, .ref m_whom, .ref m_actMany, .ref m_tokens, .ref m_afters, .ref m_afterOf, .int q_counted, .ref m_pile, .ref m_caseMany, .ref m_happen, .ref m_hasIf, .ref m_becomes, .ref m_goneOf, .ref m_heard, .ref m_pairs, .ref m_heaps, .int q_rounds, .int q_heapMany, .ref m_led, .ref m_newAt, .ref m_knowing, .ref m_firsts, .int (nI q_people), .ref m_secrets, .ref m_tried, .ref m_lanes, .ref m_lengths, .ref m_cells])), (m_tape, .inl (E.2.1 1, 160, .inl f_tape))]) C fp_X12_166 0 rfl rfl rfl rfl rfl dX12_next_28 ?_
          refine ww_goto (tgt := 8) C dX12_next_31 (by decide) ?_
          exact ww_lv [0] rfl (ww_sub [0, 1] rfl rfl (ih_8 (sp1 + 1) (by omega) (by omega) (RGY.ext hysp1 (by decide) (by decide) ⟨by omega, by omega⟩) (by omega)))
    exact ww_lv [0] rfl (ww_sub [0, 1] rfl rfl (loop_8 _ q_spot (by omega) (by omega) RGY.nil (Nat.lt_succ_self _)))
  · have zc_1 : ((q_wrong : Nat) : Int) > 0 := i_nle (nI_toInt (n := q_wrong) (by omega)) rfl c_1
    exact ww_vret (u := [(hm, .inr (12, [.ref m_manys, .ref m_reals, .ref m_factsOf, .ref m_possible, .int (nI q_undos), .int (nI q_models), .ref m_tape, .int (nI q_taped), .int q_fault, .int (nI q_wrong), .int q_wrongAt, .int (nI q_spot), .int q_place, .int (nI q_token), .int (nI q_value), .ref m_ends, .ref m_letters, .ref m_actOf, .ref m_whom, .ref m_actMany, .ref m_tokens, .ref m_afters, .ref m_afterOf, .int q_counted, .ref m_pile, .ref m_caseMany, .ref m_happen, .ref m_hasIf, .ref m_becomes, .ref m_goneOf, .ref m_heard, .ref m_pairs, .ref m_heaps, .int q_rounds, .int q_heapMany, .ref m_led, .ref m_newAt, .ref m_knowing, .ref m_firsts, .int (nI q_people), .ref m_secrets, .ref m_tried, .ref m_lanes, .ref m_lengths, .ref m_cells])), (m_tape, .inl (E.2.1 1, 160, .inl f_tape))]) C hT [0, 1] rfl rfl rfl rfl dX12_next_7 (Or.inl ⟨rfl, (by first | assumption | omega | decide)⟩)
end
section
theorem dX12_nameHere_0 : decode cX12_nameHere 0 = .ok (.iconst 0, 1) := dl_3 (by decide +kernel)
theorem dX12_nameHere_1 : decode cX12_nameHere 1 = .ok (.istore_n 1, 1) := dl_60 (by decide +kernel)
theorem dX12_nameHere_2 : decode cX12_nameHere 2 = .ok (.iload_n 1, 1) := dl_27 (by decide +kernel)
theorem dX12_nameHere_3 : decode cX12_nameHere 3 = .ok (.bipush 14, 2) := dl_16 (by decide +kernel)
theorem dX12_nameHere_5 : decode cX12_nameHere 5 = .ok (.if_icmp .ge 113, 3) := dl_162 (by decide +kernel)
theorem dX12_nameHere_118 : decode cX12_nameHere 118 = .ok (.bipush (-4), 2) := dl_16 (by decide +kernel)
theorem dX12_nameHere_120 : decode cX12_nameHere 120 = .ok (.ireturn, 1) := dl_172 (by decide +kernel)
theorem dX12_nameHere_8 : decode cX12_nameHere 8 = .ok (.aload_n 0, 1) := dl_42 (by decide +kernel)
theorem dX12_nameHere_9 : decode cX12_nameHere 9 = .ok (.getfield 175, 3) := dl_180 (by decide +kernel)
theorem fg_X12_175 : FG RX12 175 12 13 := ⟨RX12, TX12, 45, uw_X12, wf_X12_175, rfl, by decide, rfl⟩
theorem dX12_nameHere_12 : decode cX12_nameHere 12 = .ok (.iconst 1, 1) := dl_4 (by decide +kernel)
theorem dX12_nameHere_13 : decode cX12_nameHere 13 = .ok (.if_icmp .ne 34, 3) := dl_160 (by decide +kernel)
theorem dX12_nameHere_47 : decode cX12_nameHere 47 = .ok (.iconst 0, 1) := dl_3 (by decide +kernel)
theorem dX12_nameHere_48 : decode cX12_nameHere 48 = .ok (.istore_n 2, 1) := dl_61 (by decide +kernel)
theorem dX12_nameHere_49 : decode cX12_nameHere 49 = .ok (.iconst 0, 1) := dl_3 (by decide +kernel)
theorem dX12_nameHere_50 : decode cX12_nameHere 50 = .ok (.istore_n 3, 1) := dl_62 (by decide +kernel)
theorem dX12_nameHere_51 : decode cX12_nameHere 51 = .ok (.iload_n 2, 1) := dl_28 (by decide +kernel)
theorem dX12_nameHere_52 : decode cX12_nameHere 52 = .ok (.ifCond .eq 54, 3) := dl_153 (by decide +kernel)
theorem dX12_nameHere_106 : decode cX12_nameHere 106 = .ok (.iload_n 2, 1) := dl_28 (by decide +kernel)
theorem dX12_nameHere_107 : decode cX12_nameHere 107 = .ok (.ifCond .eq 5, 3) := dl_153 (by decide +kernel)
theorem dX12_nameHere_112 : decode cX12_nameHere 112 = .ok (.iinc 1 1, 3) := dl_132 (by decide +kernel)
theorem dX12_nameHere_115 : decode cX12_nameHere 115 = .ok (.goto (-113), 3) := dl_167 (by decide +kernel)
theorem dX12_nameHere_16 : decode cX12_nameHere 16 = .ok (.aload_n 0, 1) := dl_42 (by decide +kernel)
theorem dX12_nameHere_17 : decode cX12_nameHere 17 = .ok (.getfield 166, 3) := dl_180 (by decide +kernel)
theorem dX12_nameHere_20 : decode cX12_nameHere 20 = .ok (.aload_n 0, 1) := dl_42 (by decide +kernel)
theorem dX12_nameHere_21 : decode cX12_nameHere 21 = .ok (.getfield 160, 3) := dl_180 (by decide +kernel)
theorem dX12_nameHere_24 : decode cX12_nameHere 24 = .ok (.isub, 1) := dl_100 (by decide +kernel)
theorem dX12_nameHere_25 : decode cX12_nameHere 25 = .ok (.aload_n 0, 1) := dl_42 (by decide +kernel)
theorem dX12_nameHere_26 : decode cX12_nameHere 26 = .ok (.getfield 25, 3) := dl_180 (by decide +kernel)
theorem wf_X12_25 : Cond.fieldLink RX12 25 RX12 "ends" "[I" ∈ TB := tbm (tq5 (List.mem_of_getElem? (i := 93) (by decide +kernel))) (by decide +kernel)
theorem fg_X12_25 : FG RX12 25 12 15 := ⟨RX12, TX12, 45, uw_X12, wf_X12_25, rfl, by decide, rfl⟩
theorem dX12_nameHere_29 : decode cX12_nameHere 29 = .ok (.iload_n 1, 1) := dl_27 (by decide +kernel)
theorem dX12_nameHere_30 : decode cX12_nameHere 30 = .ok (.iconst 1, 1) := dl_4 (by decide +kernel)
theorem dX12_nameHere_31 : decode cX12_nameHere 31 = .ok (.iadd, 1) := dl_96 (by decide +kernel)
theorem dX12_nameHere_32 : decode cX12_nameHere 32 = .ok (.iaload, 1) := dl_46 (by decide +kernel)
theorem dX12_nameHere_33 : decode cX12_nameHere 33 = .ok (.aload_n 0, 1) := dl_42 (by decide +kernel)
theorem dX12_nameHere_34 : decode cX12_nameHere 34 = .ok (.getfield 25, 3) := dl_180 (by decide +kernel)
theorem dX12_nameHere_37 : decode cX12_nameHere 37 = .ok (.iload_n 1, 1) := dl_27 (by decide +kernel)
theorem dX12_nameHere_38 : decode cX12_nameHere 38 = .ok (.iaload, 1) := dl_46 (by decide +kernel)
theorem dX12_nameHere_39 : decode cX12_nameHere 39 = .ok (.isub, 1) := dl_100 (by decide +kernel)
theorem dX12_nameHere_40 : decode cX12_nameHere 40 = .ok (.if_icmp .ne 7, 3) := dl_160 (by decide +kernel)
theorem dX12_nameHere_43 : decode cX12_nameHere 43 = .ok (.iconst 1, 1) := dl_4 (by decide +kernel)
theorem dX12_nameHere_44 : decode cX12_nameHere 44 = .ok (.goto 4, 3) := dl_167 (by decide +kernel)
theorem dX12_nameHere_55 : decode cX12_nameHere 55 = .ok (.iload_n 3, 1) := dl_29 (by decide +kernel)
theorem dX12_nameHere_56 : decode cX12_nameHere 56 = .ok (.aload_n 0, 1) := dl_42 (by decide +kernel)
theorem dX12_nameHere_57 : decode cX12_nameHere 57 = .ok (.getfield 166, 3) := dl_180 (by decide +kernel)
theorem dX12_nameHere_60 : decode cX12_nameHere 60 = .ok (.aload_n 0, 1) := dl_42 (by decide +kernel)
theorem dX12_nameHere_61 : decode cX12_nameHere 61 = .ok (.getfield 160, 3) := dl_180 (by decide +kernel)
theorem dX12_nameHere_64 : decode cX12_nameHere 64 = .ok (.isub, 1) := dl_100 (by decide +kernel)
theorem dX12_nameHere_65 : decode cX12_nameHere 65 = .ok (.if_icmp .ge 41, 3) := dl_162 (by decide +kernel)
theorem dX12_nameHere_110 : decode cX12_nameHere 110 = .ok (.iload_n 1, 1) := dl_27 (by decide +kernel)
theorem dX12_nameHere_111 : decode cX12_nameHere 111 = .ok (.ireturn, 1) := dl_172 (by decide +kernel)
theorem dX12_nameHere_68 : decode cX12_nameHere 68 = .ok (.aload_n 0, 1) := dl_42 (by decide +kernel)
theorem dX12_nameHere_69 : decode cX12_nameHere 69 = .ok (.aload_n 0, 1) := dl_42 (by decide +kernel)
theorem dX12_nameHere_70 : decode cX12_nameHere 70 = .ok (.getfield 160, 3) := dl_180 (by decide +kernel)
theorem dX12_nameHere_73 : decode cX12_nameHere 73 = .ok (.iload_n 3, 1) := dl_29 (by decide +kernel)
theorem dX12_nameHere_74 : decode cX12_nameHere 74 = .ok (.iadd, 1) := dl_96 (by decide +kernel)
theorem dX12_nameHere_75 : decode cX12_nameHere 75 = .ok (.invokevirtual 169, 3) := dl_182 (by decide +kernel)
theorem dX12_nameHere_78 : decode cX12_nameHere 78 = .ok (.aload_n 0, 1) := dl_42 (by decide +kernel)
theorem dX12_nameHere_79 : decode cX12_nameHere 79 = .ok (.getfield 28, 3) := dl_180 (by decide +kernel)
theorem wf_X12_28 : Cond.fieldLink RX12 28 RX12 "letters" "[I" ∈ TB := tbm (tq5 (List.mem_of_getElem? (i := 94) (by decide +kernel))) (by decide +kernel)
theorem fg_X12_28 : FG RX12 28 12 16 := ⟨RX12, TX12, 45, uw_X12, wf_X12_28, rfl, by decide, rfl⟩
theorem dX12_nameHere_82 : decode cX12_nameHere 82 = .ok (.aload_n 0, 1) := dl_42 (by decide +kernel)
theorem dX12_nameHere_83 : decode cX12_nameHere 83 = .ok (.getfield 25, 3) := dl_180 (by decide +kernel)
theorem dX12_nameHere_86 : decode cX12_nameHere 86 = .ok (.iload_n 1, 1) := dl_27 (by decide +kernel)
theorem dX12_nameHere_87 : decode cX12_nameHere 87 = .ok (.iaload, 1) := dl_46 (by decide +kernel)
theorem dX12_nameHere_88 : decode cX12_nameHere 88 = .ok (.iload_n 3, 1) := dl_29 (by decide +kernel)
theorem dX12_nameHere_89 : decode cX12_nameHere 89 = .ok (.iadd, 1) := dl_96 (by decide +kernel)
theorem dX12_nameHere_90 : decode cX12_nameHere 90 = .ok (.iaload, 1) := dl_46 (by decide +kernel)
theorem dX12_nameHere_91 : decode cX12_nameHere 91 = .ok (.if_icmp .ne 7, 3) := dl_160 (by decide +kernel)
theorem dX12_nameHere_98 : decode cX12_nameHere 98 = .ok (.iconst 0, 1) := dl_3 (by decide +kernel)
theorem dX12_nameHere_99 : decode cX12_nameHere 99 = .ok (.istore_n 2, 1) := dl_61 (by decide +kernel)
theorem dX12_nameHere_100 : decode cX12_nameHere 100 = .ok (.iinc 3 1, 3) := dl_132 (by decide +kernel)
theorem dX12_nameHere_103 : decode cX12_nameHere 103 = .ok (.goto (-52), 3) := dl_167 (by decide +kernel)
theorem dX12_nameHere_94 : decode cX12_nameHere 94 = .ok (.iconst 1, 1) := dl_4 (by decide +kernel)
theorem dX12_nameHere_95 : decode cX12_nameHere 95 = .ok (.goto 4, 3) := dl_167 (by decide +kernel)
set_option maxRecDepth 100000 in
set_option maxHeartbeats 4000000 in
theorem r_nameHere (l : Launch) (E : EV) (ro : va_W) (hm : Nat) (m_manys : Nat) (m_reals : Nat) (m_factsOf : Nat) (m_possible : Nat) (q_undos : Nat) (q_models : Nat) (m_tape : Nat) (q_taped : Nat) (q_fault : Int32) (q_wrong : Int32) (q_wrongAt : Int32) (q_spot : Nat) (q_place : Nat) (q_token : Nat) (q_value : Int32) (m_ends : Nat) (m_letters : Nat) (m_actOf : Nat) (m_whom : Nat) (m_actMany : Nat) (m_tokens : Nat) (m_afters : Nat) (m_afterOf : Nat) (q_counted : Int32) (m_pile : Nat) (m_caseMany : Nat) (m_happen : Nat) (m_hasIf : Nat) (m_becomes : Nat) (m_goneOf : Nat) (m_heard : Nat) (m_pairs : Nat) (m_heaps : Nat) (q_rounds : Int32) (q_heapMany : Int32) (m_led : Nat) (m_newAt : Nat) (m_knowing : Nat) (m_firsts : Nat) (q_people : Nat) (m_secrets : Nat) (m_tried : Nat) (m_lanes : Nat) (m_lengths : Nat) (m_cells : Nat) (f_tape : Nat → Int32) (f_ends : Nat → Int32) (f_letters : Nat → Int32) (hb_tape : NB 160 255 f_tape) (hb_ends : EN f_ends) (hb_letters : LTR f_letters) (hq_taped : q_taped ≤ 160) (hq_spot : q_spot ≤ q_taped) (hq_place : q_place ≤ q_spot) (hq_token : q_token ≤ 2) : CT l yX12_nameHere (Cond.code yX12_nameHere cX12_nameHere 4 (some .int) :: TB) ({ frames := 1, cells := 0, slots := 0, locals := 21 }) E ro [.ref hm] [(hm, .inr (12, [.ref m_manys, .ref m_reals, .ref m_factsOf, .ref m_possible, .int (nI q_undos), .int (nI q_models), .ref m_tape, .int (nI q_taped), .int q_fault, .int q_wrong, .int q_wrongAt, .int (nI q_spot), .int (nI q_place), .int (nI q_token), .int q_value, .ref m_ends, .ref m_letters, .ref m_actOf, .ref m_whom, .ref m_actMany, .ref m_tokens, .ref m_afters, .ref m_afterOf, .int q_counted, .ref m_pile, .ref m_caseMany, .ref m_happen, .ref m_hasIf, .ref m_becomes, .ref m_goneOf, .ref m_heard, .ref m_pairs, .ref m_heaps, .int q_rounds, .int q_heapMany, .ref m_led, .ref m_newAt, .ref m_knowing, .ref m_firsts, .int (nI q_people), .ref m_secrets, .ref m_tried, .ref m_lanes, .ref m_lengths, .ref m_cells])), (m_tape, .inl (E.2.1 1, 160, .inl f_tape)), (m_ends, .inl (E.2.1 1, 15, .inl f_ends)), (m_letters, .inl (E.2.1 1, 50, .inl f_letters))] (Qi E (fun (rz : Int32) uz => (rz = (-4) ∧ uz = [(hm, .inr (12, [.ref m_manys, .ref m_reals, .ref m_factsOf, .ref m_possible, .int (nI q_undos), .int (nI q_models), .ref m_tape, .int (nI q_taped), .int q_fault, .int q_wrong, .int q_wrongAt, .int (nI q_spot), .int (nI q_place), .int (nI q_token), .int q_value, .ref m_ends, .ref m_letters, .ref m_actOf, .ref m_whom, .ref m_actMany, .ref m_tokens, .ref m_afters, .ref m_afterOf, .int q_counted, .ref m_pile, .ref m_caseMany, .ref m_happen, .ref m_hasIf, .ref m_becomes, .ref m_goneOf, .ref m_heard, .ref m_pairs, .ref m_heaps, .int q_rounds, .int q_heapMany, .ref m_led, .ref m_newAt, .ref m_knowing, .ref m_firsts, .int (nI q_people), .ref m_secrets, .ref m_tried, .ref m_lanes, .ref m_lengths, .ref m_cells])), (m_tape, .inl (E.2.1 1, 160, .inl f_tape)), (m_ends, .inl (E.2.1 1, 15, .inl f_ends)), (m_letters, .inl (E.2.1 1, 50, .inl f_letters))] ∧ (aT (cz f_tape q_taped) q_place q_token q_spot = 14)) ∨ (∃ (nn : Nat), rz = (nI nn) ∧ uz = [(hm, .inr (12, [.ref m_manys, .ref m_reals, .ref m_factsOf, .ref m_possible, .int (nI q_undos), .int (nI q_models), .ref m_tape, .int (nI q_taped), .int q_fault, .int q_wrong, .int q_wrongAt, .int (nI q_spot), .int (nI q_place), .int (nI q_token), .int q_value, .ref m_ends, .ref m_letters, .ref m_actOf, .ref m_whom, .ref m_actMany, .ref m_tokens, .ref m_afters, .ref m_afterOf, .int q_counted, .ref m_pile, .ref m_caseMany, .ref m_happen, .ref m_hasIf, .ref m_becomes, .ref m_goneOf, .ref m_heard, .ref m_pairs, .ref m_heaps, .int q_rounds, .int q_heapMany, .ref m_led, .ref m_newAt, .ref m_knowing, .ref m_firsts, .int (nI q_people), .ref m_secrets, .ref m_tried, .ref m_lanes, .ref m_lengths, .ref m_cells])), (m_tape, .inl (E.2.1 1, 160, .inl f_tape)), (m_ends, .inl (E.2.1 1, 15, .inl f_ends)), (m_letters, .inl (E.2.1 1, 50, .inl f_letters))] ∧ (nn ≤ 13) ∧ (q_token = 1) ∧ (aT (cz f_tape q_taped) q_place q_token q_spot = nn)))) 0 0 := by
  refine ct_of rfl rfl ?_
  intro X C hT hin hro
  show WW X 4 E 0 [(0, .ref hm)] [] [(hm, .inr (12, [.ref m_manys, .ref m_reals, .ref m_factsOf, .ref m_possible, .int (nI q_undos), .int (nI q_models), .ref m_tape, .int (nI q_taped), .int q_fault, .int q_wrong, .int q_wrongAt, .int (nI q_spot), .int (nI q_place), .int (nI q_token), .int q_value, .ref m_ends, .ref m_letters, .ref m_actOf, .ref m_whom, .ref m_actMany, .ref m_tokens, .ref m_afters, .ref m_afterOf, .int q_counted, .ref m_pile, .ref m_caseMany, .ref m_happen, .ref m_hasIf, .ref m_becomes, .ref m_goneOf, .ref m_heard, .ref m_pairs, .ref m_heaps, .int q_rounds, .int q_heapMany, .ref m_led, .ref m_newAt, .ref m_knowing, .ref m_firsts, .int (nI q_people), .ref m_secrets, .ref m_tried, .ref m_lanes, .ref m_lengths, .ref m_cells])), (m_tape, .inl (E.2.1 1, 160, .inl f_tape)), (m_ends, .inl (E.2.1 1, 15, .inl f_ends)), (m_letters, .inl (E.2.1 1, 50, .inl f_letters))] 0 0
  refine ww_iconst (v := 0) C dX12_nameHere_0 rfl ?_
  refine ww_istore_n (lv' := [(1, .int 0), (0, .ref hm)]) C dX12_nameHere_1 rfl rfl rfl ?_
  have loop_2 : ∀ (fu : Nat) (n1 : Nat), (n1 ≤ 14) → (∀ m, m < n1 → ¬ IN (cz f_tape q_taped) q_place q_token q_spot m) → 14 - n1 < fu → WW X 4 E 2 [(1, .int (nI n1)), (0, .ref hm)] [] [(hm, .inr (12, [.ref m_manys, .ref m_reals, .ref m_factsOf, .ref m_possible, .int (nI q_undos), .int (nI q_models), .ref m_tape, .int (nI q_taped), .int q_fault, .int q_wrong, .int q_wrongAt, .int (nI q_spot), .int (nI q_place), .int (nI q_token), .int q_value, .ref m_ends, .ref m_letters, .ref m_actOf, .ref m_whom, .ref m_actMany, .ref m_tokens, .ref m_afters, .ref m_afterOf, .int q_counted, .ref m_pile, .ref m_caseMany, .ref m_happen, .ref m_hasIf, .ref m_becomes, .ref m_goneOf, .ref m_heard, .ref m_pairs, .ref m_heaps, .int q_rounds, .int q_heapMany, .ref m_led, .ref m_newAt, .ref m_knowing, .ref m_firsts, .int (nI q_people), .ref m_secrets, .ref m_tried, .ref m_lanes, .ref m_lengths, .ref m_cells])), (m_tape, .inl (E.2.1 1, 160, .inl f_tape)), (m_ends, .inl (E.2.1 1, 15, .inl f_ends)), (m_letters, .inl (E.2.1 1, 50, .inl f_letters))] 0 0 := by
    intro fu
    induction fu with
    | zero => intro n1 hn1 hno hmeas; exact absurd hmeas (Nat.not_lt_zero _)
    | succ fu ih_2 =>
      intro n1 hn1 hno hmeas
      refine ww_iload_n C dX12_nameHere_2 0 rfl rfl ?_
      refine ww_bipush (v := 14) C dX12_nameHere_3 rfl ?_
      refine ww_icmp_ge (tgt := 118) C dX12_nameHere_5 (by decide) (fun c_1 => ?_) (fun c_1 => ?_)
      · have zc_1 : ((n1 : Nat) : Int) ≥ 14 := i_le rfl (nI_toInt (n := n1) (by omega)) c_1
        refine ww_bipush (v := (-4)) C dX12_nameHere_118 rfl ?_
        exact ww_iret (u := [(hm, .inr (12, [.ref m_manys, .ref m_reals, .ref m_factsOf, .ref m_possible, .int (nI q_undos), .int (nI q_models), .ref m_tape, .int (nI q_taped), .int q_fault, .int q_wrong, .int q_wrongAt, .int (nI q_spot), .int (nI q_place), .int (nI q_token), .int q_value, .ref m_ends, .ref m_letters, .ref m_actOf, .ref m_whom, .ref m_actMany, .ref m_tokens, .ref m_afters, .ref m_afterOf, .int q_counted, .ref m_pile, .ref m_caseMany, .ref m_happen, .ref m_hasIf, .ref m_becomes, .ref m_goneOf, .ref m_heard, .ref m_pairs, .ref m_heaps, .int q_rounds, .int q_heapMany, .ref m_led, .ref m_newAt, .ref m_knowing, .ref m_firsts, .int (nI q_people), .ref m_secrets, .ref m_tried, .ref m_lanes, .ref m_lengths, .ref m_cells])), (m_tape, .inl (E.2.1 1, 160, .inl f_tape)), (m_ends, .inl (E.2.1 1, 15, .inl f_ends)), (m_letters, .inl (E.2.1 1, 50, .inl f_letters))]) C hT [0, 1, 2, 3] rfl rfl rfl rfl dX12_nameHere_120 (Or.inl ⟨rfl, rfl, (aT_no (fun n hn => hno n (by omega)))⟩)
      · have zc_1 : ((n1 : Nat) : Int) < 14 := i_nle rfl (nI_toInt (n := n1) (by omega)) c_1
        refine ww_aload_n C dX12_nameHere_8 1 rfl rfl ?_
        refine ww_get C fg_X12_175 0 rfl rfl dX12_nameHere_9 ?_
        refine ww_iconst (v := 1) C dX12_nameHere_12 rfl ?_
        refine ww_icmp_ne (tgt := 47) C dX12_nameHere_13 (by decide) (fun c_2 => ?_) (fun c_2 => ?_)
        · have zc_2 : ((q_token : Nat) : Int) ≠ 1 := i_ne (nI_toInt (n := q_token) (by omega)) rfl c_2
          refine ww_iconst (v := 0) C dX12_nameHere_47 rfl ?_
          refine ww_istore_n (lv' := [(2, .int 0), (1, .int (nI n1)), (0, .ref hm)]) C dX12_nameHere_48 rfl rfl rfl ?_
          refine ww_iconst (v := 0) C dX12_nameHere_49 rfl ?_
          refine ww_istore_n (lv' := [(3, .int 0), (2, .int 0), (1, .int (nI n1)), (0, .ref hm)]) C dX12_nameHere_50 rfl rfl rfl ?_
          refine ww_iload_n C dX12_nameHere_51 1 rfl rfl ?_
          refine ww_if_eq_t (tgt := 106) C dX12_nameHere_52 (by decide) (rfl) ?_
          refine ww_iload_n C dX12_nameHere_106 1 rfl rfl ?_
          refine ww_if_eq_t (tgt := 112) C dX12_nameHere_107 (by decide) (rfl) ?_
          refine ww_iinc (j := 2) (v := (nI (n1 + 1))) (lv' := [(1, .int (nI (n1 + 1))), (3, .int 0), (2, .int 0), (0, .ref hm)]) C dX12_nameHere_112 rfl (nI_add n1 1) rfl rfl ?_
          refine ww_goto (tgt := 2) C dX12_nameHere_115 (by decide) ?_
          exact ww_lv [0, 3] rfl (ww_sub [0, 1, 2, 3] rfl rfl (ih_2 (n1 + 1) (by omega) (fun m hm => if q9 : m = n1 then (by rw [q9]; exact (fun h9 => by have h8 := h9.1; have h7 := h9.2.1; have h6 := (wd_ends n1 (by omega)).1; have h5 := ends_m n1 (by omega); omega)) else hno m (by omega)) (by omega)))
        · have zc_2 : ((q_token : Nat) : Int) = 1 := i_eq (nI_toInt (n := q_token) (by omega)) rfl c_2
          refine ww_aload_n C dX12_nameHere_16 1 rfl rfl ?_
          refine ww_get C fg_X12_166 0 rfl rfl dX12_nameHere_17 ?_
          refine ww_aload_n C dX12_nameHere_20 1 rfl rfl ?_
          refine ww_get C fg_X12_160 0 rfl rfl dX12_nameHere_21 ?_
          obtain ⟨x_3, ex_3⟩ : ∃ z : Int32, (nI q_spot) - (nI q_place) = z := ⟨_, rfl⟩
          have zx_3 : x_3.toInt = ((q_spot : Nat) : Int) - ((q_place : Nat) : Int) := by rw [← ex_3]; exact i_sub (nI_toInt (n := q_spot) (by omega)) (nI_toInt (n := q_place) (by omega)) (by omega) (by omega)
          refine ww_isub (v := x_3) C dX12_nameHere_24 ex_3 ?_
          refine ww_aload_n C dX12_nameHere_25 1 rfl rfl ?_
          refine ww_get C fg_X12_25 0 rfl rfl dX12_nameHere_26 ?_
          refine ww_iload_n C dX12_nameHere_29 0 rfl rfl ?_
          refine ww_iconst (v := 1) C dX12_nameHere_30 rfl ?_
          refine ww_iadd (v := (nI (n1 + 1))) C dX12_nameHere_31 (nI_add n1 1) ?_
          have hbx_4 := ends_le (n1 + 1) (by omega)
          refine ww_iald (v := (nI (endsN (n1 + 1)))) C 2 rfl (vp_in_nI (by omega) (by omega)) (ldn (by omega) (hb_ends (n1 + 1) (by omega))) dX12_nameHere_32 ?_
          refine ww_aload_n C dX12_nameHere_33 1 rfl rfl ?_
          refine ww_get C fg_X12_25 0 rfl rfl dX12_nameHere_34 ?_
          refine ww_iload_n C dX12_nameHere_37 0 rfl rfl ?_
          have hbx_5 := ends_le n1 (by omega)
          refine ww_iald (v := (nI (endsN n1))) C 2 rfl (vp_in_nI (by omega) (by omega)) (ldn (by omega) (hb_ends n1 (by omega))) dX12_nameHere_38 ?_
          obtain ⟨x_6, ex_6⟩ : ∃ z : Int32, (nI (endsN (n1 + 1))) - (nI (endsN n1)) = z := ⟨_, rfl⟩
          have zx_6 : x_6.toInt = ((endsN (n1 + 1) : Nat) : Int) - ((endsN n1 : Nat) : Int) := by rw [← ex_6]; exact i_sub (nI_toInt (n := endsN (n1 + 1)) (by omega)) (nI_toInt (n := endsN n1) (by omega)) (by omega) (by omega)
          refine ww_isub (v := x_6) C dX12_nameHere_39 ex_6 ?_
          refine ww_icmp_ne (tgt := 47) C dX12_nameHere_40 (by decide) (fun c_7 => ?_) (fun c_7 => ?_)
          · have zc_7 : (((q_spot : Nat) : Int) - ((q_place : Nat) : Int)) ≠ (((endsN (n1 + 1) : Nat) : Int) - ((endsN n1 : Nat) : Int)) := i_ne zx_3 zx_6 c_7
            refine ww_iconst (v := 0) C dX12_nameHere_47 rfl ?_
            refine ww_istore_n (lv' := [(2, .int 0), (1, .int (nI n1)), (0, .ref hm)]) C dX12_nameHere_48 rfl rfl rfl ?_
            refine ww_iconst (v := 0) C dX12_nameHere_49 rfl ?_
            refine ww_istore_n (lv' := [(3, .int 0), (2, .int 0), (1, .int (nI n1)), (0, .ref hm)]) C dX12_nameHere_50 rfl rfl rfl ?_
            refine ww_iload_n C dX12_nameHere_51 1 rfl rfl ?_
            refine ww_if_eq_t (tgt := 106) C dX12_nameHere_52 (by decide) (rfl) ?_
            refine ww_iload_n C dX12_nameHere_106 1 rfl rfl ?_
            refine ww_if_eq_t (tgt := 112) C dX12_nameHere_107 (by decide) (rfl) ?_
            refine ww_iinc (j := 2) (v := (nI (n1 + 1))) (lv' := [(1, .int (nI (n1 + 1))), (3, .int 0), (2, .int 0), (0, .ref hm)]) C dX12_nameHere_112 rfl (nI_add n1 1) rfl rfl ?_
            refine ww_goto (tgt := 2) C dX12_nameHere_115 (by decide) ?_
            exact ww_lv [0, 3] rfl (ww_sub [0, 1, 2, 3] rfl rfl (ih_2 (n1 + 1) (by omega) (fun m hm => if q9 : m = n1 then (by rw [q9]; exact (fun h9 => by have h8 := h9.1; have h7 := h9.2.1; have h6 := (wd_ends n1 (by omega)).1; have h5 := ends_m n1 (by omega); omega)) else hno m (by omega)) (by omega)))
          · have zc_7 : (((q_spot : Nat) : Int) - ((q_place : Nat) : Int)) = (((endsN (n1 + 1) : Nat) : Int) - ((endsN n1 : Nat) : Int)) := i_eq zx_3 zx_6 c_7
            refine ww_iconst (v := 1) C dX12_nameHere_43 rfl ?_
            refine ww_goto (tgt := 48) C dX12_nameHere_44 (by decide) ?_
            refine ww_istore_n (lv' := [(2, .int 1), (1, .int (nI n1)), (0, .ref hm)]) C dX12_nameHere_48 rfl rfl rfl ?_
            refine ww_iconst (v := 0) C dX12_nameHere_49 rfl ?_
            refine ww_istore_n (lv' := [(3, .int 0), (2, .int 1), (1, .int (nI n1)), (0, .ref hm)]) C dX12_nameHere_50 rfl rfl rfl ?_
            have loop_51 : ∀ (fu : Nat) (sm : Nat) (k1 : Nat), (sm ≤ 1) → (k1 ≤ q_spot - q_place) → (sm = 1 → ∀ j, j < k1 → cz f_tape q_taped (q_place + j) = wdB n1 j) → (sm = 0 → ¬ IN (cz f_tape q_taped) q_place q_token q_spot n1) → q_spot - q_place - k1 < fu → WW X 4 E 51 [(3, .int (nI k1)), (2, .int (nI sm)), (1, .int (nI n1)), (0, .ref hm)] [] [(hm, .inr (12, [.ref m_manys, .ref m_reals, .ref m_factsOf, .ref m_possible, .int (nI q_undos), .int (nI q_models), .ref m_tape, .int (nI q_taped), .int q_fault, .int q_wrong, .int q_wrongAt, .int (nI q_spot), .int (nI q_place), .int (nI q_token), .int q_value, .ref m_ends, .ref m_letters, .ref m_actOf, .ref m_whom, .ref m_actMany, .ref m_tokens, .ref m_afters, .ref m_afterOf, .int q_counted, .ref m_pile, .ref m_caseMany, .ref m_happen, .ref m_hasIf, .ref m_becomes, .ref m_goneOf, .ref m_heard, .ref m_pairs, .ref m_heaps, .int q_rounds, .int q_heapMany, .ref m_led, .ref m_newAt, .ref m_knowing, .ref m_firsts, .int (nI q_people), .ref m_secrets, .ref m_tried, .ref m_lanes, .ref m_lengths, .ref m_cells])), (m_tape, .inl (E.2.1 1, 160, .inl f_tape)), (m_ends, .inl (E.2.1 1, 15, .inl f_ends)), (m_letters, .inl (E.2.1 1, 50, .inl f_letters))] 0 0 := by
              intro fu
              induction fu with
              | zero => intro sm k1 hsm hk1 hmt hmf hmeas; exact absurd hmeas (Nat.not_lt_zero _)
              | succ fu ih_51 =>
                intro sm k1 hsm hk1 hmt hmf hmeas
                refine ww_iload_n C dX12_nameHere_51 1 rfl rfl ?_
                refine ww_if_eq (tgt := 106) C dX12_nameHere_52 (by decide) (fun c_8 => ?_) (fun c_8 => ?_)
                · have zc_8 : ((sm : Nat) : Int) = 0 := i_eq (nI_toInt (n := sm) (by omega)) rfl c_8
                  refine ww_iload_n C dX12_nameHere_106 1 rfl rfl ?_
                  refine ww_if_eq (tgt := 112) C dX12_nameHere_107 (by decide) (fun c_9 => ?_) (fun c_9 => ?_)
                  · have zc_9 : ((sm : Nat) : Int) = 0 := i_eq (nI_toInt (n := sm) (by omega)) rfl c_9
                    refine ww_iinc (j := 2) (v := (nI (n1 + 1))) (lv' := [(1, .int (nI (n1 + 1))), (3, .int (nI k1)), (2, .int (nI sm)), (0, .ref hm)]) C dX12_nameHere_112 rfl (nI_add n1 1) rfl rfl ?_
                    refine ww_goto (tgt := 2) C dX12_nameHere_115 (by decide) ?_
                    exact ww_lv [0, 3] rfl (ww_sub [0, 1, 2, 3] rfl rfl (ih_2 (n1 + 1) (by omega) (fun m hm => if q9 : m = n1 then (by rw [q9]; exact hmf (by omega)) else hno m (by omega)) (by omega)))
                  · have zc_9 : ((sm : Nat) : Int) ≠ 0 := i_ne (nI_toInt (n := sm) (by omega)) rfl c_9
                    omega
                · have zc_8 : ((sm : Nat) : Int) ≠ 0 := i_ne (nI_toInt (n := sm) (by omega)) rfl c_8
                  refine ww_iload_n C dX12_nameHere_55 0 rfl rfl ?_
                  refine ww_aload_n C dX12_nameHere_56 3 rfl rfl ?_
                  refine ww_get C fg_X12_166 0 rfl rfl dX12_nameHere_57 ?_
                  refine ww_aload_n C dX12_nameHere_60 3 rfl rfl ?_
                  refine ww_get C fg_X12_160 0 rfl rfl dX12_nameHere_61 ?_
                  obtain ⟨x_10, ex_10⟩ : ∃ z : Int32, (nI q_spot) - (nI q_place) = z := ⟨_, rfl⟩
                  have zx_10 : x_10.toInt = ((q_spot : Nat) : Int) - ((q_place : Nat) : Int) := by rw [← ex_10]; exact i_sub (nI_toInt (n := q_spot) (by omega)) (nI_toInt (n := q_place) (by omega)) (by omega) (by omega)
                  refine ww_isub (v := x_10) C dX12_nameHere_64 ex_10 ?_
                  refine ww_icmp_ge (tgt := 106) C dX12_nameHere_65 (by decide) (fun c_11 => ?_) (fun c_11 => ?_)
                  · have zc_11 : ((k1 : Nat) : Int) ≥ (((q_spot : Nat) : Int) - ((q_place : Nat) : Int)) := i_le zx_10 (nI_toInt (n := k1) (by omega)) c_11
                    refine ww_iload_n C dX12_nameHere_106 1 rfl rfl ?_
                    refine ww_if_eq (tgt := 112) C dX12_nameHere_107 (by decide) (fun c_12 => ?_) (fun c_12 => ?_)
                    · have zc_12 : ((sm : Nat) : Int) = 0 := i_eq (nI_toInt (n := sm) (by omega)) rfl c_12
                      refine ww_iinc (j := 2) (v := (nI (n1 + 1))) (lv' := [(1, .int (nI (n1 + 1))), (3, .int (nI k1)), (2, .int (nI sm)), (0, .ref hm)]) C dX12_nameHere_112 rfl (nI_add n1 1) rfl rfl ?_
                      refine ww_goto (tgt := 2) C dX12_nameHere_115 (by decide) ?_
                      exact ww_lv [0, 3] rfl (ww_sub [0, 1, 2, 3] rfl rfl (ih_2 (n1 + 1) (by omega) (fun m hm => if q9 : m = n1 then (by rw [q9]; exact hmf (by omega)) else hno m (by omega)) (by omega)))
                    · have zc_12 : ((sm : Nat) : Int) ≠ 0 := i_ne (nI_toInt (n := sm) (by omega)) rfl c_12
                      refine ww_iload_n C dX12_nameHere_110 2 rfl rfl ?_
                      exact ww_iret (u := [(hm, .inr (12, [.ref m_manys, .ref m_reals, .ref m_factsOf, .ref m_possible, .int (nI q_undos), .int (nI q_models), .ref m_tape, .int (nI q_taped), .int q_fault, .int q_wrong, .int q_wrongAt, .int (nI q_spot), .int (nI q_place), .int (nI q_token), .int q_value, .ref m_ends, .ref m_letters, .ref m_actOf, .ref m_whom, .ref m_actMany, .ref m_tokens, .ref m_afters, .ref m_afterOf, .int q_counted, .ref m_pile, .ref m_caseMany, .ref m_happen, .ref m_hasIf, .ref m_becomes, .ref m_goneOf, .ref m_heard, .ref m_pairs, .ref m_heaps, .int q_rounds, .int q_heapMany, .ref m_led, .ref m_newAt, .ref m_knowing, .ref m_firsts, .int (nI q_people), .ref m_secrets, .ref m_tried, .ref m_lanes, .ref m_lengths, .ref m_cells])), (m_tape, .inl (E.2.1 1, 160, .inl f_tape)), (m_ends, .inl (E.2.1 1, 15, .inl f_ends)), (m_letters, .inl (E.2.1 1, 50, .inl f_letters))]) C hT [0, 1, 2, 3] rfl rfl rfl rfl dX12_nameHere_111 (Or.inr ⟨_, rfl, rfl, (by omega), (by omega), (aT_of ⟨by omega, (by have h6 := (wd_ends n1 (by omega)).1; omega), (fun j hj => hmt (by omega) j (by have h6 := (wd_ends n1 (by omega)).1; omega))⟩ (by omega))⟩)
                  · have zc_11 : ((k1 : Nat) : Int) < (((q_spot : Nat) : Int) - ((q_place : Nat) : Int)) := i_nle zx_10 (nI_toInt (n := k1) (by omega)) c_11
                    refine ww_aload_n C dX12_nameHere_68 3 rfl rfl ?_
                    refine ww_aload_n C dX12_nameHere_69 3 rfl rfl ?_
                    refine ww_get C fg_X12_160 0 rfl rfl dX12_nameHere_70 ?_
                    refine ww_iload_n C dX12_nameHere_73 0 rfl rfl ?_
                    refine ww_iadd (v := (nI (q_place + k1))) C dX12_nameHere_74 (nI_add q_place k1) ?_
                    refine ww_ci (wr := [(m_ends, .inl (E.2.1 1, 15, .inl f_ends)), (m_letters, .inl (E.2.1 1, 50, .inl f_letters))]) (k' := 0) (n' := 0) C (run_V (As := [.int (nI (q_place + k1))]) (rest := []) C (r_byteAt X.2.1 E ro hm (q_place + k1) m_manys m_reals m_factsOf m_possible q_undos q_models m_tape q_taped q_fault q_wrong q_wrongAt (nI q_spot) (nI q_place) (nI q_token) q_value m_ends m_letters m_actOf m_whom m_actMany m_tokens m_afters m_afterOf q_counted m_pile m_caseMany m_happen m_hasIf m_becomes m_goneOf m_heard m_pairs m_heaps q_rounds q_heapMany m_led m_newAt m_knowing m_firsts q_people m_secrets m_tried m_lanes m_lengths m_cells f_tape hb_tape (by omega) (by omega)) mi_X12_byteAt wl_X12_169 rfl 0 12 rfl rfl rfl rfl rfl dX12_nameHere_75) (roK hro) [0, 1] [2, 3] rfl rfl rfl rfl (fun r_13 uz hw => ?_)
                    refine an1 hw ?_
                    clear hw
                    intro he_14 hw
                    have he_15 := hw
                    clear hw
                    have he_14 := he_14.symm
                    subst he_14
                    subst he_15
                    refine ww_eq (ws' := [(m_ends, .inl (E.2.1 1, 15, .inl f_ends)), (m_letters, .inl (E.2.1 1, 50, .inl f_letters)), (hm, .inr (12, [.ref m_manys, .ref m_reals, .ref m_factsOf, .ref m_possible, .int (nI q_undos), .int (nI q_models), .ref m_tape, .int (nI q_taped), .int q_fault, .int q_wrong, .int q_wrongAt, .int (nI q_spot), .int (nI q_place), .int (nI q_token), .int q_value, .ref m_ends, .ref m_letters, .ref m_actOf, .ref m_whom, .ref m_actMany, .ref m_tokens, .ref m_afters, .ref m_afterOf, .int q_counted, .ref m_pile, .ref m_caseMany, .ref m_happen, .ref m_hasIf, .ref m_becomes, .ref m_goneOf, .ref m_heard, .ref m_pairs, .ref m_heaps, .int q_rounds, .int q_heapMany, .ref m_led, .ref m_newAt, .ref m_knowing, .ref m_firsts, .int (nI q_people), .ref m_secrets, .ref m_tried, .ref m_lanes, .ref m_lengths, .ref m_cells])), (m_tape, .inl (E.2.1 1, 160, .inl f_tape))]) ?_ rfl rfl rfl
                    refine ww_aload_n C dX12_nameHere_78 3 rfl rfl ?_
                    refine ww_get C fg_X12_28 2 rfl rfl dX12_nameHere_79 ?_
                    refine ww_aload_n C dX12_nameHere_82 3 rfl rfl ?_
                    refine ww_get C fg_X12_25 2 rfl rfl dX12_nameHere_83 ?_
                    refine ww_iload_n C dX12_nameHere_86 2 rfl rfl ?_
                    have hbx_16 := ends_le n1 (by omega)
                    refine ww_iald (v := (nI (endsN n1))) C 0 rfl (vp_in_nI (by omega) (by omega)) (ldn (by omega) (hb_ends n1 (by omega))) dX12_nameHere_87 ?_
                    refine ww_iload_n C dX12_nameHere_88 0 rfl rfl ?_
                    refine ww_iadd (v := (nI ((endsN n1) + k1))) C dX12_nameHere_89 (nI_add (endsN n1) k1) ?_
                    obtain ⟨x_17, ex_17⟩ : ∃ z : Int32, f_letters ((endsN n1) + k1) = z := ⟨_, rfl⟩
                    refine ww_iald (v := x_17) C 1 rfl (vp_in_nI (by omega) (by omega)) (ldn (by omega) ex_17) dX12_nameHere_90 ?_
                    refine ww_icmp_ne (tgt := 98) C dX12_nameHere_91 (by decide) (fun c_18 => ?_) (fun c_18 => ?_)
                    · have zc_18 : (byt f_tape q_taped (q_place + k1)).toInt ≠ x_17.toInt := i_ne rfl rfl c_18
                      refine ww_iconst (v := 0) C dX12_nameHere_98 rfl ?_
                      refine ww_istore_n (lv' := [(2, .int 0), (3, .int (nI k1)), (1, .int (nI n1)), (0, .ref hm)]) C dX12_nameHere_99 rfl rfl rfl ?_
                      refine ww_iinc (j := 1) (v := (nI (k1 + 1))) (lv' := [(3, .int (nI (k1 + 1))), (2, .int 0), (1, .int (nI n1)), (0, .ref hm)]) C dX12_nameHere_100 rfl (nI_add k1 1) rfl rfl ?_
                      refine ww_goto (tgt := 51) C dX12_nameHere_103 (by decide) ?_
                      exact ww_lv [0, 1, 2, 3] rfl (ww_sub [2, 3, 0, 1] rfl rfl (ih_51 0 (k1 + 1) (by omega) (by omega) (fun h => absurd h (by decide)) (fun _ => nm_no hb_letters (by omega) (by have h9 := (wd_ends n1 (by omega)).1; omega) ex_17 (by assumption)) (by omega)))
                    · have zc_18 : (byt f_tape q_taped (q_place + k1)).toInt = x_17.toInt := i_eq rfl rfl c_18
                      refine ww_iconst (v := 1) C dX12_nameHere_94 rfl ?_
                      refine ww_goto (tgt := 99) C dX12_nameHere_95 (by decide) ?_
                      refine ww_istore_n (lv' := [(2, .int 1), (3, .int (nI k1)), (1, .int (nI n1)), (0, .ref hm)]) C dX12_nameHere_99 rfl rfl rfl ?_
                      refine ww_iinc (j := 1) (v := (nI (k1 + 1))) (lv' := [(3, .int (nI (k1 + 1))), (2, .int 1), (1, .int (nI n1)), (0, .ref hm)]) C dX12_nameHere_100 rfl (nI_add k1 1) rfl rfl ?_
                      refine ww_goto (tgt := 51) C dX12_nameHere_103 (by decide) ?_
                      exact ww_lv [0, 1, 2, 3] rfl (ww_sub [2, 3, 0, 1] rfl rfl (ih_51 1 (k1 + 1) (by omega) (by omega) (fun _ => nm_ext hb_letters (hmt (by omega)) (by omega) (by have h9 := (wd_ends n1 (by omega)).1; omega) ex_17 (by omega)) (fun h => absurd h (by decide)) (by omega)))
            exact ww_lv [0, 1, 2, 3] rfl (ww_sub [0, 1, 2, 3] rfl rfl (loop_51 _ 1 0 (by omega) (by omega) (fun _ j hj => absurd hj (by omega)) (fun h => absurd h (by decide)) (Nat.lt_succ_self _)))
  exact ww_lv [0, 1] rfl (ww_sub [0, 1, 2, 3] rfl rfl (loop_2 _ 0 (by omega) (fun m hm => absurd hm (by omega)) (Nat.lt_succ_self _)))
theorem pw3 : ∀ j, j < 4 → 2 ^ j ≤ 8 := by decide +kernel
theorem or_z (x : Int32) : x ||| 0 = x := by apply b_ext; intro i hi; rw [b_or, b_0, Bool.or_false]
theorem gr_no {c : Nat → Int} {e i a : Nat} (hi : i < e) (h : ¬ (97 ≤ c i ∧ c i ≤ 100)) : gr c (e - i) i a = 0 := by
  rw [show e - i = e - (i + 1) + 1 by omega]
  show (if 97 ≤ c i ∧ c i ≤ 100 ∧ a.testBit (c i - 97).toNat = false then gr c (e - (i + 1)) (i + 1) (a ||| 2 ^ (c i - 97).toNat) else 0) = _
  rw [if_neg (fun q => h ⟨q.1, q.2.1⟩)]
theorem dX12_groupHere_0 : decode cX12_groupHere 0 = .ok (.iconst 0, 1) := dl_3 (by decide +kernel)
theorem dX12_groupHere_1 : decode cX12_groupHere 1 = .ok (.istore_n 1, 1) := dl_60 (by decide +kernel)
theorem dX12_groupHere_2 : decode cX12_groupHere 2 = .ok (.aload_n 0, 1) := dl_42 (by decide +kernel)
theorem dX12_groupHere_3 : decode cX12_groupHere 3 = .ok (.getfield 175, 3) := dl_180 (by decide +kernel)
theorem dX12_groupHere_6 : decode cX12_groupHere 6 = .ok (.iconst 1, 1) := dl_4 (by decide +kernel)
theorem dX12_groupHere_7 : decode cX12_groupHere 7 = .ok (.if_icmp .ne 7, 3) := dl_160 (by decide +kernel)
theorem dX12_groupHere_14 : decode cX12_groupHere 14 = .ok (.iconst 0, 1) := dl_3 (by decide +kernel)
theorem dX12_groupHere_15 : decode cX12_groupHere 15 = .ok (.istore_n 2, 1) := dl_61 (by decide +kernel)
theorem dX12_groupHere_16 : decode cX12_groupHere 16 = .ok (.aload_n 0, 1) := dl_42 (by decide +kernel)
theorem dX12_groupHere_17 : decode cX12_groupHere 17 = .ok (.getfield 160, 3) := dl_180 (by decide +kernel)
theorem dX12_groupHere_20 : decode cX12_groupHere 20 = .ok (.istore_n 3, 1) := dl_62 (by decide +kernel)
theorem dX12_groupHere_21 : decode cX12_groupHere 21 = .ok (.iload_n 3, 1) := dl_29 (by decide +kernel)
theorem dX12_groupHere_22 : decode cX12_groupHere 22 = .ok (.aload_n 0, 1) := dl_42 (by decide +kernel)
theorem dX12_groupHere_23 : decode cX12_groupHere 23 = .ok (.getfield 166, 3) := dl_180 (by decide +kernel)
theorem dX12_groupHere_26 : decode cX12_groupHere 26 = .ok (.if_icmp .ge 70, 3) := dl_162 (by decide +kernel)
theorem dX12_groupHere_96 : decode cX12_groupHere 96 = .ok (.iload_n 2, 1) := dl_28 (by decide +kernel)
theorem dX12_groupHere_97 : decode cX12_groupHere 97 = .ok (.ifCond .eq 7, 3) := dl_153 (by decide +kernel)
theorem dX12_groupHere_104 : decode cX12_groupHere 104 = .ok (.iconst 0, 1) := dl_3 (by decide +kernel)
theorem dX12_groupHere_105 : decode cX12_groupHere 105 = .ok (.ireturn, 1) := dl_172 (by decide +kernel)
theorem dX12_groupHere_29 : decode cX12_groupHere 29 = .ok (.iload_n 2, 1) := dl_28 (by decide +kernel)
theorem dX12_groupHere_30 : decode cX12_groupHere 30 = .ok (.ifCond .eq 66, 3) := dl_153 (by decide +kernel)
theorem dX12_groupHere_10 : decode cX12_groupHere 10 = .ok (.iconst 1, 1) := dl_4 (by decide +kernel)
theorem dX12_groupHere_11 : decode cX12_groupHere 11 = .ok (.goto 4, 3) := dl_167 (by decide +kernel)
theorem dX12_groupHere_100 : decode cX12_groupHere 100 = .ok (.iload_n 1, 1) := dl_27 (by decide +kernel)
theorem dX12_groupHere_101 : decode cX12_groupHere 101 = .ok (.goto 4, 3) := dl_167 (by decide +kernel)
theorem dX12_groupHere_33 : decode cX12_groupHere 33 = .ok (.aload_n 0, 1) := dl_42 (by decide +kernel)
theorem dX12_groupHere_34 : decode cX12_groupHere 34 = .ok (.iload_n 3, 1) := dl_29 (by decide +kernel)
theorem dX12_groupHere_35 : decode cX12_groupHere 35 = .ok (.invokevirtual 169, 3) := dl_182 (by decide +kernel)
theorem dX12_groupHere_38 : decode cX12_groupHere 38 = .ok (.i2l, 1) := dl_133 (by decide +kernel)
theorem dX12_groupHere_39 : decode cX12_groupHere 39 = .ok (.ldc2_w 178, 3) := dl_20 (by decide +kernel)
theorem dX12_groupHere_42 : decode cX12_groupHere 42 = .ok (.ldc2_w 189, 3) := dl_20 (by decide +kernel)
theorem wv_X12_189 : Cond.constantLong RX12 189 100 ∈ TB := tbm (tq6 (List.mem_of_getElem? (i := 89) (by decide +kernel))) (by decide +kernel)
theorem dX12_groupHere_45 : decode cX12_groupHere 45 = .ok (.invokestatic 115, 3) := dl_184 (by decide +kernel)
theorem dX12_groupHere_48 : decode cX12_groupHere 48 = .ok (.ifCond .eq 16, 3) := dl_153 (by decide +kernel)
theorem dX12_groupHere_51 : decode cX12_groupHere 51 = .ok (.iconst 1, 1) := dl_4 (by decide +kernel)
theorem dX12_groupHere_52 : decode cX12_groupHere 52 = .ok (.aload_n 0, 1) := dl_42 (by decide +kernel)
theorem dX12_groupHere_53 : decode cX12_groupHere 53 = .ok (.iload_n 3, 1) := dl_29 (by decide +kernel)
theorem dX12_groupHere_54 : decode cX12_groupHere 54 = .ok (.invokevirtual 169, 3) := dl_182 (by decide +kernel)
theorem dX12_groupHere_57 : decode cX12_groupHere 57 = .ok (.bipush 97, 2) := dl_16 (by decide +kernel)
theorem dX12_groupHere_59 : decode cX12_groupHere 59 = .ok (.isub, 1) := dl_100 (by decide +kernel)
theorem dX12_groupHere_60 : decode cX12_groupHere 60 = .ok (.ishl, 1) := dl_120 (by decide +kernel)
theorem dX12_groupHere_61 : decode cX12_groupHere 61 = .ok (.goto 4, 3) := dl_167 (by decide +kernel)
theorem dX12_groupHere_65 : decode cX12_groupHere 65 = .ok (.istore 4, 2) := dl_54 (by decide +kernel)
theorem dX12_groupHere_67 : decode cX12_groupHere 67 = .ok (.iload 4, 2) := dl_21 (by decide +kernel)
theorem dX12_groupHere_69 : decode cX12_groupHere 69 = .ok (.ifCond .le 14, 3) := dl_158 (by decide +kernel)
theorem dX12_groupHere_72 : decode cX12_groupHere 72 = .ok (.iload_n 1, 1) := dl_27 (by decide +kernel)
theorem dX12_groupHere_73 : decode cX12_groupHere 73 = .ok (.iload 4, 2) := dl_21 (by decide +kernel)
theorem dX12_groupHere_75 : decode cX12_groupHere 75 = .ok (.iand, 1) := dl_126 (by decide +kernel)
theorem dX12_groupHere_76 : decode cX12_groupHere 76 = .ok (.ifCond .ne 7, 3) := dl_154 (by decide +kernel)
theorem dX12_groupHere_83 : decode cX12_groupHere 83 = .ok (.iconst 0, 1) := dl_3 (by decide +kernel)
theorem dX12_groupHere_84 : decode cX12_groupHere 84 = .ok (.istore_n 2, 1) := dl_61 (by decide +kernel)
theorem dX12_groupHere_85 : decode cX12_groupHere 85 = .ok (.iload_n 1, 1) := dl_27 (by decide +kernel)
theorem dX12_groupHere_86 : decode cX12_groupHere 86 = .ok (.iload 4, 2) := dl_21 (by decide +kernel)
theorem dX12_groupHere_88 : decode cX12_groupHere 88 = .ok (.ior, 1) := dl_128 (by decide +kernel)
theorem dX12_groupHere_89 : decode cX12_groupHere 89 = .ok (.istore_n 1, 1) := dl_60 (by decide +kernel)
theorem dX12_groupHere_90 : decode cX12_groupHere 90 = .ok (.iinc 3 1, 3) := dl_132 (by decide +kernel)
theorem dX12_groupHere_93 : decode cX12_groupHere 93 = .ok (.goto (-72), 3) := dl_167 (by decide +kernel)
theorem dX12_groupHere_79 : decode cX12_groupHere 79 = .ok (.iconst 1, 1) := dl_4 (by decide +kernel)
theorem dX12_groupHere_80 : decode cX12_groupHere 80 = .ok (.goto 4, 3) := dl_167 (by decide +kernel)
theorem dX12_groupHere_64 : decode cX12_groupHere 64 = .ok (.iconst 0, 1) := dl_3 (by decide +kernel)
set_option maxRecDepth 100000 in
set_option maxHeartbeats 4000000 in
theorem r_groupHere (l : Launch) (E : EV) (ro : va_W) (hm : Nat) (m_manys : Nat) (m_reals : Nat) (m_factsOf : Nat) (m_possible : Nat) (q_undos : Nat) (q_models : Nat) (m_tape : Nat) (q_taped : Nat) (q_fault : Int32) (q_wrong : Int32) (q_wrongAt : Int32) (q_spot : Nat) (q_place : Nat) (q_token : Nat) (q_value : Int32) (m_ends : Nat) (m_letters : Nat) (m_actOf : Nat) (m_whom : Nat) (m_actMany : Nat) (m_tokens : Nat) (m_afters : Nat) (m_afterOf : Nat) (q_counted : Int32) (m_pile : Nat) (m_caseMany : Nat) (m_happen : Nat) (m_hasIf : Nat) (m_becomes : Nat) (m_goneOf : Nat) (m_heard : Nat) (m_pairs : Nat) (m_heaps : Nat) (q_rounds : Int32) (q_heapMany : Int32) (m_led : Nat) (m_newAt : Nat) (m_knowing : Nat) (m_firsts : Nat) (q_people : Nat) (m_secrets : Nat) (m_tried : Nat) (m_lanes : Nat) (m_lengths : Nat) (m_cells : Nat) (f_tape : Nat → Int32) (hb_tape : NB 160 255 f_tape) (hq_taped : q_taped ≤ 160) (hq_spot : q_spot ≤ q_taped) (hq_place : q_place ≤ q_spot) (hq_token : q_token ≤ 2) : CT l yX12_groupHere (Cond.code yX12_groupHere cX12_groupHere 5 (some .int) :: TB) ({ frames := 1, cells := 0, slots := 0, locals := 25 }) E ro [.ref hm] [(hm, .inr (12, [.ref m_manys, .ref m_reals, .ref m_factsOf, .ref m_possible, .int (nI q_undos), .int (nI q_models), .ref m_tape, .int (nI q_taped), .int q_fault, .int q_wrong, .int q_wrongAt, .int (nI q_spot), .int (nI q_place), .int (nI q_token), .int q_value, .ref m_ends, .ref m_letters, .ref m_actOf, .ref m_whom, .ref m_actMany, .ref m_tokens, .ref m_afters, .ref m_afterOf, .int q_counted, .ref m_pile, .ref m_caseMany, .ref m_happen, .ref m_hasIf, .ref m_becomes, .ref m_goneOf, .ref m_heard, .ref m_pairs, .ref m_heaps, .int q_rounds, .int q_heapMany, .ref m_led, .ref m_newAt, .ref m_knowing, .ref m_firsts, .int (nI q_people), .ref m_secrets, .ref m_tried, .ref m_lanes, .ref m_lengths, .ref m_cells])), (m_tape, .inl (E.2.1 1, 160, .inl f_tape))] (Qi E (fun (rz : Int32) uz => (rz = (nI (gT (cz f_tape q_taped) q_place q_token q_spot)) ∧ uz = [(hm, .inr (12, [.ref m_manys, .ref m_reals, .ref m_factsOf, .ref m_possible, .int (nI q_undos), .int (nI q_models), .ref m_tape, .int (nI q_taped), .int q_fault, .int q_wrong, .int q_wrongAt, .int (nI q_spot), .int (nI q_place), .int (nI q_token), .int q_value, .ref m_ends, .ref m_letters, .ref m_actOf, .ref m_whom, .ref m_actMany, .ref m_tokens, .ref m_afters, .ref m_afterOf, .int q_counted, .ref m_pile, .ref m_caseMany, .ref m_happen, .ref m_hasIf, .ref m_becomes, .ref m_goneOf, .ref m_heard, .ref m_pairs, .ref m_heaps, .int q_rounds, .int q_heapMany, .ref m_led, .ref m_newAt, .ref m_knowing, .ref m_firsts, .int (nI q_people), .ref m_secrets, .ref m_tried, .ref m_lanes, .ref m_lengths, .ref m_cells])), (m_tape, .inl (E.2.1 1, 160, .inl f_tape))] ∧ (gT (cz f_tape q_taped) q_place q_token q_spot < 16) ∧ (gT (cz f_tape q_taped) q_place q_token q_spot ≠ 0 → q_token = 1)))) 0 0 := by
  refine ct_of rfl rfl ?_
  intro X C hT hin hro
  show WW X 5 E 0 [(0, .ref hm)] [] [(hm, .inr (12, [.ref m_manys, .ref m_reals, .ref m_factsOf, .ref m_possible, .int (nI q_undos), .int (nI q_models), .ref m_tape, .int (nI q_taped), .int q_fault, .int q_wrong, .int q_wrongAt, .int (nI q_spot), .int (nI q_place), .int (nI q_token), .int q_value, .ref m_ends, .ref m_letters, .ref m_actOf, .ref m_whom, .ref m_actMany, .ref m_tokens, .ref m_afters, .ref m_afterOf, .int q_counted, .ref m_pile, .ref m_caseMany, .ref m_happen, .ref m_hasIf, .ref m_becomes, .ref m_goneOf, .ref m_heard, .ref m_pairs, .ref m_heaps, .int q_rounds, .int q_heapMany, .ref m_led, .ref m_newAt, .ref m_knowing, .ref m_firsts, .int (nI q_people), .ref m_secrets, .ref m_tried, .ref m_lanes, .ref m_lengths, .ref m_cells])), (m_tape, .inl (E.2.1 1, 160, .inl f_tape))] 0 0
  refine ww_iconst (v := 0) C dX12_groupHere_0 rfl ?_
  refine ww_istore_n (lv' := [(1, .int 0), (0, .ref hm)]) C dX12_groupHere_1 rfl rfl rfl ?_
  refine ww_aload_n C dX12_groupHere_2 1 rfl rfl ?_
  refine ww_get C fg_X12_175 0 rfl rfl dX12_groupHere_3 ?_
  refine ww_iconst (v := 1) C dX12_groupHere_6 rfl ?_
  refine ww_icmp_ne (tgt := 14) C dX12_groupHere_7 (by decide) (fun c_1 => ?_) (fun c_1 => ?_)
  · have zc_1 : ((q_token : Nat) : Int) ≠ 1 := i_ne (nI_toInt (n := q_token) (by omega)) rfl c_1
    refine ww_iconst (v := 0) C dX12_groupHere_14 rfl ?_
    refine ww_istore_n (lv' := [(2, .int 0), (1, .int 0), (0, .ref hm)]) C dX12_groupHere_15 rfl rfl rfl ?_
    refine ww_aload_n C dX12_groupHere_16 2 rfl rfl ?_
    refine ww_get C fg_X12_160 0 rfl rfl dX12_groupHere_17 ?_
    refine ww_istore_n (lv' := [(3, .int (nI q_place)), (2, .int 0), (1, .int 0), (0, .ref hm)]) C dX12_groupHere_20 rfl rfl rfl ?_
    refine ww_iload_n C dX12_groupHere_21 0 rfl rfl ?_
    refine ww_aload_n C dX12_groupHere_22 3 rfl rfl ?_
    refine ww_get C fg_X12_166 0 rfl rfl dX12_groupHere_23 ?_
    refine ww_icmp_ge (tgt := 96) C dX12_groupHere_26 (by decide) (fun c_2 => ?_) (fun c_2 => ?_)
    · have zc_2 : ((q_place : Nat) : Int) ≥ ((q_spot : Nat) : Int) := i_le (nI_toInt (n := q_spot) (by omega)) (nI_toInt (n := q_place) (by omega)) c_2
      refine ww_iload_n C dX12_groupHere_96 1 rfl rfl ?_
      refine ww_if_eq_t (tgt := 104) C dX12_groupHere_97 (by decide) (rfl) ?_
      refine ww_iconst (v := 0) C dX12_groupHere_104 rfl ?_
      exact ww_iret (u := [(hm, .inr (12, [.ref m_manys, .ref m_reals, .ref m_factsOf, .ref m_possible, .int (nI q_undos), .int (nI q_models), .ref m_tape, .int (nI q_taped), .int q_fault, .int q_wrong, .int q_wrongAt, .int (nI q_spot), .int (nI q_place), .int (nI q_token), .int q_value, .ref m_ends, .ref m_letters, .ref m_actOf, .ref m_whom, .ref m_actMany, .ref m_tokens, .ref m_afters, .ref m_afterOf, .int q_counted, .ref m_pile, .ref m_caseMany, .ref m_happen, .ref m_hasIf, .ref m_becomes, .ref m_goneOf, .ref m_heard, .ref m_pairs, .ref m_heaps, .int q_rounds, .int q_heapMany, .ref m_led, .ref m_newAt, .ref m_knowing, .ref m_firsts, .int (nI q_people), .ref m_secrets, .ref m_tried, .ref m_lanes, .ref m_lengths, .ref m_cells])), (m_tape, .inl (E.2.1 1, 160, .inl f_tape))]) C hT [0, 1] rfl rfl rfl rfl dX12_groupHere_105 (⟨(by rw [gT_0 (by omega)]; rfl), rfl, (gT_lt _ _ _ _), (fun h => Classical.byContradiction (fun q => h (gT_0 q)))⟩)
    · have zc_2 : ((q_place : Nat) : Int) < ((q_spot : Nat) : Int) := i_nle (nI_toInt (n := q_spot) (by omega)) (nI_toInt (n := q_place) (by omega)) c_2
      refine ww_iload_n C dX12_groupHere_29 1 rfl rfl ?_
      refine ww_if_eq_t (tgt := 96) C dX12_groupHere_30 (by decide) (rfl) ?_
      refine ww_iload_n C dX12_groupHere_96 1 rfl rfl ?_
      refine ww_if_eq_t (tgt := 104) C dX12_groupHere_97 (by decide) (rfl) ?_
      refine ww_iconst (v := 0) C dX12_groupHere_104 rfl ?_
      exact ww_iret (u := [(hm, .inr (12, [.ref m_manys, .ref m_reals, .ref m_factsOf, .ref m_possible, .int (nI q_undos), .int (nI q_models), .ref m_tape, .int (nI q_taped), .int q_fault, .int q_wrong, .int q_wrongAt, .int (nI q_spot), .int (nI q_place), .int (nI q_token), .int q_value, .ref m_ends, .ref m_letters, .ref m_actOf, .ref m_whom, .ref m_actMany, .ref m_tokens, .ref m_afters, .ref m_afterOf, .int q_counted, .ref m_pile, .ref m_caseMany, .ref m_happen, .ref m_hasIf, .ref m_becomes, .ref m_goneOf, .ref m_heard, .ref m_pairs, .ref m_heaps, .int q_rounds, .int q_heapMany, .ref m_led, .ref m_newAt, .ref m_knowing, .ref m_firsts, .int (nI q_people), .ref m_secrets, .ref m_tried, .ref m_lanes, .ref m_lengths, .ref m_cells])), (m_tape, .inl (E.2.1 1, 160, .inl f_tape))]) C hT [0, 1] rfl rfl rfl rfl dX12_groupHere_105 (⟨(by rw [gT_0 (by omega)]; rfl), rfl, (gT_lt _ _ _ _), (fun h => Classical.byContradiction (fun q => h (gT_0 q)))⟩)
  · have zc_1 : ((q_token : Nat) : Int) = 1 := i_eq (nI_toInt (n := q_token) (by omega)) rfl c_1
    refine ww_iconst (v := 1) C dX12_groupHere_10 rfl ?_
    refine ww_goto (tgt := 15) C dX12_groupHere_11 (by decide) ?_
    refine ww_istore_n (lv' := [(2, .int 1), (1, .int 0), (0, .ref hm)]) C dX12_groupHere_15 rfl rfl rfl ?_
    refine ww_aload_n C dX12_groupHere_16 2 rfl rfl ?_
    refine ww_get C fg_X12_160 0 rfl rfl dX12_groupHere_17 ?_
    refine ww_istore_n (lv' := [(3, .int (nI q_place)), (2, .int 1), (1, .int 0), (0, .ref hm)]) C dX12_groupHere_20 rfl rfl rfl ?_
    have loop_21 : ∀ (fu : Nat) (gd : Nat) (k1 : Nat) (s1 : Nat), (gd ≤ 1) → (q_place ≤ k1) → (k1 ≤ q_spot) → (s1 < 16) → (gd = 1 → gr (cz f_tape q_taped) (q_spot - k1) k1 s1 = gT (cz f_tape q_taped) q_place q_token q_spot) → (gd = 0 → gT (cz f_tape q_taped) q_place q_token q_spot = 0) → q_spot - k1 < fu → WW X 5 E 21 [(3, .int (nI k1)), (2, .int (nI gd)), (1, .int (nI s1)), (0, .ref hm)] [] [(hm, .inr (12, [.ref m_manys, .ref m_reals, .ref m_factsOf, .ref m_possible, .int (nI q_undos), .int (nI q_models), .ref m_tape, .int (nI q_taped), .int q_fault, .int q_wrong, .int q_wrongAt, .int (nI q_spot), .int (nI q_place), .int (nI q_token), .int q_value, .ref m_ends, .ref m_letters, .ref m_actOf, .ref m_whom, .ref m_actMany, .ref m_tokens, .ref m_afters, .ref m_afterOf, .int q_counted, .ref m_pile, .ref m_caseMany, .ref m_happen, .ref m_hasIf, .ref m_becomes, .ref m_goneOf, .ref m_heard, .ref m_pairs, .ref m_heaps, .int q_rounds, .int q_heapMany, .ref m_led, .ref m_newAt, .ref m_knowing, .ref m_firsts, .int (nI q_people), .ref m_secrets, .ref m_tried, .ref m_lanes, .ref m_lengths, .ref m_cells])), (m_tape, .inl (E.2.1 1, 160, .inl f_tape))] 0 0 := by
      intro fu
      induction fu with
      | zero => intro gd k1 s1 hgd hk0 hk1 ha hg h0 hmeas; exact absurd hmeas (Nat.not_lt_zero _)
      | succ fu ih_21 =>
        intro gd k1 s1 hgd hk0 hk1 ha hg h0 hmeas
        refine ww_iload_n C dX12_groupHere_21 0 rfl rfl ?_
        refine ww_aload_n C dX12_groupHere_22 3 rfl rfl ?_
        refine ww_get C fg_X12_166 0 rfl rfl dX12_groupHere_23 ?_
        refine ww_icmp_ge (tgt := 96) C dX12_groupHere_26 (by decide) (fun c_3 => ?_) (fun c_3 => ?_)
        · have zc_3 : ((k1 : Nat) : Int) ≥ ((q_spot : Nat) : Int) := i_le (nI_toInt (n := q_spot) (by omega)) (nI_toInt (n := k1) (by omega)) c_3
          refine ww_iload_n C dX12_groupHere_96 1 rfl rfl ?_
          refine ww_if_eq (tgt := 104) C dX12_groupHere_97 (by decide) (fun c_4 => ?_) (fun c_4 => ?_)
          · have zc_4 : ((gd : Nat) : Int) = 0 := i_eq (nI_toInt (n := gd) (by omega)) rfl c_4
            refine ww_iconst (v := 0) C dX12_groupHere_104 rfl ?_
            exact ww_iret (u := [(hm, .inr (12, [.ref m_manys, .ref m_reals, .ref m_factsOf, .ref m_possible, .int (nI q_undos), .int (nI q_models), .ref m_tape, .int (nI q_taped), .int q_fault, .int q_wrong, .int q_wrongAt, .int (nI q_spot), .int (nI q_place), .int (nI q_token), .int q_value, .ref m_ends, .ref m_letters, .ref m_actOf, .ref m_whom, .ref m_actMany, .ref m_tokens, .ref m_afters, .ref m_afterOf, .int q_counted, .ref m_pile, .ref m_caseMany, .ref m_happen, .ref m_hasIf, .ref m_becomes, .ref m_goneOf, .ref m_heard, .ref m_pairs, .ref m_heaps, .int q_rounds, .int q_heapMany, .ref m_led, .ref m_newAt, .ref m_knowing, .ref m_firsts, .int (nI q_people), .ref m_secrets, .ref m_tried, .ref m_lanes, .ref m_lengths, .ref m_cells])), (m_tape, .inl (E.2.1 1, 160, .inl f_tape))]) C hT [0, 1] rfl rfl rfl rfl dX12_groupHere_105 (⟨(by rw [h0 (by omega)]; rfl), rfl, (gT_lt _ _ _ _), (fun h => Classical.byContradiction (fun q => h (gT_0 q)))⟩)
          · have zc_4 : ((gd : Nat) : Int) ≠ 0 := i_ne (nI_toInt (n := gd) (by omega)) rfl c_4
            refine ww_iload_n C dX12_groupHere_100 2 rfl rfl ?_
            refine ww_goto (tgt := 105) C dX12_groupHere_101 (by decide) ?_
            exact ww_iret (u := [(hm, .inr (12, [.ref m_manys, .ref m_reals, .ref m_factsOf, .ref m_possible, .int (nI q_undos), .int (nI q_models), .ref m_tape, .int (nI q_taped), .int q_fault, .int q_wrong, .int q_wrongAt, .int (nI q_spot), .int (nI q_place), .int (nI q_token), .int q_value, .ref m_ends, .ref m_letters, .ref m_actOf, .ref m_whom, .ref m_actMany, .ref m_tokens, .ref m_afters, .ref m_afterOf, .int q_counted, .ref m_pile, .ref m_caseMany, .ref m_happen, .ref m_hasIf, .ref m_becomes, .ref m_goneOf, .ref m_heard, .ref m_pairs, .ref m_heaps, .int q_rounds, .int q_heapMany, .ref m_led, .ref m_newAt, .ref m_knowing, .ref m_firsts, .int (nI q_people), .ref m_secrets, .ref m_tried, .ref m_lanes, .ref m_lengths, .ref m_cells])), (m_tape, .inl (E.2.1 1, 160, .inl f_tape))]) C hT [0, 1] rfl rfl rfl rfl dX12_groupHere_105 (⟨(by rw [← hg (by omega), gr_end (by omega)]), rfl, (gT_lt _ _ _ _), (fun h => Classical.byContradiction (fun q => h (gT_0 q)))⟩)
        · have zc_3 : ((k1 : Nat) : Int) < ((q_spot : Nat) : Int) := i_nle (nI_toInt (n := q_spot) (by omega)) (nI_toInt (n := k1) (by omega)) c_3
          refine ww_iload_n C dX12_groupHere_29 1 rfl rfl ?_
          refine ww_if_eq (tgt := 96) C dX12_groupHere_30 (by decide) (fun c_5 => ?_) (fun c_5 => ?_)
          · have zc_5 : ((gd : Nat) : Int) = 0 := i_eq (nI_toInt (n := gd) (by omega)) rfl c_5
            refine ww_iload_n C dX12_groupHere_96 1 rfl rfl ?_
            refine ww_if_eq (tgt := 104) C dX12_groupHere_97 (by decide) (fun c_6 => ?_) (fun c_6 => ?_)
            · have zc_6 : ((gd : Nat) : Int) = 0 := i_eq (nI_toInt (n := gd) (by omega)) rfl c_6
              refine ww_iconst (v := 0) C dX12_groupHere_104 rfl ?_
              exact ww_iret (u := [(hm, .inr (12, [.ref m_manys, .ref m_reals, .ref m_factsOf, .ref m_possible, .int (nI q_undos), .int (nI q_models), .ref m_tape, .int (nI q_taped), .int q_fault, .int q_wrong, .int q_wrongAt, .int (nI q_spot), .int (nI q_place), .int (nI q_token), .int q_value, .ref m_ends, .ref m_letters, .ref m_actOf, .ref m_whom, .ref m_actMany, .ref m_tokens, .ref m_afters, .ref m_afterOf, .int q_counted, .ref m_pile, .ref m_caseMany, .ref m_happen, .ref m_hasIf, .ref m_becomes, .ref m_goneOf, .ref m_heard, .ref m_pairs, .ref m_heaps, .int q_rounds, .int q_heapMany, .ref m_led, .ref m_newAt, .ref m_knowing, .ref m_firsts, .int (nI q_people), .ref m_secrets, .ref m_tried, .ref m_lanes, .ref m_lengths, .ref m_cells])), (m_tape, .inl (E.2.1 1, 160, .inl f_tape))]) C hT [0, 1] rfl rfl rfl rfl dX12_groupHere_105 (⟨(by rw [h0 (by omega)]; rfl), rfl, (gT_lt _ _ _ _), (fun h => Classical.byContradiction (fun q => h (gT_0 q)))⟩)
            · have zc_6 : ((gd : Nat) : Int) ≠ 0 := i_ne (nI_toInt (n := gd) (by omega)) rfl c_6
              omega
          · have zc_5 : ((gd : Nat) : Int) ≠ 0 := i_ne (nI_toInt (n := gd) (by omega)) rfl c_5
            refine ww_aload_n C dX12_groupHere_33 3 rfl rfl ?_
            refine ww_iload_n C dX12_groupHere_34 0 rfl rfl ?_
            refine ww_ci (wr := []) (k' := 0) (n' := 0) C (run_V (As := [.int (nI k1)]) (rest := []) C (r_byteAt X.2.1 E ro hm k1 m_manys m_reals m_factsOf m_possible q_undos q_models m_tape q_taped q_fault q_wrong q_wrongAt (nI q_spot) (nI q_place) (nI q_token) q_value m_ends m_letters m_actOf m_whom m_actMany m_tokens m_afters m_afterOf q_counted m_pile m_caseMany m_happen m_hasIf m_becomes m_goneOf m_heard m_pairs m_heaps q_rounds q_heapMany m_led m_newAt m_knowing m_firsts q_people m_secrets m_tried m_lanes m_lengths m_cells f_tape hb_tape (by omega) (by omega)) mi_X12_byteAt wl_X12_169 rfl 0 12 rfl rfl rfl rfl rfl dX12_groupHere_35) (roK hro) [0, 1] [] rfl rfl rfl rfl (fun r_7 uz hw => ?_)
            refine an1 hw ?_
            clear hw
            intro he_8 hw
            have he_9 := hw
            clear hw
            have he_8 := he_8.symm
            subst he_8
            subst he_9
            refine ww_eq (ws' := [(hm, .inr (12, [.ref m_manys, .ref m_reals, .ref m_factsOf, .ref m_possible, .int (nI q_undos), .int (nI q_models), .ref m_tape, .int (nI q_taped), .int q_fault, .int q_wrong, .int q_wrongAt, .int (nI q_spot), .int (nI q_place), .int (nI q_token), .int q_value, .ref m_ends, .ref m_letters, .ref m_actOf, .ref m_whom, .ref m_actMany, .ref m_tokens, .ref m_afters, .ref m_afterOf, .int q_counted, .ref m_pile, .ref m_caseMany, .ref m_happen, .ref m_hasIf, .ref m_becomes, .ref m_goneOf, .ref m_heard, .ref m_pairs, .ref m_heaps, .int q_rounds, .int q_heapMany, .ref m_led, .ref m_newAt, .ref m_knowing, .ref m_firsts, .int (nI q_people), .ref m_secrets, .ref m_tried, .ref m_lanes, .ref m_lengths, .ref m_cells])), (m_tape, .inl (E.2.1 1, 160, .inl f_tape))]) ?_ rfl rfl rfl
            refine ww_i2l (v := (byt f_tape q_taped k1).toInt64) C dX12_groupHere_38 rfl ?_
            refine ww_ldc2 C wv_X12_178 dX12_groupHere_39 ?_
            refine ww_ldc2 C wv_X12_189 dX12_groupHere_42 ?_
            refine ww_ci (wr := [(hm, .inr (12, [.ref m_manys, .ref m_reals, .ref m_factsOf, .ref m_possible, .int (nI q_undos), .int (nI q_models), .ref m_tape, .int (nI q_taped), .int q_fault, .int q_wrong, .int q_wrongAt, .int (nI q_spot), .int (nI q_place), .int (nI q_token), .int q_value, .ref m_ends, .ref m_letters, .ref m_actOf, .ref m_whom, .ref m_actMany, .ref m_tokens, .ref m_afters, .ref m_afterOf, .int q_counted, .ref m_pile, .ref m_caseMany, .ref m_happen, .ref m_hasIf, .ref m_becomes, .ref m_goneOf, .ref m_heard, .ref m_pairs, .ref m_heaps, .int q_rounds, .int q_heapMany, .ref m_led, .ref m_newAt, .ref m_knowing, .ref m_firsts, .int (nI q_people), .ref m_secrets, .ref m_tried, .ref m_lanes, .ref m_lengths, .ref m_cells])), (m_tape, .inl (E.2.1 1, 160, .inl f_tape))]) (k' := 0) (n' := 0) C (run_S (As := [.long ((byt f_tape q_taped k1).toInt64), .long 97, .long 100]) (rest := []) C (r_in X.2.1 E ro ((byt f_tape q_taped k1).toInt64) 97 100 ((byt f_tape q_taped k1).toInt) 97 100 (Int32.toInt_toInt64 _) rfl rfl) ms_X12_in wl_X12_115 rfl rfl rfl rfl dX12_groupHere_45) (roK hro) [] [0, 1] rfl rfl rfl rfl (fun r_10 uz hw => ?_)
            rcases hw with hw | hw
            · refine an3 hw ?_
              clear hw
              intro he_13 he_14 h_11 hw
              have h_12 := hw
              clear hw
              have he_13 := he_13.symm
              subst he_13
              subst he_14
              refine ww_eq (ws' := [(hm, .inr (12, [.ref m_manys, .ref m_reals, .ref m_factsOf, .ref m_possible, .int (nI q_undos), .int (nI q_models), .ref m_tape, .int (nI q_taped), .int q_fault, .int q_wrong, .int q_wrongAt, .int (nI q_spot), .int (nI q_place), .int (nI q_token), .int q_value, .ref m_ends, .ref m_letters, .ref m_actOf, .ref m_whom, .ref m_actMany, .ref m_tokens, .ref m_afters, .ref m_afterOf, .int q_counted, .ref m_pile, .ref m_caseMany, .ref m_happen, .ref m_hasIf, .ref m_becomes, .ref m_goneOf, .ref m_heard, .ref m_pairs, .ref m_heaps, .int q_rounds, .int q_heapMany, .ref m_led, .ref m_newAt, .ref m_knowing, .ref m_firsts, .int (nI q_people), .ref m_secrets, .ref m_tried, .ref m_lanes, .ref m_lengths, .ref m_cells])), (m_tape, .inl (E.2.1 1, 160, .inl f_tape))]) ?_ rfl rfl rfl
              refine ww_if_eq_f (tgt := 64) C dX12_groupHere_48 (by decide) (by decide) ?_
              refine ww_iconst (v := 1) C dX12_groupHere_51 rfl ?_
              refine ww_aload_n C dX12_groupHere_52 3 rfl rfl ?_
              refine ww_iload_n C dX12_groupHere_53 0 rfl rfl ?_
              refine ww_ci (wr := []) (k' := 0) (n' := 0) C (run_V (As := [.int (nI k1)]) (rest := [.int 1]) C (r_byteAt X.2.1 E ro hm k1 m_manys m_reals m_factsOf m_possible q_undos q_models m_tape q_taped q_fault q_wrong q_wrongAt (nI q_spot) (nI q_place) (nI q_token) q_value m_ends m_letters m_actOf m_whom m_actMany m_tokens m_afters m_afterOf q_counted m_pile m_caseMany m_happen m_hasIf m_becomes m_goneOf m_heard m_pairs m_heaps q_rounds q_heapMany m_led m_newAt m_knowing m_firsts q_people m_secrets m_tried m_lanes m_lengths m_cells f_tape hb_tape (by omega) (by omega)) mi_X12_byteAt wl_X12_169 rfl 0 12 rfl rfl rfl rfl rfl dX12_groupHere_54) (roK hro) [0, 1] [] rfl rfl rfl rfl (fun r_18 uz hw => ?_)
              refine an1 hw ?_
              clear hw
              intro he_19 hw
              have he_20 := hw
              clear hw
              have he_19 := he_19.symm
              subst he_19
              subst he_20
              refine ww_eq (ws' := [(hm, .inr (12, [.ref m_manys, .ref m_reals, .ref m_factsOf, .ref m_possible, .int (nI q_undos), .int (nI q_models), .ref m_tape, .int (nI q_taped), .int q_fault, .int q_wrong, .int q_wrongAt, .int (nI q_spot), .int (nI q_place), .int (nI q_token), .int q_value, .ref m_ends, .ref m_letters, .ref m_actOf, .ref m_whom, .ref m_actMany, .ref m_tokens, .ref m_afters, .ref m_afterOf, .int q_counted, .ref m_pile, .ref m_caseMany, .ref m_happen, .ref m_hasIf, .ref m_becomes, .ref m_goneOf, .ref m_heard, .ref m_pairs, .ref m_heaps, .int q_rounds, .int q_heapMany, .ref m_led, .ref m_newAt, .ref m_knowing, .ref m_firsts, .int (nI q_people), .ref m_secrets, .ref m_tried, .ref m_lanes, .ref m_lengths, .ref m_cells])), (m_tape, .inl (E.2.1 1, 160, .inl f_tape))]) ?_ rfl rfl rfl
              refine ww_bipush (v := 97) C dX12_groupHere_57 rfl ?_
              obtain ⟨j_21, ej_21, hj_21, hzj_21⟩ := letk (x := (byt f_tape q_taped k1)) (by omega) (by omega)
              refine ww_isub (v := (nI j_21)) C dX12_groupHere_59 ej_21 ?_
              have hpw := Nat.two_pow_pos j_21
              have hpl := pw3 j_21 (by omega)
              refine ww_ishl (v := (nI (2 ^ j_21))) C dX12_groupHere_60 (shl_1 (by omega)) ?_
              refine ww_goto (tgt := 65) C dX12_groupHere_61 (by decide) ?_
              refine ww_istore (lv' := [(4, .int (nI (2 ^ j_21))), (3, .int (nI k1)), (2, .int (nI gd)), (1, .int (nI s1)), (0, .ref hm)]) C dX12_groupHere_65 rfl rfl ?_
              refine ww_iload C dX12_groupHere_67 0 rfl ?_
              refine ww_if_le (tgt := 83) C dX12_groupHere_69 (by decide) (fun c_22 => ?_) (fun c_22 => ?_)
              · have zc_22 : ((2 ^ j_21 : Nat) : Int) ≤ 0 := i_le (nI_toInt (n := 2 ^ j_21) (by omega)) rfl c_22
                omega
              · have zc_22 : ((2 ^ j_21 : Nat) : Int) > 0 := i_nle (nI_toInt (n := 2 ^ j_21) (by omega)) rfl c_22
                refine ww_iload_n C dX12_groupHere_72 3 rfl rfl ?_
                refine ww_iload C dX12_groupHere_73 0 rfl ?_
                obtain ⟨x_23, ex_23⟩ : ∃ z : Int32, (nI s1) &&& (nI (2 ^ j_21)) = z := ⟨_, rfl⟩
                have h4_x_23 := and4 _ ha j_21 (by omega)
                rw [ex_23] at h4_x_23
                refine ww_iand (v := x_23) C dX12_groupHere_75 ex_23 ?_
                refine ww_if_ne (tgt := 83) C dX12_groupHere_76 (by decide) (fun c_24 => ?_) (fun c_24 => ?_)
                · have zc_24 : x_23.toInt ≠ 0 := i_ne rfl rfl c_24
                  refine ww_iconst (v := 0) C dX12_groupHere_83 rfl ?_
                  refine ww_istore_n (lv' := [(2, .int 0), (4, .int (nI (2 ^ j_21))), (3, .int (nI k1)), (1, .int (nI s1)), (0, .ref hm)]) C dX12_groupHere_84 rfl rfl rfl ?_
                  refine ww_iload_n C dX12_groupHere_85 3 rfl rfl ?_
                  refine ww_iload C dX12_groupHere_86 1 rfl ?_
                  refine ww_ior (v := (nI (s1 ||| (2 ^ j_21)))) C dX12_groupHere_88 (or4 _ ha _ (by omega)) ?_
                  refine ww_istore_n (lv' := [(1, .int (nI (s1 ||| (2 ^ j_21)))), (2, .int 0), (4, .int (nI (2 ^ j_21))), (3, .int (nI k1)), (0, .ref hm)]) C dX12_groupHere_89 rfl rfl rfl ?_
                  refine ww_iinc (j := 3) (v := (nI (k1 + 1))) (lv' := [(3, .int (nI (k1 + 1))), (1, .int (nI (s1 ||| (2 ^ j_21)))), (2, .int 0), (4, .int (nI (2 ^ j_21))), (0, .ref hm)]) C dX12_groupHere_90 rfl (nI_add k1 1) rfl rfl ?_
                  refine ww_goto (tgt := 21) C dX12_groupHere_93 (by decide) ?_
                  exact ww_lv [0, 2, 1, 4] rfl (ww_sub [0, 1] rfl rfl (ih_21 0 (k1 + 1) (s1 ||| (2 ^ j_21)) (by omega) (by omega) (by omega) (or4l _ ha _ (by omega)) (fun h => absurd h (by decide)) (fun _ => by have h9 := (cy_eq (lo := 97) (hi := 100) (by decide) (by decide) ⟨by omega, by omega⟩); rw [← hg (by omega)]; exact gr_bad (j := j_21) (by omega) (by omega) (Or.inr (by cases h8 : Nat.testBit s1 j_21 with | true => rfl | false => exact absurd (h4_x_23.mpr h8) (by omega)))) (by omega)))
                · have zc_24 : x_23.toInt = 0 := i_eq rfl rfl c_24
                  refine ww_iconst (v := 1) C dX12_groupHere_79 rfl ?_
                  refine ww_goto (tgt := 84) C dX12_groupHere_80 (by decide) ?_
                  refine ww_istore_n (lv' := [(2, .int 1), (4, .int (nI (2 ^ j_21))), (3, .int (nI k1)), (1, .int (nI s1)), (0, .ref hm)]) C dX12_groupHere_84 rfl rfl rfl ?_
                  refine ww_iload_n C dX12_groupHere_85 3 rfl rfl ?_
                  refine ww_iload C dX12_groupHere_86 1 rfl ?_
                  refine ww_ior (v := (nI (s1 ||| (2 ^ j_21)))) C dX12_groupHere_88 (or4 _ ha _ (by omega)) ?_
                  refine ww_istore_n (lv' := [(1, .int (nI (s1 ||| (2 ^ j_21)))), (2, .int 1), (4, .int (nI (2 ^ j_21))), (3, .int (nI k1)), (0, .ref hm)]) C dX12_groupHere_89 rfl rfl rfl ?_
                  refine ww_iinc (j := 3) (v := (nI (k1 + 1))) (lv' := [(3, .int (nI (k1 + 1))), (1, .int (nI (s1 ||| (2 ^ j_21)))), (2, .int 1), (4, .int (nI (2 ^ j_21))), (0, .ref hm)]) C dX12_groupHere_90 rfl (nI_add k1 1) rfl rfl ?_
                  refine ww_goto (tgt := 21) C dX12_groupHere_93 (by decide) ?_
                  exact ww_lv [0, 2, 1, 4] rfl (ww_sub [0, 1] rfl rfl (ih_21 1 (k1 + 1) (s1 ||| (2 ^ j_21)) (by omega) (by omega) (by omega) (or4l _ ha _ (by omega)) (fun _ => by have h9 := (cy_eq (lo := 97) (hi := 100) (by decide) (by decide) ⟨by omega, by omega⟩); rw [← gr_go (j := j_21) (by omega) (by omega) (by omega) (h4_x_23.mp (by omega))]; exact hg (by omega)) (fun h => absurd h (by decide)) (by omega)))
            · refine an2 hw ?_
              clear hw
              intro he_16 he_17 hw
              have h_15 := hw
              clear hw
              have he_16 := he_16.symm
              subst he_16
              subst he_17
              refine ww_eq (ws' := [(hm, .inr (12, [.ref m_manys, .ref m_reals, .ref m_factsOf, .ref m_possible, .int (nI q_undos), .int (nI q_models), .ref m_tape, .int (nI q_taped), .int q_fault, .int q_wrong, .int q_wrongAt, .int (nI q_spot), .int (nI q_place), .int (nI q_token), .int q_value, .ref m_ends, .ref m_letters, .ref m_actOf, .ref m_whom, .ref m_actMany, .ref m_tokens, .ref m_afters, .ref m_afterOf, .int q_counted, .ref m_pile, .ref m_caseMany, .ref m_happen, .ref m_hasIf, .ref m_becomes, .ref m_goneOf, .ref m_heard, .ref m_pairs, .ref m_heaps, .int q_rounds, .int q_heapMany, .ref m_led, .ref m_newAt, .ref m_knowing, .ref m_firsts, .int (nI q_people), .ref m_secrets, .ref m_tried, .ref m_lanes, .ref m_lengths, .ref m_cells])), (m_tape, .inl (E.2.1 1, 160, .inl f_tape))]) ?_ rfl rfl rfl
              refine ww_if_eq_t (tgt := 64) C dX12_groupHere_48 (by decide) (rfl) ?_
              refine ww_iconst (v := 0) C dX12_groupHere_64 rfl ?_
              refine ww_istore (lv' := [(4, .int 0), (3, .int (nI k1)), (2, .int (nI gd)), (1, .int (nI s1)), (0, .ref hm)]) C dX12_groupHere_65 rfl rfl ?_
              refine ww_iload C dX12_groupHere_67 0 rfl ?_
              refine ww_if_le_t (tgt := 83) C dX12_groupHere_69 (by decide) (by decide) ?_
              refine ww_iconst (v := 0) C dX12_groupHere_83 rfl ?_
              refine ww_istore_n (lv' := [(2, .int 0), (4, .int 0), (3, .int (nI k1)), (1, .int (nI s1)), (0, .ref hm)]) C dX12_groupHere_84 rfl rfl rfl ?_
              refine ww_iload_n C dX12_groupHere_85 3 rfl rfl ?_
              refine ww_iload C dX12_groupHere_86 1 rfl ?_
              refine ww_ior (v := (nI s1)) C dX12_groupHere_88 (or_z _) ?_
              refine ww_istore_n (lv' := [(1, .int (nI s1)), (2, .int 0), (4, .int 0), (3, .int (nI k1)), (0, .ref hm)]) C dX12_groupHere_89 rfl rfl rfl ?_
              refine ww_iinc (j := 3) (v := (nI (k1 + 1))) (lv' := [(3, .int (nI (k1 + 1))), (1, .int (nI s1)), (2, .int 0), (4, .int 0), (0, .ref hm)]) C dX12_groupHere_90 rfl (nI_add k1 1) rfl rfl ?_
              refine ww_goto (tgt := 21) C dX12_groupHere_93 (by decide) ?_
              exact ww_lv [0, 2, 1, 4] rfl (ww_sub [0, 1] rfl rfl (ih_21 0 (k1 + 1) s1 (by omega) (by omega) (by omega) ha (fun h => absurd h (by decide)) (fun _ => by rw [← hg (by omega)]; exact gr_no (by omega) (fun h9 => by have h8 := (byt_in (by decide) (by decide)).mpr h9; omega)) (by omega)))
    exact ww_lv [0, 1, 2, 3] rfl (ww_sub [0, 1] rfl rfl (loop_21 _ 1 q_place 0 (by omega) (by omega) (by omega) (by omega) (fun _ => (gT_1 (by omega)).symm) (fun h => absurd h (by decide)) (Nat.lt_succ_self _)))
theorem dX12_counts_0 : decode cX12_counts 0 = .ok (.aload_n 0, 1) := dl_42 (by decide +kernel)
theorem dX12_counts_1 : decode cX12_counts 1 = .ok (.getfield 157, 3) := dl_180 (by decide +kernel)
theorem dX12_counts_4 : decode cX12_counts 4 = .ok (.ifCond .ne 24, 3) := dl_154 (by decide +kernel)
theorem dX12_counts_28 : decode cX12_counts 28 = .ok (.aload_n 0, 1) := dl_42 (by decide +kernel)
theorem dX12_counts_29 : decode cX12_counts 29 = .ok (.dup, 1) := dl_89 (by decide +kernel)
theorem dX12_counts_30 : decode cX12_counts 30 = .ok (.getfield 191, 3) := dl_180 (by decide +kernel)
theorem wf_X12_191 : Cond.fieldLink RX12 191 RX12 "counted" "I" ∈ TB := tbm (tq5 (List.mem_of_getElem? (i := 101) (by decide +kernel))) (by decide +kernel)
theorem fg_X12_191 : FG RX12 191 12 23 := ⟨RX12, TX12, 45, uw_X12, wf_X12_191, rfl, by decide, rfl⟩
theorem dX12_counts_33 : decode cX12_counts 33 = .ok (.iconst 1, 1) := dl_4 (by decide +kernel)
theorem dX12_counts_34 : decode cX12_counts 34 = .ok (.iadd, 1) := dl_96 (by decide +kernel)
theorem dX12_counts_35 : decode cX12_counts 35 = .ok (.putfield 191, 3) := dl_181 (by decide +kernel)
theorem fp_X12_191 : FP RX12 191 12 23 .int false := ⟨RX12, TX12, 45, tyX12, uw_X12, wf_X12_191, rfl, by decide, rfl, tyX12_ok, nmX12, rfl, by decide +kernel⟩
theorem dX12_counts_38 : decode cX12_counts 38 = .ok (.return_, 1) := dl_177 (by decide +kernel)
theorem dX12_counts_7 : decode cX12_counts 7 = .ok (.aload_n 0, 1) := dl_42 (by decide +kernel)
theorem dX12_counts_8 : decode cX12_counts 8 = .ok (.getfield 175, 3) := dl_180 (by decide +kernel)
theorem dX12_counts_11 : decode cX12_counts 11 = .ok (.ifCond .eq 17, 3) := dl_153 (by decide +kernel)
theorem dX12_counts_14 : decode cX12_counts 14 = .ok (.aload_n 0, 1) := dl_42 (by decide +kernel)
theorem dX12_counts_15 : decode cX12_counts 15 = .ok (.getfield 191, 3) := dl_180 (by decide +kernel)
theorem dX12_counts_18 : decode cX12_counts 18 = .ok (.bipush 32, 2) := dl_16 (by decide +kernel)
theorem dX12_counts_20 : decode cX12_counts 20 = .ok (.if_icmp .ne 8, 3) := dl_160 (by decide +kernel)
theorem dX12_counts_23 : decode cX12_counts 23 = .ok (.aload_n 0, 1) := dl_42 (by decide +kernel)
theorem dX12_counts_24 : decode cX12_counts 24 = .ok (.iconst 5, 1) := dl_8 (by decide +kernel)
theorem dX12_counts_25 : decode cX12_counts 25 = .ok (.invokevirtual 186, 3) := dl_182 (by decide +kernel)
set_option maxRecDepth 100000 in
set_option maxHeartbeats 4000000 in
theorem r_counts (l : Launch) (E : EV) (ro : va_W) (hm : Nat) (m_manys : Nat) (m_reals : Nat) (m_factsOf : Nat) (m_possible : Nat) (q_undos : Nat) (q_models : Nat) (m_tape : Nat) (q_taped : Nat) (q_fault : Int32) (q_wrong : Nat) (q_wrongAt : Int32) (q_spot : Int32) (q_place : Int32) (q_token : Nat) (q_value : Int32) (m_ends : Nat) (m_letters : Nat) (m_actOf : Nat) (m_whom : Nat) (m_actMany : Nat) (m_tokens : Nat) (m_afters : Nat) (m_afterOf : Nat) (q_counted : Nat) (m_pile : Nat) (m_caseMany : Nat) (m_happen : Nat) (m_hasIf : Nat) (m_becomes : Nat) (m_goneOf : Nat) (m_heard : Nat) (m_pairs : Nat) (m_heaps : Nat) (q_rounds : Int32) (q_heapMany : Int32) (m_led : Nat) (m_newAt : Nat) (m_knowing : Nat) (m_firsts : Nat) (q_people : Nat) (m_secrets : Nat) (m_tried : Nat) (m_lanes : Nat) (m_lengths : Nat) (m_cells : Nat) (hq_wrong : q_wrong ≤ 5) (hq_token : q_token ≤ 2) (hq_counted : q_counted ≤ 100) : CT l yX12_counts (Cond.code yX12_counts cX12_counts 1 none :: TB) ({ frames := 1, cells := 0, slots := 0, locals := 21 }) E ro [.ref hm] [(hm, .inr (12, [.ref m_manys, .ref m_reals, .ref m_factsOf, .ref m_possible, .int (nI q_undos), .int (nI q_models), .ref m_tape, .int (nI q_taped), .int q_fault, .int (nI q_wrong), .int q_wrongAt, .int q_spot, .int q_place, .int (nI q_token), .int q_value, .ref m_ends, .ref m_letters, .ref m_actOf, .ref m_whom, .ref m_actMany, .ref m_tokens, .ref m_afters, .ref m_afterOf, .int (nI q_counted), .ref m_pile, .ref m_caseMany, .ref m_happen, .ref m_hasIf, .ref m_becomes, .ref m_goneOf, .ref m_heard, .ref m_pairs, .ref m_heaps, .int q_rounds, .int q_heapMany, .ref m_led, .ref m_newAt, .ref m_knowing, .ref m_firsts, .int (nI q_people), .ref m_secrets, .ref m_tried, .ref m_lanes, .ref m_lengths, .ref m_cells]))] (Qv E (fun uz => (uz = [(hm, .inr (12, [.ref m_manys, .ref m_reals, .ref m_factsOf, .ref m_possible, .int (nI q_undos), .int (nI q_models), .ref m_tape, .int (nI q_taped), .int q_fault, .int (nI q_wrong), .int q_wrongAt, .int q_spot, .int q_place, .int (nI q_token), .int q_value, .ref m_ends, .ref m_letters, .ref m_actOf, .ref m_whom, .ref m_actMany, .ref m_tokens, .ref m_afters, .ref m_afterOf, .int (nI (q_counted + 1)), .ref m_pile, .ref m_caseMany, .ref m_happen, .ref m_hasIf, .ref m_becomes, .ref m_goneOf, .ref m_heard, .ref m_pairs, .ref m_heaps, .int q_rounds, .int q_heapMany, .ref m_led, .ref m_newAt, .ref m_knowing, .ref m_firsts, .int (nI q_people), .ref m_secrets, .ref m_tried, .ref m_lanes, .ref m_lengths, .ref m_cells]))] ∧ (q_wrong = 0 → q_counted = 32 → q_token = 0)) ∨ (uz = [(hm, .inr (12, [.ref m_manys, .ref m_reals, .ref m_factsOf, .ref m_possible, .int (nI q_undos), .int (nI q_models), .ref m_tape, .int (nI q_taped), .int q_fault, .int 5, .int q_place, .int q_spot, .int q_place, .int (nI q_token), .int q_value, .ref m_ends, .ref m_letters, .ref m_actOf, .ref m_whom, .ref m_actMany, .ref m_tokens, .ref m_afters, .ref m_afterOf, .int (nI (q_counted + 1)), .ref m_pile, .ref m_caseMany, .ref m_happen, .ref m_hasIf, .ref m_becomes, .ref m_goneOf, .ref m_heard, .ref m_pairs, .ref m_heaps, .int q_rounds, .int q_heapMany, .ref m_led, .ref m_newAt, .ref m_knowing, .ref m_firsts, .int (nI q_people), .ref m_secrets, .ref m_tried, .ref m_lanes, .ref m_lengths, .ref m_cells]))] ∧ (q_wrong = 0) ∧ (q_counted = 32)))) 0 0 := by
  refine ct_of rfl rfl ?_
  intro X C hT hin hro
  show WW X 1 E 0 [(0, .ref hm)] [] [(hm, .inr (12, [.ref m_manys, .ref m_reals, .ref m_factsOf, .ref m_possible, .int (nI q_undos), .int (nI q_models), .ref m_tape, .int (nI q_taped), .int q_fault, .int (nI q_wrong), .int q_wrongAt, .int q_spot, .int q_place, .int (nI q_token), .int q_value, .ref m_ends, .ref m_letters, .ref m_actOf, .ref m_whom, .ref m_actMany, .ref m_tokens, .ref m_afters, .ref m_afterOf, .int (nI q_counted), .ref m_pile, .ref m_caseMany, .ref m_happen, .ref m_hasIf, .ref m_becomes, .ref m_goneOf, .ref m_heard, .ref m_pairs, .ref m_heaps, .int q_rounds, .int q_heapMany, .ref m_led, .ref m_newAt, .ref m_knowing, .ref m_firsts, .int (nI q_people), .ref m_secrets, .ref m_tried, .ref m_lanes, .ref m_lengths, .ref m_cells]))] 0 0
  refine ww_aload_n C dX12_counts_0 0 rfl rfl ?_
  refine ww_get C fg_X12_157 0 rfl rfl dX12_counts_1 ?_
  refine ww_if_ne (tgt := 28) C dX12_counts_4 (by decide) (fun c_1 => ?_) (fun c_1 => ?_)
  · have zc_1 : ((q_wrong : Nat) : Int) ≠ 0 := i_ne (nI_toInt (n := q_wrong) (by omega)) rfl c_1
    refine ww_aload_n C dX12_counts_28 0 rfl rfl ?_
    refine ww_dup C dX12_counts_29 rfl ?_
    refine ww_get C fg_X12_191 0 rfl rfl dX12_counts_30 ?_
    refine ww_iconst (v := 1) C dX12_counts_33 rfl ?_
    refine ww_iadd (v := (nI (q_counted + 1))) C dX12_counts_34 (nI_add q_counted 1) ?_
    refine ww_put (ws' := [(hm, .inr (12, [.ref m_manys, .ref m_reals, .ref m_factsOf, .ref m_possible, .int (nI q_undos), .int (nI q_models), .ref m_tape, .int (nI q_taped), .int q_fault, .int (nI q_wrong), .int q_wrongAt, .int q_spot, .int q_place, .int (nI q_token), .int q_value, .ref m_ends, .ref m_letters, .ref m_actOf, .ref m_whom, .ref m_actMany, .ref m_tokens, .ref m_afters, .ref m_afterOf, .int (nI (q_counted + 1)), .ref m_pile, .ref m_caseMany, .ref m_happen, .ref m_hasIf, .ref m_becomes, .ref m_goneOf, .ref m_heard, .ref m_pairs, .ref m_heaps, .int q_rounds, .int q_heapMany, .ref m_led, .ref m_newAt, .ref m_knowing, .ref m_firsts, .int (nI q_people), .ref m_secrets, .ref m_tried, .ref m_lanes, .ref m_lengths, .ref m_cells]))]) C fp_X12_191 0 rfl rfl rfl rfl rfl dX12_counts_35 ?_
    exact ww_vret (u := [(hm, .inr (12, [.ref m_manys, .ref m_reals, .ref m_factsOf, .ref m_possible, .int (nI q_undos), .int (nI q_models), .ref m_tape, .int (nI q_taped), .int q_fault, .int (nI q_wrong), .int q_wrongAt, .int q_spot, .int q_place, .int (nI q_token), .int q_value, .ref m_ends, .ref m_letters, .ref m_actOf, .ref m_whom, .ref m_actMany, .ref m_tokens, .ref m_afters, .ref m_afterOf, .int (nI (q_counted + 1)), .ref m_pile, .ref m_caseMany, .ref m_happen, .ref m_hasIf, .ref m_becomes, .ref m_goneOf, .ref m_heard, .ref m_pairs, .ref m_heaps, .int q_rounds, .int q_heapMany, .ref m_led, .ref m_newAt, .ref m_knowing, .ref m_firsts, .int (nI q_people), .ref m_secrets, .ref m_tried, .ref m_lanes, .ref m_lengths, .ref m_cells]))]) C hT [0] rfl rfl rfl rfl dX12_counts_38 (Or.inl ⟨rfl, (by omega)⟩)
  · have zc_1 : ((q_wrong : Nat) : Int) = 0 := i_eq (nI_toInt (n := q_wrong) (by omega)) rfl c_1
    refine ww_aload_n C dX12_counts_7 0 rfl rfl ?_
    refine ww_get C fg_X12_175 0 rfl rfl dX12_counts_8 ?_
    refine ww_if_eq (tgt := 28) C dX12_counts_11 (by decide) (fun c_2 => ?_) (fun c_2 => ?_)
    · have zc_2 : ((q_token : Nat) : Int) = 0 := i_eq (nI_toInt (n := q_token) (by omega)) rfl c_2
      refine ww_aload_n C dX12_counts_28 0 rfl rfl ?_
      refine ww_dup C dX12_counts_29 rfl ?_
      refine ww_get C fg_X12_191 0 rfl rfl dX12_counts_30 ?_
      refine ww_iconst (v := 1) C dX12_counts_33 rfl ?_
      refine ww_iadd (v := (nI (q_counted + 1))) C dX12_counts_34 (nI_add q_counted 1) ?_
      refine ww_put (ws' := [(hm, .inr (12, [.ref m_manys, .ref m_reals, .ref m_factsOf, .ref m_possible, .int (nI q_undos), .int (nI q_models), .ref m_tape, .int (nI q_taped), .int q_fault, .int (nI q_wrong), .int q_wrongAt, .int q_spot, .int q_place, .int (nI q_token), .int q_value, .ref m_ends, .ref m_letters, .ref m_actOf, .ref m_whom, .ref m_actMany, .ref m_tokens, .ref m_afters, .ref m_afterOf, .int (nI (q_counted + 1)), .ref m_pile, .ref m_caseMany, .ref m_happen, .ref m_hasIf, .ref m_becomes, .ref m_goneOf, .ref m_heard, .ref m_pairs, .ref m_heaps, .int q_rounds, .int q_heapMany, .ref m_led, .ref m_newAt, .ref m_knowing, .ref m_firsts, .int (nI q_people), .ref m_secrets, .ref m_tried, .ref m_lanes, .ref m_lengths, .ref m_cells]))]) C fp_X12_191 0 rfl rfl rfl rfl rfl dX12_counts_35 ?_
      exact ww_vret (u := [(hm, .inr (12, [.ref m_manys, .ref m_reals, .ref m_factsOf, .ref m_possible, .int (nI q_undos), .int (nI q_models), .ref m_tape, .int (nI q_taped), .int q_fault, .int (nI q_wrong), .int q_wrongAt, .int q_spot, .int q_place, .int (nI q_token), .int q_value, .ref m_ends, .ref m_letters, .ref m_actOf, .ref m_whom, .ref m_actMany, .ref m_tokens, .ref m_afters, .ref m_afterOf, .int (nI (q_counted + 1)), .ref m_pile, .ref m_caseMany, .ref m_happen, .ref m_hasIf, .ref m_becomes, .ref m_goneOf, .ref m_heard, .ref m_pairs, .ref m_heaps, .int q_rounds, .int q_heapMany, .ref m_led, .ref m_newAt, .ref m_knowing, .ref m_firsts, .int (nI q_people), .ref m_secrets, .ref m_tried, .ref m_lanes, .ref m_lengths, .ref m_cells]))]) C hT [0] rfl rfl rfl rfl dX12_counts_38 (Or.inl ⟨rfl, (by omega)⟩)
    · have zc_2 : ((q_token : Nat) : Int) ≠ 0 := i_ne (nI_toInt (n := q_token) (by omega)) rfl c_2
      refine ww_aload_n C dX12_counts_14 0 rfl rfl ?_
      refine ww_get C fg_X12_191 0 rfl rfl dX12_counts_15 ?_
      refine ww_bipush (v := 32) C dX12_counts_18 rfl ?_
      refine ww_icmp_ne (tgt := 28) C dX12_counts_20 (by decide) (fun c_3 => ?_) (fun c_3 => ?_)
      · have zc_3 : ((q_counted : Nat) : Int) ≠ 32 := i_ne (nI_toInt (n := q_counted) (by omega)) rfl c_3
        refine ww_aload_n C dX12_counts_28 0 rfl rfl ?_
        refine ww_dup C dX12_counts_29 rfl ?_
        refine ww_get C fg_X12_191 0 rfl rfl dX12_counts_30 ?_
        refine ww_iconst (v := 1) C dX12_counts_33 rfl ?_
        refine ww_iadd (v := (nI (q_counted + 1))) C dX12_counts_34 (nI_add q_counted 1) ?_
        refine ww_put (ws' := [(hm, .inr (12, [.ref m_manys, .ref m_reals, .ref m_factsOf, .ref m_possible, .int (nI q_undos), .int (nI q_models), .ref m_tape, .int (nI q_taped), .int q_fault, .int (nI q_wrong), .int q_wrongAt, .int q_spot, .int q_place, .int (nI q_token), .int q_value, .ref m_ends, .ref m_letters, .ref m_actOf, .ref m_whom, .ref m_actMany, .ref m_tokens, .ref m_afters, .ref m_afterOf, .int (nI (q_counted + 1)), .ref m_pile, .ref m_caseMany, .ref m_happen, .ref m_hasIf, .ref m_becomes, .ref m_goneOf, .ref m_heard, .ref m_pairs, .ref m_heaps, .int q_rounds, .int q_heapMany, .ref m_led, .ref m_newAt, .ref m_knowing, .ref m_firsts, .int (nI q_people), .ref m_secrets, .ref m_tried, .ref m_lanes, .ref m_lengths, .ref m_cells]))]) C fp_X12_191 0 rfl rfl rfl rfl rfl dX12_counts_35 ?_
        exact ww_vret (u := [(hm, .inr (12, [.ref m_manys, .ref m_reals, .ref m_factsOf, .ref m_possible, .int (nI q_undos), .int (nI q_models), .ref m_tape, .int (nI q_taped), .int q_fault, .int (nI q_wrong), .int q_wrongAt, .int q_spot, .int q_place, .int (nI q_token), .int q_value, .ref m_ends, .ref m_letters, .ref m_actOf, .ref m_whom, .ref m_actMany, .ref m_tokens, .ref m_afters, .ref m_afterOf, .int (nI (q_counted + 1)), .ref m_pile, .ref m_caseMany, .ref m_happen, .ref m_hasIf, .ref m_becomes, .ref m_goneOf, .ref m_heard, .ref m_pairs, .ref m_heaps, .int q_rounds, .int q_heapMany, .ref m_led, .ref m_newAt, .ref m_knowing, .ref m_firsts, .int (nI q_people), .ref m_secrets, .ref m_tried, .ref m_lanes, .ref m_lengths, .ref m_cells]))]) C hT [0] rfl rfl rfl rfl dX12_counts_38 (Or.inl ⟨rfl, (by omega)⟩)
      · have zc_3 : ((q_counted : Nat) : Int) = 32 := i_eq (nI_toInt (n := q_counted) (by omega)) rfl c_3
        refine ww_aload_n C dX12_counts_23 0 rfl rfl ?_
        refine ww_iconst (v := 5) C dX12_counts_24 rfl ?_
        refine ww_cv (wr := []) (k' := 0) (n' := 0) C (run_V (As := [.int 5]) (rest := []) C (r_fails X.2.1 E ro hm 5 m_manys m_reals m_factsOf m_possible q_undos q_models m_tape q_taped q_fault q_wrong q_wrongAt q_spot q_place (nI q_token) q_value m_ends m_letters m_actOf m_whom m_actMany m_tokens m_afters m_afterOf (nI q_counted) m_pile m_caseMany m_happen m_hasIf m_becomes m_goneOf m_heard m_pairs m_heaps q_rounds q_heapMany m_led m_newAt m_knowing m_firsts q_people m_secrets m_tried m_lanes m_lengths m_cells (by omega)) mi_X12_fails wl_X12_186 rfl 0 12 rfl rfl rfl rfl rfl dX12_counts_25) (roK hro) [0] [] rfl rfl rfl rfl (fun uz hw => ?_)
        rcases hw with hw | hw
        · refine an1 hw ?_
          clear hw
          intro he_6 hw
          have h_5 := hw
          clear hw
          subst he_6
          refine ww_eq (ws' := [(hm, .inr (12, [.ref m_manys, .ref m_reals, .ref m_factsOf, .ref m_possible, .int (nI q_undos), .int (nI q_models), .ref m_tape, .int (nI q_taped), .int q_fault, .int 5, .int q_place, .int q_spot, .int q_place, .int (nI q_token), .int q_value, .ref m_ends, .ref m_letters, .ref m_actOf, .ref m_whom, .ref m_actMany, .ref m_tokens, .ref m_afters, .ref m_afterOf, .int (nI q_counted), .ref m_pile, .ref m_caseMany, .ref m_happen, .ref m_hasIf, .ref m_becomes, .ref m_goneOf, .ref m_heard, .ref m_pairs, .ref m_heaps, .int q_rounds, .int q_heapMany, .ref m_led, .ref m_newAt, .ref m_knowing, .ref m_firsts, .int (nI q_people), .ref m_secrets, .ref m_tried, .ref m_lanes, .ref m_lengths, .ref m_cells]))]) ?_ rfl rfl rfl
          refine ww_aload_n C dX12_counts_28 0 rfl rfl ?_
          refine ww_dup C dX12_counts_29 rfl ?_
          refine ww_get C fg_X12_191 0 rfl rfl dX12_counts_30 ?_
          refine ww_iconst (v := 1) C dX12_counts_33 rfl ?_
          refine ww_iadd (v := (nI (q_counted + 1))) C dX12_counts_34 (nI_add q_counted 1) ?_
          refine ww_put (ws' := [(hm, .inr (12, [.ref m_manys, .ref m_reals, .ref m_factsOf, .ref m_possible, .int (nI q_undos), .int (nI q_models), .ref m_tape, .int (nI q_taped), .int q_fault, .int 5, .int q_place, .int q_spot, .int q_place, .int (nI q_token), .int q_value, .ref m_ends, .ref m_letters, .ref m_actOf, .ref m_whom, .ref m_actMany, .ref m_tokens, .ref m_afters, .ref m_afterOf, .int (nI (q_counted + 1)), .ref m_pile, .ref m_caseMany, .ref m_happen, .ref m_hasIf, .ref m_becomes, .ref m_goneOf, .ref m_heard, .ref m_pairs, .ref m_heaps, .int q_rounds, .int q_heapMany, .ref m_led, .ref m_newAt, .ref m_knowing, .ref m_firsts, .int (nI q_people), .ref m_secrets, .ref m_tried, .ref m_lanes, .ref m_lengths, .ref m_cells]))]) C fp_X12_191 0 rfl rfl rfl rfl rfl dX12_counts_35 ?_
          exact ww_vret (u := [(hm, .inr (12, [.ref m_manys, .ref m_reals, .ref m_factsOf, .ref m_possible, .int (nI q_undos), .int (nI q_models), .ref m_tape, .int (nI q_taped), .int q_fault, .int 5, .int q_place, .int q_spot, .int q_place, .int (nI q_token), .int q_value, .ref m_ends, .ref m_letters, .ref m_actOf, .ref m_whom, .ref m_actMany, .ref m_tokens, .ref m_afters, .ref m_afterOf, .int (nI (q_counted + 1)), .ref m_pile, .ref m_caseMany, .ref m_happen, .ref m_hasIf, .ref m_becomes, .ref m_goneOf, .ref m_heard, .ref m_pairs, .ref m_heaps, .int q_rounds, .int q_heapMany, .ref m_led, .ref m_newAt, .ref m_knowing, .ref m_firsts, .int (nI q_people), .ref m_secrets, .ref m_tried, .ref m_lanes, .ref m_lengths, .ref m_cells]))]) C hT [0] rfl rfl rfl rfl dX12_counts_38 (Or.inr ⟨rfl, (by first | assumption | omega | decide), (by omega)⟩)
        · refine an1 hw ?_
          clear hw
          intro he_8 hw
          have h_7 := hw
          clear hw
          subst he_8
          omega
theorem dX12_wantsOf_0 : decode cX12_wantsOf 0 = .ok (.iload_n 0, 1) := dl_26 (by decide +kernel)
theorem dX12_wantsOf_1 : decode cX12_wantsOf 1 = .ok (.iconst 4, 1) := dl_7 (by decide +kernel)
theorem dX12_wantsOf_2 : decode cX12_wantsOf 2 = .ok (.if_icmp .gt 7, 3) := dl_163 (by decide +kernel)
theorem dX12_wantsOf_9 : decode cX12_wantsOf 9 = .ok (.iload_n 0, 1) := dl_26 (by decide +kernel)
theorem dX12_wantsOf_10 : decode cX12_wantsOf 10 = .ok (.bipush 6, 2) := dl_16 (by decide +kernel)
theorem dX12_wantsOf_12 : decode cX12_wantsOf 12 = .ok (.if_icmp .eq 9, 3) := dl_159 (by decide +kernel)
theorem dX12_wantsOf_21 : decode cX12_wantsOf 21 = .ok (.iconst 2, 1) := dl_5 (by decide +kernel)
theorem dX12_wantsOf_22 : decode cX12_wantsOf 22 = .ok (.goto 4, 3) := dl_167 (by decide +kernel)
theorem dX12_wantsOf_26 : decode cX12_wantsOf 26 = .ok (.ireturn, 1) := dl_172 (by decide +kernel)
theorem dX12_wantsOf_15 : decode cX12_wantsOf 15 = .ok (.iload_n 0, 1) := dl_26 (by decide +kernel)
theorem dX12_wantsOf_16 : decode cX12_wantsOf 16 = .ok (.bipush 7, 2) := dl_16 (by decide +kernel)
theorem dX12_wantsOf_18 : decode cX12_wantsOf 18 = .ok (.if_icmp .ne 7, 3) := dl_160 (by decide +kernel)
theorem dX12_wantsOf_25 : decode cX12_wantsOf 25 = .ok (.iconst 1, 1) := dl_4 (by decide +kernel)
theorem dX12_wantsOf_5 : decode cX12_wantsOf 5 = .ok (.iconst 0, 1) := dl_3 (by decide +kernel)
theorem dX12_wantsOf_6 : decode cX12_wantsOf 6 = .ok (.goto 20, 3) := dl_167 (by decide +kernel)
set_option maxRecDepth 100000 in
set_option maxHeartbeats 4000000 in
theorem r_wantsOf (l : Launch) (E : EV) (ro : va_W) (ac : Int32) (za : Int) (hz_za : ac.toInt = za) : CT l yX12_wantsOf (Cond.code yX12_wantsOf cX12_wantsOf 1 (some .int) :: TB) ({ frames := 0, cells := 0, slots := 0, locals := 0 }) E ro [.int ac] [] (Qi E (fun (rz : Int32) uz => (rz = 0 ∧ uz = [] ∧ (za ≤ 4)) ∨ (rz = 2 ∧ uz = [] ∧ (za = 6 ∨ za = 7)) ∨ (rz = 1 ∧ uz = [] ∧ (4 < za ∧ za ≠ 6 ∧ za ≠ 7)))) 0 0 := by
  refine ct_of rfl rfl ?_
  intro X C hT hin hro
  show WW X 1 E 0 [(0, .int ac)] [] [] 0 0
  refine ww_iload_n C dX12_wantsOf_0 0 rfl rfl ?_
  refine ww_iconst (v := 4) C dX12_wantsOf_1 rfl ?_
  refine ww_icmp_gt (tgt := 9) C dX12_wantsOf_2 (by decide) (fun c_1 => ?_) (fun c_1 => ?_)
  · have zc_1 : ac.toInt > 4 := i_lt rfl rfl c_1
    refine ww_iload_n C dX12_wantsOf_9 0 rfl rfl ?_
    refine ww_bipush (v := 6) C dX12_wantsOf_10 rfl ?_
    refine ww_icmp_eq (tgt := 21) C dX12_wantsOf_12 (by decide) (fun c_2 => ?_) (fun c_2 => ?_)
    · have zc_2 : ac.toInt = 6 := i_eq rfl rfl c_2
      refine ww_iconst (v := 2) C dX12_wantsOf_21 rfl ?_
      refine ww_goto (tgt := 26) C dX12_wantsOf_22 (by decide) ?_
      exact ww_iret (u := []) C hT [] rfl rfl rfl rfl dX12_wantsOf_26 (Or.inr (Or.inl ⟨rfl, rfl, (by first | assumption | omega | decide)⟩))
    · have zc_2 : ac.toInt ≠ 6 := i_ne rfl rfl c_2
      refine ww_iload_n C dX12_wantsOf_15 0 rfl rfl ?_
      refine ww_bipush (v := 7) C dX12_wantsOf_16 rfl ?_
      refine ww_icmp_ne (tgt := 25) C dX12_wantsOf_18 (by decide) (fun c_3 => ?_) (fun c_3 => ?_)
      · have zc_3 : ac.toInt ≠ 7 := i_ne rfl rfl c_3
        refine ww_iconst (v := 1) C dX12_wantsOf_25 rfl ?_
        exact ww_iret (u := []) C hT [] rfl rfl rfl rfl dX12_wantsOf_26 (Or.inr (Or.inr ⟨rfl, rfl, (by omega)⟩))
      · have zc_3 : ac.toInt = 7 := i_eq rfl rfl c_3
        refine ww_iconst (v := 2) C dX12_wantsOf_21 rfl ?_
        refine ww_goto (tgt := 26) C dX12_wantsOf_22 (by decide) ?_
        exact ww_iret (u := []) C hT [] rfl rfl rfl rfl dX12_wantsOf_26 (Or.inr (Or.inl ⟨rfl, rfl, (by first | assumption | omega | decide)⟩))
  · have zc_1 : ac.toInt ≤ 4 := i_nlt rfl rfl c_1
    refine ww_iconst (v := 0) C dX12_wantsOf_5 rfl ?_
    refine ww_goto (tgt := 26) C dX12_wantsOf_6 (by decide) ?_
    exact ww_iret (u := []) C hT [] rfl rfl rfl rfl dX12_wantsOf_26 (Or.inl ⟨rfl, rfl, (by first | assumption | omega | decide)⟩)
end
