theorem dX12_fewest_0 : decode cX12_fewest 0 = .ok (.iload_n 1, 1) := by decide +kernel
theorem dX12_fewest_1 : decode cX12_fewest 1 = .ok (.i2l, 1) := by decide +kernel
theorem dX12_fewest_2 : decode cX12_fewest 2 = .ok (.lconst 0, 1) := by decide +kernel
theorem dX12_fewest_3 : decode cX12_fewest 3 = .ok (.lconst 1, 1) := by decide +kernel
theorem dX12_fewest_4 : decode cX12_fewest 4 = .ok (.invokestatic 115, 3) := by decide +kernel
theorem dX12_fewest_7 : decode cX12_fewest 7 = .ok (.ifCond .ne 5, 3) := by decide +kernel
theorem dX12_fewest_12 : decode cX12_fewest 12 = .ok (.aload_n 0, 1) := by decide +kernel
theorem dX12_fewest_13 : decode cX12_fewest 13 = .ok (.getfield 332, 3) := by decide +kernel
theorem dX12_fewest_16 : decode cX12_fewest 16 = .ok (.ifCond .ne 6, 3) := by decide +kernel
theorem dX12_fewest_22 : decode cX12_fewest 22 = .ok (.iconst 1, 1) := by decide +kernel
theorem dX12_fewest_23 : decode cX12_fewest 23 = .ok (.istore_n 2, 1) := by decide +kernel
theorem dX12_fewest_24 : decode cX12_fewest 24 = .ok (.iconst 0, 1) := by decide +kernel
theorem dX12_fewest_25 : decode cX12_fewest 25 = .ok (.istore_n 3, 1) := by decide +kernel
theorem dX12_fewest_26 : decode cX12_fewest 26 = .ok (.iload_n 3, 1) := by decide +kernel
theorem dX12_fewest_27 : decode cX12_fewest 27 = .ok (.bipush 6, 2) := by decide +kernel
theorem dX12_fewest_29 : decode cX12_fewest 29 = .ok (.if_icmp .ge 103, 3) := by decide +kernel
theorem dX12_fewest_132 : decode cX12_fewest 132 = .ok (.bipush (-4), 2) := by decide +kernel
theorem dX12_fewest_134 : decode cX12_fewest 134 = .ok (.ireturn, 1) := by decide +kernel
theorem dX12_fewest_32 : decode cX12_fewest 32 = .ok (.iconst 0, 1) := by decide +kernel
theorem dX12_fewest_33 : decode cX12_fewest 33 = .ok (.istore 4, 2) := by decide +kernel
theorem dX12_fewest_35 : decode cX12_fewest 35 = .ok (.iload 4, 2) := by decide +kernel
theorem dX12_fewest_37 : decode cX12_fewest 37 = .ok (.iload_n 2, 1) := by decide +kernel
theorem dX12_fewest_38 : decode cX12_fewest 38 = .ok (.if_icmp .ge 83, 3) := by decide +kernel
theorem dX12_fewest_121 : decode cX12_fewest 121 = .ok (.iload_n 2, 1) := by decide +kernel
theorem dX12_fewest_122 : decode cX12_fewest 122 = .ok (.bipush 6, 2) := by decide +kernel
theorem dX12_fewest_124 : decode cX12_fewest 124 = .ok (.imul, 1) := by decide +kernel
theorem dX12_fewest_125 : decode cX12_fewest 125 = .ok (.istore_n 2, 1) := by decide +kernel
theorem dX12_fewest_126 : decode cX12_fewest 126 = .ok (.iinc 3 1, 3) := by decide +kernel
theorem dX12_fewest_129 : decode cX12_fewest 129 = .ok (.goto (-103), 3) := by decide +kernel
theorem dX12_fewest_41 : decode cX12_fewest 41 = .ok (.aload_n 0, 1) := by decide +kernel
theorem dX12_fewest_42 : decode cX12_fewest 42 = .ok (.iload 4, 2) := by decide +kernel
theorem dX12_fewest_44 : decode cX12_fewest 44 = .ok (.iload_n 3, 1) := by decide +kernel
theorem dX12_fewest_45 : decode cX12_fewest 45 = .ok (.invokevirtual 338, 3) := by decide +kernel
theorem wl_X12_338 : Cond.methodLink RX12 338 yX12_allKnow ∈ TB := tbm (tq7 (List.mem_of_getElem? (i := 72) (by decide +kernel))) (by decide +kernel)
theorem wc_X12_allKnow : Cond.code yX12_allKnow cX12_allKnow 10 (some .boolean) ∈ TB := tbm (tq7 (List.mem_of_getElem? (i := 75) (rfl))) (by decide +kernel)
theorem wi_X12_allKnow : Cond.instanceMethod yX12_allKnow ∈ TB := tbm (tq7 (List.mem_of_getElem? (i := 74) (by decide +kernel))) (by decide +kernel)
theorem ws_X12_allKnow : Cond.selects RX12 yX12_allKnow yX12_allKnow ∈ TB := tbm (tq0 (List.mem_of_getElem? (i := 80) (by decide +kernel))) (by decide +kernel)
theorem mi_X12_allKnow : MI yX12_allKnow cX12_allKnow 10 (some .boolean) 2 := ⟨wc_X12_allKnow, wn_X12, ⟨by decide +kernel, by decide +kernel, by decide +kernel⟩, wi_X12_allKnow, ws_X12_allKnow⟩
theorem dX12_fewest_48 : decode cX12_fewest 48 = .ok (.ifCond .eq 67, 3) := by decide +kernel
theorem dX12_fewest_51 : decode cX12_fewest 51 = .ok (.iload_n 3, 1) := by decide +kernel
theorem dX12_fewest_52 : decode cX12_fewest 52 = .ok (.ifCond .ne 7, 3) := by decide +kernel
theorem dX12_fewest_59 : decode cX12_fewest 59 = .ok (.iload 4, 2) := by decide +kernel
theorem dX12_fewest_61 : decode cX12_fewest 61 = .ok (.iload_n 2, 1) := by decide +kernel
theorem dX12_fewest_62 : decode cX12_fewest 62 = .ok (.bipush 6, 2) := by decide +kernel
theorem dX12_fewest_64 : decode cX12_fewest 64 = .ok (.idiv, 1) := by decide +kernel
theorem dX12_fewest_65 : decode cX12_fewest 65 = .ok (.idiv, 1) := by decide +kernel
theorem dX12_fewest_66 : decode cX12_fewest 66 = .ok (.istore 5, 2) := by decide +kernel
theorem dX12_fewest_68 : decode cX12_fewest 68 = .ok (.iload_n 1, 1) := by decide +kernel
theorem dX12_fewest_69 : decode cX12_fewest 69 = .ok (.ifCond .ne 7, 3) := by decide +kernel
theorem dX12_fewest_76 : decode cX12_fewest 76 = .ok (.iload_n 3, 1) := by decide +kernel
theorem dX12_fewest_77 : decode cX12_fewest 77 = .ok (.ifCond .ne 8, 3) := by decide +kernel
theorem dX12_fewest_85 : decode cX12_fewest 85 = .ok (.iload 5, 2) := by decide +kernel
theorem dX12_fewest_87 : decode cX12_fewest 87 = .ok (.iconst 3, 1) := by decide +kernel
theorem dX12_fewest_88 : decode cX12_fewest 88 = .ok (.if_icmp .ge 10, 3) := by decide +kernel
theorem dX12_fewest_98 : decode cX12_fewest 98 = .ok (.iload 5, 2) := by decide +kernel
theorem dX12_fewest_100 : decode cX12_fewest 100 = .ok (.iconst 5, 1) := by decide +kernel
theorem dX12_fewest_101 : decode cX12_fewest 101 = .ok (.if_icmp .ge 11, 3) := by decide +kernel
theorem dX12_fewest_112 : decode cX12_fewest 112 = .ok (.bipush 23, 2) := by decide +kernel
theorem dX12_fewest_114 : decode cX12_fewest 114 = .ok (.ireturn, 1) := by decide +kernel
theorem dX12_fewest_104 : decode cX12_fewest 104 = .ok (.iload 5, 2) := by decide +kernel
theorem dX12_fewest_106 : decode cX12_fewest 106 = .ok (.bipush 9, 2) := by decide +kernel
theorem dX12_fewest_108 : decode cX12_fewest 108 = .ok (.iadd, 1) := by decide +kernel
theorem dX12_fewest_109 : decode cX12_fewest 109 = .ok (.goto 5, 3) := by decide +kernel
theorem dX12_fewest_91 : decode cX12_fewest 91 = .ok (.iload 5, 2) := by decide +kernel
theorem dX12_fewest_93 : decode cX12_fewest 93 = .ok (.iconst 1, 1) := by decide +kernel
theorem dX12_fewest_94 : decode cX12_fewest 94 = .ok (.iadd, 1) := by decide +kernel
theorem dX12_fewest_95 : decode cX12_fewest 95 = .ok (.goto 19, 3) := by decide +kernel
theorem dX12_fewest_80 : decode cX12_fewest 80 = .ok (.bipush (-4), 2) := by decide +kernel
theorem dX12_fewest_82 : decode cX12_fewest 82 = .ok (.goto 32, 3) := by decide +kernel
theorem dX12_fewest_72 : decode cX12_fewest 72 = .ok (.iload_n 3, 1) := by decide +kernel
theorem dX12_fewest_73 : decode cX12_fewest 73 = .ok (.goto 41, 3) := by decide +kernel
theorem dX12_fewest_55 : decode cX12_fewest 55 = .ok (.iconst 0, 1) := by decide +kernel
theorem dX12_fewest_56 : decode cX12_fewest 56 = .ok (.goto 10, 3) := by decide +kernel
theorem dX12_fewest_115 : decode cX12_fewest 115 = .ok (.iinc 4 1, 3) := by decide +kernel
theorem dX12_fewest_118 : decode cX12_fewest 118 = .ok (.goto (-83), 3) := by decide +kernel
theorem dX12_fewest_19 : decode cX12_fewest 19 = .ok (.bipush (-2), 2) := by decide +kernel
theorem dX12_fewest_21 : decode cX12_fewest 21 = .ok (.ireturn, 1) := by decide +kernel
theorem dX12_fewest_10 : decode cX12_fewest 10 = .ok (.iconst (-1), 1) := by decide +kernel
theorem dX12_fewest_11 : decode cX12_fewest 11 = .ok (.ireturn, 1) := by decide +kernel
set_option maxRecDepth 100000 in
set_option maxHeartbeats 4000000 in
theorem y_fewest (l : Launch) (E : EV) (ro : va_W) (hm : Nat) (v0 : Int32) (m_manys : Nat) (m_reals : Nat) (m_factsOf : Nat) (m_possible : Nat) (q_undos : Nat) (q_models : Nat) (m_tape : Nat) (q_taped : Nat) (q_fault : Int32) (q_wrong : Int32) (q_wrongAt : Int32) (q_spot : Int32) (q_place : Int32) (q_token : Int32) (q_value : Int32) (m_ends : Nat) (m_letters : Nat) (m_actOf : Nat) (m_whom : Nat) (m_actMany : Nat) (m_tokens : Nat) (m_afters : Nat) (m_afterOf : Nat) (q_counted : Int32) (m_pile : Nat) (m_caseMany : Nat) (m_happen : Nat) (m_hasIf : Nat) (m_becomes : Nat) (m_goneOf : Nat) (m_heard : Nat) (m_pairs : Nat) (m_heaps : Nat) (q_rounds : Int32) (q_heapMany : Int32) (m_led : Nat) (m_newAt : Nat) (m_knowing : Nat) (m_firsts : Nat) (q_people : Nat) (m_secrets : Nat) (m_tried : Nat) (m_lanes : Nat) (m_lengths : Nat) (m_cells : Nat) (f_secrets : Nat → Int32) (f_tried : Nat → Int32) (hq_people : q_people ≤ 4) : CT l yX12_fewest (Cond.code yX12_fewest cX12_fewest 6 (some .int) :: TB) ({ frames := 2, cells := 0, slots := 0, locals := 49 }) E ro [.ref hm, .int v0] [(hm, .inr (12, [.ref m_manys, .ref m_reals, .ref m_factsOf, .ref m_possible, .int (nI q_undos), .int (nI q_models), .ref m_tape, .int (nI q_taped), .int q_fault, .int q_wrong, .int q_wrongAt, .int q_spot, .int q_place, .int q_token, .int q_value, .ref m_ends, .ref m_letters, .ref m_actOf, .ref m_whom, .ref m_actMany, .ref m_tokens, .ref m_afters, .ref m_afterOf, .int q_counted, .ref m_pile, .ref m_caseMany, .ref m_happen, .ref m_hasIf, .ref m_becomes, .ref m_goneOf, .ref m_heard, .ref m_pairs, .ref m_heaps, .int q_rounds, .int q_heapMany, .ref m_led, .ref m_newAt, .ref m_knowing, .ref m_firsts, .int (nI q_people), .ref m_secrets, .ref m_tried, .ref m_lanes, .ref m_lengths, .ref m_cells])), (m_secrets, .inl (E.2.1 1, 4, .inl f_secrets)), (m_tried, .inl (E.2.1 1, 4, .inl f_tried))] (Qi E (fun (rz : Int32) uz => (∃ (f_triedz : Nat → Int32), uz = [(hm, .inr (12, [.ref m_manys, .ref m_reals, .ref m_factsOf, .ref m_possible, .int (nI q_undos), .int (nI q_models), .ref m_tape, .int (nI q_taped), .int q_fault, .int q_wrong, .int q_wrongAt, .int q_spot, .int q_place, .int q_token, .int q_value, .ref m_ends, .ref m_letters, .ref m_actOf, .ref m_whom, .ref m_actMany, .ref m_tokens, .ref m_afters, .ref m_afterOf, .int q_counted, .ref m_pile, .ref m_caseMany, .ref m_happen, .ref m_hasIf, .ref m_becomes, .ref m_goneOf, .ref m_heard, .ref m_pairs, .ref m_heaps, .int q_rounds, .int q_heapMany, .ref m_led, .ref m_newAt, .ref m_knowing, .ref m_firsts, .int (nI q_people), .ref m_secrets, .ref m_tried, .ref m_lanes, .ref m_lengths, .ref m_cells])), (m_secrets, .inl (E.2.1 1, 4, .inl f_secrets)), (m_tried, .inl (E.2.1 1, 4, .inl f_triedz))]))) 0 0 := by
  refine ct_of rfl rfl ?_
  intro X C hT hin hro
  show WW X 6 E 0 [(0, .ref hm), (1, .int v0)] [] [(hm, .inr (12, [.ref m_manys, .ref m_reals, .ref m_factsOf, .ref m_possible, .int (nI q_undos), .int (nI q_models), .ref m_tape, .int (nI q_taped), .int q_fault, .int q_wrong, .int q_wrongAt, .int q_spot, .int q_place, .int q_token, .int q_value, .ref m_ends, .ref m_letters, .ref m_actOf, .ref m_whom, .ref m_actMany, .ref m_tokens, .ref m_afters, .ref m_afterOf, .int q_counted, .ref m_pile, .ref m_caseMany, .ref m_happen, .ref m_hasIf, .ref m_becomes, .ref m_goneOf, .ref m_heard, .ref m_pairs, .ref m_heaps, .int q_rounds, .int q_heapMany, .ref m_led, .ref m_newAt, .ref m_knowing, .ref m_firsts, .int (nI q_people), .ref m_secrets, .ref m_tried, .ref m_lanes, .ref m_lengths, .ref m_cells])), (m_secrets, .inl (E.2.1 1, 4, .inl f_secrets)), (m_tried, .inl (E.2.1 1, 4, .inl f_tried))] 0 0
  refine ww_iload_n C dX12_fewest_0 1 rfl rfl ?_
  refine ww_i2l (v := v0.toInt64) C dX12_fewest_1 rfl ?_
  refine ww_lconst (v := 0) C dX12_fewest_2 rfl ?_
  refine ww_lconst (v := 1) C dX12_fewest_3 rfl ?_
  refine ww_ci (wr := [(hm, .inr (12, [.ref m_manys, .ref m_reals, .ref m_factsOf, .ref m_possible, .int (nI q_undos), .int (nI q_models), .ref m_tape, .int (nI q_taped), .int q_fault, .int q_wrong, .int q_wrongAt, .int q_spot, .int q_place, .int q_token, .int q_value, .ref m_ends, .ref m_letters, .ref m_actOf, .ref m_whom, .ref m_actMany, .ref m_tokens, .ref m_afters, .ref m_afterOf, .int q_counted, .ref m_pile, .ref m_caseMany, .ref m_happen, .ref m_hasIf, .ref m_becomes, .ref m_goneOf, .ref m_heard, .ref m_pairs, .ref m_heaps, .int q_rounds, .int q_heapMany, .ref m_led, .ref m_newAt, .ref m_knowing, .ref m_firsts, .int (nI q_people), .ref m_secrets, .ref m_tried, .ref m_lanes, .ref m_lengths, .ref m_cells])), (m_secrets, .inl (E.2.1 1, 4, .inl f_secrets)), (m_tried, .inl (E.2.1 1, 4, .inl f_tried))]) (k' := 0) (n' := 0) C (run_S (As := [.long v0.toInt64, .long 0, .long 1]) (rest := []) C (r_in X.2.1 E ro v0.toInt64 0 1 v0.toInt 0 1 (Int32.toInt_toInt64 _) rfl rfl) ms_X12_in wl_X12_115 rfl rfl rfl rfl dX12_fewest_4) (roK hro) [] [0, 1, 2] rfl rfl rfl rfl (fun r_1 uz hw => ?_)
  rcases hw with hw | hw
  · refine an3 hw ?_
    clear hw
    intro he_4 he_5 h_2 hw
    have h_3 := hw
    clear hw
    have he_4 := he_4.symm
    subst he_4
    subst he_5
    refine ww_eq (ws' := [(hm, .inr (12, [.ref m_manys, .ref m_reals, .ref m_factsOf, .ref m_possible, .int (nI q_undos), .int (nI q_models), .ref m_tape, .int (nI q_taped), .int q_fault, .int q_wrong, .int q_wrongAt, .int q_spot, .int q_place, .int q_token, .int q_value, .ref m_ends, .ref m_letters, .ref m_actOf, .ref m_whom, .ref m_actMany, .ref m_tokens, .ref m_afters, .ref m_afterOf, .int q_counted, .ref m_pile, .ref m_caseMany, .ref m_happen, .ref m_hasIf, .ref m_becomes, .ref m_goneOf, .ref m_heard, .ref m_pairs, .ref m_heaps, .int q_rounds, .int q_heapMany, .ref m_led, .ref m_newAt, .ref m_knowing, .ref m_firsts, .int (nI q_people), .ref m_secrets, .ref m_tried, .ref m_lanes, .ref m_lengths, .ref m_cells])), (m_secrets, .inl (E.2.1 1, 4, .inl f_secrets)), (m_tried, .inl (E.2.1 1, 4, .inl f_tried))]) ?_ rfl rfl rfl
    refine ww_if_ne_t (tgt := 12) C dX12_fewest_7 (by decide) (by decide) ?_
    refine ww_aload_n C dX12_fewest_12 0 rfl rfl ?_
    refine ww_get C fg_X12_332 0 rfl rfl dX12_fewest_13 ?_
    refine ww_if_ne (tgt := 22) C dX12_fewest_16 (by decide) (fun c_9 => ?_) (fun c_9 => ?_)
    · have zc_9 : ((q_people : Nat) : Int) ≠ 0 := i_ne (nI_toInt (n := q_people) (by omega)) rfl c_9
      refine ww_iconst (v := 1) C dX12_fewest_22 rfl ?_
      refine ww_istore_n (lv' := [(2, .int 1), (0, .ref hm), (1, .int v0)]) C dX12_fewest_23 rfl rfl rfl ?_
      refine ww_iconst (v := 0) C dX12_fewest_24 rfl ?_
      refine ww_istore_n (lv' := [(3, .int 0), (2, .int 1), (0, .ref hm), (1, .int v0)]) C dX12_fewest_25 rfl rfl rfl ?_
      have loop_26 : ∀ (fu : Nat) (n1 : Nat) (rw : Nat) (g1 : Nat → Int32), (n1 ≤ 6) → (rw = 6 ^ n1) → 6 - n1 < fu → WW X 6 E 26 [(3, .int (nI n1)), (2, .int (nI rw)), (0, .ref hm), (1, .int v0)] [] [(hm, .inr (12, [.ref m_manys, .ref m_reals, .ref m_factsOf, .ref m_possible, .int (nI q_undos), .int (nI q_models), .ref m_tape, .int (nI q_taped), .int q_fault, .int q_wrong, .int q_wrongAt, .int q_spot, .int q_place, .int q_token, .int q_value, .ref m_ends, .ref m_letters, .ref m_actOf, .ref m_whom, .ref m_actMany, .ref m_tokens, .ref m_afters, .ref m_afterOf, .int q_counted, .ref m_pile, .ref m_caseMany, .ref m_happen, .ref m_hasIf, .ref m_becomes, .ref m_goneOf, .ref m_heard, .ref m_pairs, .ref m_heaps, .int q_rounds, .int q_heapMany, .ref m_led, .ref m_newAt, .ref m_knowing, .ref m_firsts, .int (nI q_people), .ref m_secrets, .ref m_tried, .ref m_lanes, .ref m_lengths, .ref m_cells])), (m_secrets, .inl (E.2.1 1, 4, .inl f_secrets)), (m_tried, .inl (E.2.1 1, 4, .inl g1))] 0 0 := by
        intro fu
        induction fu with
        | zero => intro n1 rw g1 hn1 hrw hmeas; exact absurd hmeas (Nat.not_lt_zero _)
        | succ fu ih_26 =>
          intro n1 rw g1 hn1 hrw hmeas
          refine ww_iload_n C dX12_fewest_26 0 rfl rfl ?_
          refine ww_bipush (v := 6) C dX12_fewest_27 rfl ?_
          refine ww_icmp_ge (tgt := 132) C dX12_fewest_29 (by decide) (fun c_10 => ?_) (fun c_10 => ?_)
          · have zc_10 : ((n1 : Nat) : Int) ≥ 6 := i_le rfl (nI_toInt (n := n1) (by omega)) c_10
            refine ww_bipush (v := (-4)) C dX12_fewest_132 rfl ?_
            exact ww_iret (u := [(hm, .inr (12, [.ref m_manys, .ref m_reals, .ref m_factsOf, .ref m_possible, .int (nI q_undos), .int (nI q_models), .ref m_tape, .int (nI q_taped), .int q_fault, .int q_wrong, .int q_wrongAt, .int q_spot, .int q_place, .int q_token, .int q_value, .ref m_ends, .ref m_letters, .ref m_actOf, .ref m_whom, .ref m_actMany, .ref m_tokens, .ref m_afters, .ref m_afterOf, .int q_counted, .ref m_pile, .ref m_caseMany, .ref m_happen, .ref m_hasIf, .ref m_becomes, .ref m_goneOf, .ref m_heard, .ref m_pairs, .ref m_heaps, .int q_rounds, .int q_heapMany, .ref m_led, .ref m_newAt, .ref m_knowing, .ref m_firsts, .int (nI q_people), .ref m_secrets, .ref m_tried, .ref m_lanes, .ref m_lengths, .ref m_cells])), (m_secrets, .inl (E.2.1 1, 4, .inl f_secrets)), (m_tried, .inl (E.2.1 1, 4, .inl g1))]) C hT [0, 1, 2] rfl rfl rfl rfl dX12_fewest_134 (⟨g1, rfl⟩)
          · have zc_10 : ((n1 : Nat) : Int) < 6 := i_nle rfl (nI_toInt (n := n1) (by omega)) c_10
            refine ww_iconst (v := 0) C dX12_fewest_32 rfl ?_
            refine ww_istore (lv' := [(4, .int 0), (3, .int (nI n1)), (2, .int (nI rw)), (0, .ref hm), (1, .int v0)]) C dX12_fewest_33 rfl rfl ?_
            have hp6 := pow6_le (m := n1) (by omega)
            have loop_35 : ∀ (fu : Nat) (r2 : Nat) (g2 : Nat → Int32), (r2 ≤ rw) → rw - r2 < fu → WW X 6 E 35 [(4, .int (nI r2)), (3, .int (nI n1)), (2, .int (nI rw)), (0, .ref hm), (1, .int v0)] [] [(hm, .inr (12, [.ref m_manys, .ref m_reals, .ref m_factsOf, .ref m_possible, .int (nI q_undos), .int (nI q_models), .ref m_tape, .int (nI q_taped), .int q_fault, .int q_wrong, .int q_wrongAt, .int q_spot, .int q_place, .int q_token, .int q_value, .ref m_ends, .ref m_letters, .ref m_actOf, .ref m_whom, .ref m_actMany, .ref m_tokens, .ref m_afters, .ref m_afterOf, .int q_counted, .ref m_pile, .ref m_caseMany, .ref m_happen, .ref m_hasIf, .ref m_becomes, .ref m_goneOf, .ref m_heard, .ref m_pairs, .ref m_heaps, .int q_rounds, .int q_heapMany, .ref m_led, .ref m_newAt, .ref m_knowing, .ref m_firsts, .int (nI q_people), .ref m_secrets, .ref m_tried, .ref m_lanes, .ref m_lengths, .ref m_cells])), (m_secrets, .inl (E.2.1 1, 4, .inl f_secrets)), (m_tried, .inl (E.2.1 1, 4, .inl g2))] 0 0 := by
              intro fu
              induction fu with
              | zero => intro r2 g2 hr2 hmeas; exact absurd hmeas (Nat.not_lt_zero _)
              | succ fu ih_35 =>
                intro r2 g2 hr2 hmeas
                refine ww_iload C dX12_fewest_35 0 rfl ?_
                refine ww_iload_n C dX12_fewest_37 2 rfl rfl ?_
                refine ww_icmp_ge (tgt := 121) C dX12_fewest_38 (by decide) (fun c_11 => ?_) (fun c_11 => ?_)
                · have zc_11 : ((r2 : Nat) : Int) ≥ ((rw : Nat) : Int) := i_le (nI_toInt (n := rw) (by omega)) (nI_toInt (n := r2) (by omega)) c_11
                  refine ww_iload_n C dX12_fewest_121 2 rfl rfl ?_
                  refine ww_bipush (v := 6) C dX12_fewest_122 rfl ?_
                  refine ww_imul (v := (nI (rw * 6))) C dX12_fewest_124 (pk_mul rw 6) ?_
                  refine ww_istore_n (lv' := [(2, .int (nI (rw * 6))), (4, .int (nI r2)), (3, .int (nI n1)), (0, .ref hm), (1, .int v0)]) C dX12_fewest_125 rfl rfl rfl ?_
                  refine ww_iinc (j := 2) (v := (nI (n1 + 1))) (lv' := [(3, .int (nI (n1 + 1))), (2, .int (nI (rw * 6))), (4, .int (nI r2)), (0, .ref hm), (1, .int v0)]) C dX12_fewest_126 rfl (nI_add n1 1) rfl rfl ?_
                  refine ww_goto (tgt := 26) C dX12_fewest_129 (by decide) ?_
                  exact ww_lv [0, 1, 3, 4] rfl (ww_sub [0, 1, 2] rfl rfl (ih_26 (n1 + 1) (rw * 6) g2 (by omega) (by rw [pow6_s]; omega) (by omega)))
                · have zc_11 : ((r2 : Nat) : Int) < ((rw : Nat) : Int) := i_nle (nI_toInt (n := rw) (by omega)) (nI_toInt (n := r2) (by omega)) c_11
                  refine ww_aload_n C dX12_fewest_41 3 rfl rfl ?_
                  refine ww_iload C dX12_fewest_42 0 rfl ?_
                  refine ww_iload_n C dX12_fewest_44 1 rfl rfl ?_
                  refine ww_ci (wr := []) (k' := 0) (n' := 0) C (run_V (As := [.int (nI r2), .int (nI n1)]) (rest := []) C (r_allKnow X.2.1 E ro hm r2 n1 m_manys m_reals m_factsOf m_possible q_undos q_models m_tape q_taped q_fault q_wrong q_wrongAt q_spot q_place q_token q_value m_ends m_letters m_actOf m_whom m_actMany m_tokens m_afters m_afterOf q_counted m_pile m_caseMany m_happen m_hasIf m_becomes m_goneOf m_heard m_pairs m_heaps q_rounds q_heapMany m_led m_newAt m_knowing m_firsts q_people m_secrets m_tried m_lanes m_lengths m_cells f_secrets g2 (by omega) (by omega) (by omega)) mi_X12_allKnow wl_X12_338 rfl 0 12 rfl rfl rfl rfl rfl dX12_fewest_45) (roK hro) [0, 1, 2] [] rfl rfl rfl rfl (fun r_12 uz hw => ?_)
                  rcases hw with hw | hw
                  · refine ex1 hw ?_
                    clear hw
                    intro f_triedz_13 hw
                    refine an1 hw ?_
                    clear hw
                    intro he_14 hw
                    have he_15 := hw
                    clear hw
                    have he_14 := he_14.symm
                    subst he_14
                    subst he_15
                    refine ww_eq (ws' := [(hm, .inr (12, [.ref m_manys, .ref m_reals, .ref m_factsOf, .ref m_possible, .int (nI q_undos), .int (nI q_models), .ref m_tape, .int (nI q_taped), .int q_fault, .int q_wrong, .int q_wrongAt, .int q_spot, .int q_place, .int q_token, .int q_value, .ref m_ends, .ref m_letters, .ref m_actOf, .ref m_whom, .ref m_actMany, .ref m_tokens, .ref m_afters, .ref m_afterOf, .int q_counted, .ref m_pile, .ref m_caseMany, .ref m_happen, .ref m_hasIf, .ref m_becomes, .ref m_goneOf, .ref m_heard, .ref m_pairs, .ref m_heaps, .int q_rounds, .int q_heapMany, .ref m_led, .ref m_newAt, .ref m_knowing, .ref m_firsts, .int (nI q_people), .ref m_secrets, .ref m_tried, .ref m_lanes, .ref m_lengths, .ref m_cells])), (m_secrets, .inl (E.2.1 1, 4, .inl f_secrets)), (m_tried, .inl (E.2.1 1, 4, .inl f_triedz_13))]) ?_ rfl rfl rfl
                    refine ww_if_eq_f (tgt := 115) C dX12_fewest_48 (by decide) (by decide) ?_
                    refine ww_iload_n C dX12_fewest_51 1 rfl rfl ?_
                    refine ww_if_ne (tgt := 59) C dX12_fewest_52 (by decide) (fun c_19 => ?_) (fun c_19 => ?_)
                    · have zc_19 : ((n1 : Nat) : Int) ≠ 0 := i_ne (nI_toInt (n := n1) (by omega)) rfl c_19
                      have hp1 := pow6_pos (n1 - 1)
                      have hps := pow6_s (n1 - 1)
                      rw [show n1 - 1 + 1 = n1 by omega] at hps
                      have hp7 := pow6_le (m := n1) (by omega)
                      refine ww_iload C dX12_fewest_59 0 rfl ?_
                      refine ww_iload_n C dX12_fewest_61 2 rfl rfl ?_
                      refine ww_bipush (v := 6) C dX12_fewest_62 rfl ?_
                      refine ww_idiv (v := (nI (rw / 6))) C dX12_fewest_64 (by decide) (pk_div (a := rw) (d := 6) (by omega) (by decide) (by decide)) ?_
                      obtain ⟨z_20, ez_20⟩ : ∃ z : Nat, r2 / (rw / 6) = z := ⟨_, rfl⟩
                      have hlez_20 : z_20 ≤ r2 := by rw [← ez_20]; exact Nat.div_le_self _ _
                      refine ww_idiv (v := (nI z_20)) C dX12_fewest_65 (nI_n0 (by omega) (by omega)) (by rw [pk_div (a := r2) (d := (rw / 6)) (by omega) (by omega) (by omega), ez_20]) ?_
                      refine ww_istore (lv' := [(5, .int (nI z_20)), (4, .int (nI r2)), (3, .int (nI n1)), (2, .int (nI rw)), (0, .ref hm), (1, .int v0)]) C dX12_fewest_66 rfl rfl ?_
                      refine ww_iload_n C dX12_fewest_68 5 rfl rfl ?_
                      refine ww_if_ne (tgt := 76) C dX12_fewest_69 (by decide) (fun c_21 => ?_) (fun c_21 => ?_)
                      · have zc_21 : v0.toInt ≠ 0 := i_ne rfl rfl c_21
                        refine ww_iload_n C dX12_fewest_76 2 rfl rfl ?_
                        refine ww_if_ne (tgt := 85) C dX12_fewest_77 (by decide) (fun c_22 => ?_) (fun c_22 => ?_)
                        · have zc_22 : ((n1 : Nat) : Int) ≠ 0 := i_ne (nI_toInt (n := n1) (by omega)) rfl c_22
                          refine ww_iload C dX12_fewest_85 0 rfl ?_
                          refine ww_iconst (v := 3) C dX12_fewest_87 rfl ?_
                          refine ww_icmp_ge (tgt := 98) C dX12_fewest_88 (by decide) (fun c_23 => ?_) (fun c_23 => ?_)
                          · have zc_23 : ((z_20 : Nat) : Int) ≥ 3 := i_le rfl (nI_toInt (n := z_20) (by omega)) c_23
                            refine ww_iload C dX12_fewest_98 0 rfl ?_
                            refine ww_iconst (v := 5) C dX12_fewest_100 rfl ?_
                            refine ww_icmp_ge (tgt := 112) C dX12_fewest_101 (by decide) (fun c_24 => ?_) (fun c_24 => ?_)
                            · have zc_24 : ((z_20 : Nat) : Int) ≥ 5 := i_le rfl (nI_toInt (n := z_20) (by omega)) c_24
                              refine ww_bipush (v := 23) C dX12_fewest_112 rfl ?_
                              exact ww_iret (u := [(hm, .inr (12, [.ref m_manys, .ref m_reals, .ref m_factsOf, .ref m_possible, .int (nI q_undos), .int (nI q_models), .ref m_tape, .int (nI q_taped), .int q_fault, .int q_wrong, .int q_wrongAt, .int q_spot, .int q_place, .int q_token, .int q_value, .ref m_ends, .ref m_letters, .ref m_actOf, .ref m_whom, .ref m_actMany, .ref m_tokens, .ref m_afters, .ref m_afterOf, .int q_counted, .ref m_pile, .ref m_caseMany, .ref m_happen, .ref m_hasIf, .ref m_becomes, .ref m_goneOf, .ref m_heard, .ref m_pairs, .ref m_heaps, .int q_rounds, .int q_heapMany, .ref m_led, .ref m_newAt, .ref m_knowing, .ref m_firsts, .int (nI q_people), .ref m_secrets, .ref m_tried, .ref m_lanes, .ref m_lengths, .ref m_cells])), (m_secrets, .inl (E.2.1 1, 4, .inl f_secrets)), (m_tried, .inl (E.2.1 1, 4, .inl f_triedz_13))]) C hT [0, 1, 2] rfl rfl rfl rfl dX12_fewest_114 (⟨f_triedz_13, rfl⟩)
                            · have zc_24 : ((z_20 : Nat) : Int) < 5 := i_nle rfl (nI_toInt (n := z_20) (by omega)) c_24
                              refine ww_iload C dX12_fewest_104 0 rfl ?_
                              refine ww_bipush (v := 9) C dX12_fewest_106 rfl ?_
                              refine ww_iadd (v := (nI (z_20 + 9))) C dX12_fewest_108 (nI_add z_20 9) ?_
                              refine ww_goto (tgt := 114) C dX12_fewest_109 (by decide) ?_
                              exact ww_iret (u := [(hm, .inr (12, [.ref m_manys, .ref m_reals, .ref m_factsOf, .ref m_possible, .int (nI q_undos), .int (nI q_models), .ref m_tape, .int (nI q_taped), .int q_fault, .int q_wrong, .int q_wrongAt, .int q_spot, .int q_place, .int q_token, .int q_value, .ref m_ends, .ref m_letters, .ref m_actOf, .ref m_whom, .ref m_actMany, .ref m_tokens, .ref m_afters, .ref m_afterOf, .int q_counted, .ref m_pile, .ref m_caseMany, .ref m_happen, .ref m_hasIf, .ref m_becomes, .ref m_goneOf, .ref m_heard, .ref m_pairs, .ref m_heaps, .int q_rounds, .int q_heapMany, .ref m_led, .ref m_newAt, .ref m_knowing, .ref m_firsts, .int (nI q_people), .ref m_secrets, .ref m_tried, .ref m_lanes, .ref m_lengths, .ref m_cells])), (m_secrets, .inl (E.2.1 1, 4, .inl f_secrets)), (m_tried, .inl (E.2.1 1, 4, .inl f_triedz_13))]) C hT [0, 1, 2] rfl rfl rfl rfl dX12_fewest_114 (⟨f_triedz_13, rfl⟩)
                          · have zc_23 : ((z_20 : Nat) : Int) < 3 := i_nle rfl (nI_toInt (n := z_20) (by omega)) c_23
                            refine ww_iload C dX12_fewest_91 0 rfl ?_
                            refine ww_iconst (v := 1) C dX12_fewest_93 rfl ?_
                            refine ww_iadd (v := (nI (z_20 + 1))) C dX12_fewest_94 (nI_add z_20 1) ?_
                            refine ww_goto (tgt := 114) C dX12_fewest_95 (by decide) ?_
                            exact ww_iret (u := [(hm, .inr (12, [.ref m_manys, .ref m_reals, .ref m_factsOf, .ref m_possible, .int (nI q_undos), .int (nI q_models), .ref m_tape, .int (nI q_taped), .int q_fault, .int q_wrong, .int q_wrongAt, .int q_spot, .int q_place, .int q_token, .int q_value, .ref m_ends, .ref m_letters, .ref m_actOf, .ref m_whom, .ref m_actMany, .ref m_tokens, .ref m_afters, .ref m_afterOf, .int q_counted, .ref m_pile, .ref m_caseMany, .ref m_happen, .ref m_hasIf, .ref m_becomes, .ref m_goneOf, .ref m_heard, .ref m_pairs, .ref m_heaps, .int q_rounds, .int q_heapMany, .ref m_led, .ref m_newAt, .ref m_knowing, .ref m_firsts, .int (nI q_people), .ref m_secrets, .ref m_tried, .ref m_lanes, .ref m_lengths, .ref m_cells])), (m_secrets, .inl (E.2.1 1, 4, .inl f_secrets)), (m_tried, .inl (E.2.1 1, 4, .inl f_triedz_13))]) C hT [0, 1, 2] rfl rfl rfl rfl dX12_fewest_114 (⟨f_triedz_13, rfl⟩)
                        · have zc_22 : ((n1 : Nat) : Int) = 0 := i_eq (nI_toInt (n := n1) (by omega)) rfl c_22
                          refine ww_bipush (v := (-4)) C dX12_fewest_80 rfl ?_
                          refine ww_goto (tgt := 114) C dX12_fewest_82 (by decide) ?_
                          exact ww_iret (u := [(hm, .inr (12, [.ref m_manys, .ref m_reals, .ref m_factsOf, .ref m_possible, .int (nI q_undos), .int (nI q_models), .ref m_tape, .int (nI q_taped), .int q_fault, .int q_wrong, .int q_wrongAt, .int q_spot, .int q_place, .int q_token, .int q_value, .ref m_ends, .ref m_letters, .ref m_actOf, .ref m_whom, .ref m_actMany, .ref m_tokens, .ref m_afters, .ref m_afterOf, .int q_counted, .ref m_pile, .ref m_caseMany, .ref m_happen, .ref m_hasIf, .ref m_becomes, .ref m_goneOf, .ref m_heard, .ref m_pairs, .ref m_heaps, .int q_rounds, .int q_heapMany, .ref m_led, .ref m_newAt, .ref m_knowing, .ref m_firsts, .int (nI q_people), .ref m_secrets, .ref m_tried, .ref m_lanes, .ref m_lengths, .ref m_cells])), (m_secrets, .inl (E.2.1 1, 4, .inl f_secrets)), (m_tried, .inl (E.2.1 1, 4, .inl f_triedz_13))]) C hT [0, 1, 2] rfl rfl rfl rfl dX12_fewest_114 (⟨f_triedz_13, rfl⟩)
                      · have zc_21 : v0.toInt = 0 := i_eq rfl rfl c_21
                        refine ww_iload_n C dX12_fewest_72 2 rfl rfl ?_
                        refine ww_goto (tgt := 114) C dX12_fewest_73 (by decide) ?_
                        exact ww_iret (u := [(hm, .inr (12, [.ref m_manys, .ref m_reals, .ref m_factsOf, .ref m_possible, .int (nI q_undos), .int (nI q_models), .ref m_tape, .int (nI q_taped), .int q_fault, .int q_wrong, .int q_wrongAt, .int q_spot, .int q_place, .int q_token, .int q_value, .ref m_ends, .ref m_letters, .ref m_actOf, .ref m_whom, .ref m_actMany, .ref m_tokens, .ref m_afters, .ref m_afterOf, .int q_counted, .ref m_pile, .ref m_caseMany, .ref m_happen, .ref m_hasIf, .ref m_becomes, .ref m_goneOf, .ref m_heard, .ref m_pairs, .ref m_heaps, .int q_rounds, .int q_heapMany, .ref m_led, .ref m_newAt, .ref m_knowing, .ref m_firsts, .int (nI q_people), .ref m_secrets, .ref m_tried, .ref m_lanes, .ref m_lengths, .ref m_cells])), (m_secrets, .inl (E.2.1 1, 4, .inl f_secrets)), (m_tried, .inl (E.2.1 1, 4, .inl f_triedz_13))]) C hT [0, 1, 2] rfl rfl rfl rfl dX12_fewest_114 (⟨f_triedz_13, rfl⟩)
                    · have zc_19 : ((n1 : Nat) : Int) = 0 := i_eq (nI_toInt (n := n1) (by omega)) rfl c_19
                      refine ww_iconst (v := 0) C dX12_fewest_55 rfl ?_
                      refine ww_goto (tgt := 66) C dX12_fewest_56 (by decide) ?_
                      refine ww_istore (lv' := [(5, .int 0), (4, .int (nI r2)), (3, .int (nI n1)), (2, .int (nI rw)), (0, .ref hm), (1, .int v0)]) C dX12_fewest_66 rfl rfl ?_
                      refine ww_iload_n C dX12_fewest_68 5 rfl rfl ?_
                      refine ww_if_ne (tgt := 76) C dX12_fewest_69 (by decide) (fun c_25 => ?_) (fun c_25 => ?_)
                      · have zc_25 : v0.toInt ≠ 0 := i_ne rfl rfl c_25
                        refine ww_iload_n C dX12_fewest_76 2 rfl rfl ?_
                        refine ww_if_ne (tgt := 85) C dX12_fewest_77 (by decide) (fun c_26 => ?_) (fun c_26 => ?_)
                        · have zc_26 : ((n1 : Nat) : Int) ≠ 0 := i_ne (nI_toInt (n := n1) (by omega)) rfl c_26
                          omega
                        · have zc_26 : ((n1 : Nat) : Int) = 0 := i_eq (nI_toInt (n := n1) (by omega)) rfl c_26
                          refine ww_bipush (v := (-4)) C dX12_fewest_80 rfl ?_
                          refine ww_goto (tgt := 114) C dX12_fewest_82 (by decide) ?_
                          exact ww_iret (u := [(hm, .inr (12, [.ref m_manys, .ref m_reals, .ref m_factsOf, .ref m_possible, .int (nI q_undos), .int (nI q_models), .ref m_tape, .int (nI q_taped), .int q_fault, .int q_wrong, .int q_wrongAt, .int q_spot, .int q_place, .int q_token, .int q_value, .ref m_ends, .ref m_letters, .ref m_actOf, .ref m_whom, .ref m_actMany, .ref m_tokens, .ref m_afters, .ref m_afterOf, .int q_counted, .ref m_pile, .ref m_caseMany, .ref m_happen, .ref m_hasIf, .ref m_becomes, .ref m_goneOf, .ref m_heard, .ref m_pairs, .ref m_heaps, .int q_rounds, .int q_heapMany, .ref m_led, .ref m_newAt, .ref m_knowing, .ref m_firsts, .int (nI q_people), .ref m_secrets, .ref m_tried, .ref m_lanes, .ref m_lengths, .ref m_cells])), (m_secrets, .inl (E.2.1 1, 4, .inl f_secrets)), (m_tried, .inl (E.2.1 1, 4, .inl f_triedz_13))]) C hT [0, 1, 2] rfl rfl rfl rfl dX12_fewest_114 (⟨f_triedz_13, rfl⟩)
                      · have zc_25 : v0.toInt = 0 := i_eq rfl rfl c_25
                        refine ww_iload_n C dX12_fewest_72 2 rfl rfl ?_
                        refine ww_goto (tgt := 114) C dX12_fewest_73 (by decide) ?_
                        exact ww_iret (u := [(hm, .inr (12, [.ref m_manys, .ref m_reals, .ref m_factsOf, .ref m_possible, .int (nI q_undos), .int (nI q_models), .ref m_tape, .int (nI q_taped), .int q_fault, .int q_wrong, .int q_wrongAt, .int q_spot, .int q_place, .int q_token, .int q_value, .ref m_ends, .ref m_letters, .ref m_actOf, .ref m_whom, .ref m_actMany, .ref m_tokens, .ref m_afters, .ref m_afterOf, .int q_counted, .ref m_pile, .ref m_caseMany, .ref m_happen, .ref m_hasIf, .ref m_becomes, .ref m_goneOf, .ref m_heard, .ref m_pairs, .ref m_heaps, .int q_rounds, .int q_heapMany, .ref m_led, .ref m_newAt, .ref m_knowing, .ref m_firsts, .int (nI q_people), .ref m_secrets, .ref m_tried, .ref m_lanes, .ref m_lengths, .ref m_cells])), (m_secrets, .inl (E.2.1 1, 4, .inl f_secrets)), (m_tried, .inl (E.2.1 1, 4, .inl f_triedz_13))]) C hT [0, 1, 2] rfl rfl rfl rfl dX12_fewest_114 (⟨f_triedz_13, rfl⟩)
                  · refine ex1 hw ?_
                    clear hw
                    intro f_triedz_16 hw
                    refine an1 hw ?_
                    clear hw
                    intro he_17 hw
                    have he_18 := hw
                    clear hw
                    have he_17 := he_17.symm
                    subst he_17
                    subst he_18
                    refine ww_eq (ws' := [(hm, .inr (12, [.ref m_manys, .ref m_reals, .ref m_factsOf, .ref m_possible, .int (nI q_undos), .int (nI q_models), .ref m_tape, .int (nI q_taped), .int q_fault, .int q_wrong, .int q_wrongAt, .int q_spot, .int q_place, .int q_token, .int q_value, .ref m_ends, .ref m_letters, .ref m_actOf, .ref m_whom, .ref m_actMany, .ref m_tokens, .ref m_afters, .ref m_afterOf, .int q_counted, .ref m_pile, .ref m_caseMany, .ref m_happen, .ref m_hasIf, .ref m_becomes, .ref m_goneOf, .ref m_heard, .ref m_pairs, .ref m_heaps, .int q_rounds, .int q_heapMany, .ref m_led, .ref m_newAt, .ref m_knowing, .ref m_firsts, .int (nI q_people), .ref m_secrets, .ref m_tried, .ref m_lanes, .ref m_lengths, .ref m_cells])), (m_secrets, .inl (E.2.1 1, 4, .inl f_secrets)), (m_tried, .inl (E.2.1 1, 4, .inl f_triedz_16))]) ?_ rfl rfl rfl
                    refine ww_if_eq_t (tgt := 115) C dX12_fewest_48 (by decide) (rfl) ?_
                    refine ww_iinc (j := 0) (v := (nI (r2 + 1))) (lv' := [(4, .int (nI (r2 + 1))), (3, .int (nI n1)), (2, .int (nI rw)), (0, .ref hm), (1, .int v0)]) C dX12_fewest_115 rfl (nI_add r2 1) rfl rfl ?_
                    refine ww_goto (tgt := 35) C dX12_fewest_118 (by decide) ?_
                    exact ww_lv [0, 1, 2, 3, 4] rfl (ww_sub [0, 1, 2] rfl rfl (ih_35 (r2 + 1) f_triedz_16 (by omega) (by omega)))
            exact ww_lv [0, 1, 2, 3, 4] rfl (ww_sub [0, 1, 2] rfl rfl (loop_35 _ 0 g1 (by omega) (Nat.lt_succ_self _)))
      exact ww_lv [0, 1, 2, 3] rfl (ww_sub [0, 1, 2] rfl rfl (loop_26 _ 0 1 f_tried (by omega) rfl (Nat.lt_succ_self _)))
    · have zc_9 : ((q_people : Nat) : Int) = 0 := i_eq (nI_toInt (n := q_people) (by omega)) rfl c_9
      refine ww_bipush (v := (-2)) C dX12_fewest_19 rfl ?_
      exact ww_iret (u := [(hm, .inr (12, [.ref m_manys, .ref m_reals, .ref m_factsOf, .ref m_possible, .int (nI q_undos), .int (nI q_models), .ref m_tape, .int (nI q_taped), .int q_fault, .int q_wrong, .int q_wrongAt, .int q_spot, .int q_place, .int q_token, .int q_value, .ref m_ends, .ref m_letters, .ref m_actOf, .ref m_whom, .ref m_actMany, .ref m_tokens, .ref m_afters, .ref m_afterOf, .int q_counted, .ref m_pile, .ref m_caseMany, .ref m_happen, .ref m_hasIf, .ref m_becomes, .ref m_goneOf, .ref m_heard, .ref m_pairs, .ref m_heaps, .int q_rounds, .int q_heapMany, .ref m_led, .ref m_newAt, .ref m_knowing, .ref m_firsts, .int (nI q_people), .ref m_secrets, .ref m_tried, .ref m_lanes, .ref m_lengths, .ref m_cells])), (m_secrets, .inl (E.2.1 1, 4, .inl f_secrets)), (m_tried, .inl (E.2.1 1, 4, .inl f_tried))]) C hT [0, 1, 2] rfl rfl rfl rfl dX12_fewest_21 (⟨f_tried, rfl⟩)
  · refine an2 hw ?_
    clear hw
    intro he_7 he_8 hw
    have h_6 := hw
    clear hw
    have he_7 := he_7.symm
    subst he_7
    subst he_8
    refine ww_eq (ws' := [(hm, .inr (12, [.ref m_manys, .ref m_reals, .ref m_factsOf, .ref m_possible, .int (nI q_undos), .int (nI q_models), .ref m_tape, .int (nI q_taped), .int q_fault, .int q_wrong, .int q_wrongAt, .int q_spot, .int q_place, .int q_token, .int q_value, .ref m_ends, .ref m_letters, .ref m_actOf, .ref m_whom, .ref m_actMany, .ref m_tokens, .ref m_afters, .ref m_afterOf, .int q_counted, .ref m_pile, .ref m_caseMany, .ref m_happen, .ref m_hasIf, .ref m_becomes, .ref m_goneOf, .ref m_heard, .ref m_pairs, .ref m_heaps, .int q_rounds, .int q_heapMany, .ref m_led, .ref m_newAt, .ref m_knowing, .ref m_firsts, .int (nI q_people), .ref m_secrets, .ref m_tried, .ref m_lanes, .ref m_lengths, .ref m_cells])), (m_secrets, .inl (E.2.1 1, 4, .inl f_secrets)), (m_tried, .inl (E.2.1 1, 4, .inl f_tried))]) ?_ rfl rfl rfl
    refine ww_if_ne_f (tgt := 12) C dX12_fewest_7 (by decide) (rfl) ?_
    refine ww_iconst (v := (-1)) C dX12_fewest_10 rfl ?_
    exact ww_iret (u := [(hm, .inr (12, [.ref m_manys, .ref m_reals, .ref m_factsOf, .ref m_possible, .int (nI q_undos), .int (nI q_models), .ref m_tape, .int (nI q_taped), .int q_fault, .int q_wrong, .int q_wrongAt, .int q_spot, .int q_place, .int q_token, .int q_value, .ref m_ends, .ref m_letters, .ref m_actOf, .ref m_whom, .ref m_actMany, .ref m_tokens, .ref m_afters, .ref m_afterOf, .int q_counted, .ref m_pile, .ref m_caseMany, .ref m_happen, .ref m_hasIf, .ref m_becomes, .ref m_goneOf, .ref m_heard, .ref m_pairs, .ref m_heaps, .int q_rounds, .int q_heapMany, .ref m_led, .ref m_newAt, .ref m_knowing, .ref m_firsts, .int (nI q_people), .ref m_secrets, .ref m_tried, .ref m_lanes, .ref m_lengths, .ref m_cells])), (m_secrets, .inl (E.2.1 1, 4, .inl f_secrets)), (m_tried, .inl (E.2.1 1, 4, .inl f_tried))]) C hT [0, 1, 2] rfl rfl rfl rfl dX12_fewest_11 (⟨f_tried, rfl⟩)
