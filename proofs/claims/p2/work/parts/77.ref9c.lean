theorem dX12_keep_0 : decode cX12_keep 0 = .ok (.aload_n 0, 1) := by decide +kernel
theorem dX12_keep_1 : decode cX12_keep 1 = .ok (.getfield 7, 3) := by decide +kernel
theorem dX12_keep_4 : decode cX12_keep 4 = .ok (.iconst 0, 1) := by decide +kernel
theorem dX12_keep_5 : decode cX12_keep 5 = .ok (.iaload, 1) := by decide +kernel
theorem dX12_keep_6 : decode cX12_keep 6 = .ok (.ifCond .ne 6, 3) := by decide +kernel
theorem dX12_keep_12 : decode cX12_keep 12 = .ok (.aload_n 0, 1) := by decide +kernel
theorem dX12_keep_13 : decode cX12_keep 13 = .ok (.getfield 304, 3) := by decide +kernel
theorem wf_X12_304 : Cond.fieldLink RX12 304 RX12 "models" "I" ∈ TB := tbm (tq5 (List.mem_of_getElem? (i := 83) (by decide +kernel))) (by decide +kernel)
theorem fg_X12_304 : FG RX12 304 12 5 := ⟨RX12, TX12, 45, uw_X12, wf_X12_304, rfl, by decide, rfl⟩
theorem dX12_keep_16 : decode cX12_keep 16 = .ok (.iconst 4, 1) := by decide +kernel
theorem dX12_keep_17 : decode cX12_keep 17 = .ok (.if_icmp .ne 6, 3) := by decide +kernel
theorem dX12_keep_23 : decode cX12_keep 23 = .ok (.aload_n 0, 1) := by decide +kernel
theorem dX12_keep_24 : decode cX12_keep 24 = .ok (.iconst 0, 1) := by decide +kernel
theorem dX12_keep_25 : decode cX12_keep 25 = .ok (.bipush 6, 2) := by decide +kernel
theorem dX12_keep_27 : decode cX12_keep 27 = .ok (.aload_n 0, 1) := by decide +kernel
theorem dX12_keep_28 : decode cX12_keep 28 = .ok (.getfield 304, 3) := by decide +kernel
theorem dX12_keep_31 : decode cX12_keep 31 = .ok (.iadd, 1) := by decide +kernel
theorem dX12_keep_32 : decode cX12_keep 32 = .ok (.invokevirtual 109, 3) := by decide +kernel
theorem dX12_keep_35 : decode cX12_keep 35 = .ok (.aload_n 0, 1) := by decide +kernel
theorem dX12_keep_36 : decode cX12_keep 36 = .ok (.dup, 1) := by decide +kernel
theorem dX12_keep_37 : decode cX12_keep 37 = .ok (.getfield 304, 3) := by decide +kernel
theorem dX12_keep_40 : decode cX12_keep 40 = .ok (.iconst 1, 1) := by decide +kernel
theorem dX12_keep_41 : decode cX12_keep 41 = .ok (.iadd, 1) := by decide +kernel
theorem dX12_keep_42 : decode cX12_keep 42 = .ok (.putfield 304, 3) := by decide +kernel
theorem fp_X12_304 : FP RX12 304 12 5 .int false := ⟨RX12, TX12, 45, tyX12, uw_X12, wf_X12_304, rfl, by decide, rfl, tyX12_ok, nmX12, rfl, by decide +kernel⟩
theorem dX12_keep_45 : decode cX12_keep 45 = .ok (.aload_n 0, 1) := by decide +kernel
theorem dX12_keep_46 : decode cX12_keep 46 = .ok (.getfield 304, 3) := by decide +kernel
theorem dX12_keep_49 : decode cX12_keep 49 = .ok (.iconst 1, 1) := by decide +kernel
theorem dX12_keep_50 : decode cX12_keep 50 = .ok (.isub, 1) := by decide +kernel
theorem dX12_keep_51 : decode cX12_keep 51 = .ok (.ireturn, 1) := by decide +kernel
theorem dX12_keep_20 : decode cX12_keep 20 = .ok (.bipush (-3), 2) := by decide +kernel
theorem dX12_keep_22 : decode cX12_keep 22 = .ok (.ireturn, 1) := by decide +kernel
theorem dX12_keep_9 : decode cX12_keep 9 = .ok (.bipush (-2), 2) := by decide +kernel
theorem dX12_keep_11 : decode cX12_keep 11 = .ok (.ireturn, 1) := by decide +kernel
set_option maxRecDepth 100000 in
set_option maxHeartbeats 4000000 in
theorem y_keep (l : Launch) (E : EV) (ro : va_W) (hm : Nat) (m_manys : Nat) (m_reals : Nat) (m_factsOf : Nat) (m_possible : Nat) (q_undos : Nat) (q_models : Nat) (m_tape : Nat) (q_taped : Nat) (q_fault : Int32) (q_wrong : Int32) (q_wrongAt : Int32) (q_spot : Int32) (q_place : Int32) (q_token : Int32) (q_value : Int32) (m_ends : Nat) (m_letters : Nat) (m_actOf : Nat) (m_whom : Nat) (m_actMany : Nat) (m_tokens : Nat) (m_afters : Nat) (m_afterOf : Nat) (q_counted : Int32) (m_pile : Nat) (m_caseMany : Nat) (m_happen : Nat) (m_hasIf : Nat) (m_becomes : Nat) (m_goneOf : Nat) (m_heard : Nat) (m_pairs : Nat) (m_heaps : Nat) (q_rounds : Int32) (q_heapMany : Int32) (m_led : Nat) (m_newAt : Nat) (m_knowing : Nat) (m_firsts : Nat) (q_people : Nat) (m_secrets : Nat) (m_tried : Nat) (m_lanes : Nat) (m_lengths : Nat) (m_cells : Nat) (f_manys : Nat → Int32) (f_reals : Nat → Int32) (f_factsOf : Nat → Int32) (f_possible : Nat → Int32) (hb_manys : NB 18 24 f_manys) (hb_reals : NB 18 23 f_reals) (hpg : PG f_manys f_reals) (hwf : WFP (pgs f_manys f_reals f_factsOf f_possible)) (hq_models : q_models ≤ 4) : CT l yX12_keep (Cond.code yX12_keep cX12_keep 1 (some .int) :: TB) ({ frames := 1, cells := 0, slots := 0, locals := 23 }) E ro [.ref hm] [(hm, .inr (12, [.ref m_manys, .ref m_reals, .ref m_factsOf, .ref m_possible, .int (nI q_undos), .int (nI q_models), .ref m_tape, .int (nI q_taped), .int q_fault, .int q_wrong, .int q_wrongAt, .int q_spot, .int q_place, .int q_token, .int q_value, .ref m_ends, .ref m_letters, .ref m_actOf, .ref m_whom, .ref m_actMany, .ref m_tokens, .ref m_afters, .ref m_afterOf, .int q_counted, .ref m_pile, .ref m_caseMany, .ref m_happen, .ref m_hasIf, .ref m_becomes, .ref m_goneOf, .ref m_heard, .ref m_pairs, .ref m_heaps, .int q_rounds, .int q_heapMany, .ref m_led, .ref m_newAt, .ref m_knowing, .ref m_firsts, .int (nI q_people), .ref m_secrets, .ref m_tried, .ref m_lanes, .ref m_lengths, .ref m_cells])), (m_manys, .inl (E.2.1 1, 18, .inl f_manys)), (m_reals, .inl (E.2.1 1, 18, .inl f_reals)), (m_factsOf, .inl (E.2.1 1, 432, .inl f_factsOf)), (m_possible, .inl (E.2.1 1, 1728, .inl f_possible))] (Qi E (fun (rz : Int32) uz => (∃ (mz_ : Nat) (f_manysz : Nat → Int32) (f_realsz : Nat → Int32) (f_factsOfz : Nat → Int32) (f_possiblez : Nat → Int32), uz = [(hm, .inr (12, [.ref m_manys, .ref m_reals, .ref m_factsOf, .ref m_possible, .int (nI q_undos), .int (nI mz_), .ref m_tape, .int (nI q_taped), .int q_fault, .int q_wrong, .int q_wrongAt, .int q_spot, .int q_place, .int q_token, .int q_value, .ref m_ends, .ref m_letters, .ref m_actOf, .ref m_whom, .ref m_actMany, .ref m_tokens, .ref m_afters, .ref m_afterOf, .int q_counted, .ref m_pile, .ref m_caseMany, .ref m_happen, .ref m_hasIf, .ref m_becomes, .ref m_goneOf, .ref m_heard, .ref m_pairs, .ref m_heaps, .int q_rounds, .int q_heapMany, .ref m_led, .ref m_newAt, .ref m_knowing, .ref m_firsts, .int (nI q_people), .ref m_secrets, .ref m_tried, .ref m_lanes, .ref m_lengths, .ref m_cells])), (m_manys, .inl (E.2.1 1, 18, .inl f_manysz)), (m_reals, .inl (E.2.1 1, 18, .inl f_realsz)), (m_factsOf, .inl (E.2.1 1, 432, .inl f_factsOfz)), (m_possible, .inl (E.2.1 1, 1728, .inl f_possiblez))] ∧ (NB 18 24 f_manysz) ∧ (NB 18 23 f_realsz) ∧ (PG f_manysz f_realsz) ∧ (WFP (pgs f_manysz f_realsz f_factsOfz f_possiblez)) ∧ (mz_ ≤ 4) ∧ (KPx (cN f_manys 0) q_models mz_ (pgs f_manys f_reals f_factsOf f_possible 0) (fun j => pgs f_manys f_reals f_factsOf f_possible (6 + j)) (fun j => pgs f_manysz f_realsz f_factsOfz f_possiblez (6 + j)) rz) ∧ (KPU (pgs f_manys f_reals f_factsOf f_possible) (pgs f_manysz f_realsz f_factsOfz f_possiblez))))) 0 0 := by
  refine ct_of rfl rfl ?_
  intro X C hT hin hro
  show WW X 1 E 0 [(0, .ref hm)] [] [(hm, .inr (12, [.ref m_manys, .ref m_reals, .ref m_factsOf, .ref m_possible, .int (nI q_undos), .int (nI q_models), .ref m_tape, .int (nI q_taped), .int q_fault, .int q_wrong, .int q_wrongAt, .int q_spot, .int q_place, .int q_token, .int q_value, .ref m_ends, .ref m_letters, .ref m_actOf, .ref m_whom, .ref m_actMany, .ref m_tokens, .ref m_afters, .ref m_afterOf, .int q_counted, .ref m_pile, .ref m_caseMany, .ref m_happen, .ref m_hasIf, .ref m_becomes, .ref m_goneOf, .ref m_heard, .ref m_pairs, .ref m_heaps, .int q_rounds, .int q_heapMany, .ref m_led, .ref m_newAt, .ref m_knowing, .ref m_firsts, .int (nI q_people), .ref m_secrets, .ref m_tried, .ref m_lanes, .ref m_lengths, .ref m_cells])), (m_manys, .inl (E.2.1 1, 18, .inl f_manys)), (m_reals, .inl (E.2.1 1, 18, .inl f_reals)), (m_factsOf, .inl (E.2.1 1, 432, .inl f_factsOf)), (m_possible, .inl (E.2.1 1, 1728, .inl f_possible))] 0 0
  have hmn0 := (hb_manys 0 (by omega)).2
  refine ww_aload_n C dX12_keep_0 0 rfl rfl ?_
  refine ww_get C fg_X12_7 0 rfl rfl dX12_keep_1 ?_
  refine ww_iconst (v := 0) C dX12_keep_4 rfl ?_
  have hbx_1 := (hb_manys 0 (by omega)).2
  refine ww_iald (v := (nI (cN f_manys 0))) C 1 rfl (vin rfl) (hb_manys 0 (by omega)).1 dX12_keep_5 ?_
  refine ww_if_ne (tgt := 12) C dX12_keep_6 (by decide) (fun c_2 => ?_) (fun c_2 => ?_)
  · have zc_2 : ((cN f_manys 0 : Nat) : Int) ≠ 0 := i_ne (nI_toInt (n := cN f_manys 0) (by omega)) rfl c_2
    refine ww_aload_n C dX12_keep_12 0 rfl rfl ?_
    refine ww_get C fg_X12_304 0 rfl rfl dX12_keep_13 ?_
    refine ww_iconst (v := 4) C dX12_keep_16 rfl ?_
    refine ww_icmp_ne (tgt := 23) C dX12_keep_17 (by decide) (fun c_3 => ?_) (fun c_3 => ?_)
    · have zc_3 : ((q_models : Nat) : Int) ≠ 4 := i_ne (nI_toInt (n := q_models) (by omega)) rfl c_3
      refine ww_aload_n C dX12_keep_23 0 rfl rfl ?_
      refine ww_iconst (v := 0) C dX12_keep_24 rfl ?_
      refine ww_bipush (v := 6) C dX12_keep_25 rfl ?_
      refine ww_aload_n C dX12_keep_27 0 rfl rfl ?_
      refine ww_get C fg_X12_304 0 rfl rfl dX12_keep_28 ?_
      refine ww_iadd (v := (nI (6 + q_models))) C dX12_keep_31 (nI_add 6 q_models) ?_
      refine ww_cv (wr := []) (k' := 0) (n' := 0) C (run_V (As := [.int 0, .int (nI (6 + q_models))]) (rest := []) C (r_copy X.2.1 E ro hm 0 (6 + q_models) m_manys m_reals m_factsOf m_possible q_undos q_models m_tape q_taped q_fault q_wrong q_wrongAt q_spot q_place q_token q_value m_ends m_letters m_actOf m_whom m_actMany m_tokens m_afters m_afterOf q_counted m_pile m_caseMany m_happen m_hasIf m_becomes m_goneOf m_heard m_pairs m_heaps q_rounds q_heapMany m_led m_newAt m_knowing m_firsts q_people m_secrets m_tried m_lanes m_lengths m_cells f_manys f_reals f_factsOf f_possible hb_manys hb_reals hpg hwf (by omega) (by omega)) mi_X12_copy wl_X12_109 rfl 0 12 rfl rfl rfl rfl rfl dX12_keep_32) (roK hro) [0, 1, 2, 3, 4] [] rfl rfl rfl rfl (fun uz hw => ?_)
      refine ex4 hw ?_
      clear hw
      intro f_manysz_5 f_realsz_6 f_factsOfz_7 f_possiblez_8 hw
      refine an8 hw ?_
      clear hw
      intro he_18 h_9 h_10 h_11 h_12 h_13 h_14 h_15 hw
      refine an1 hw ?_
      clear hw
      intro h_16 hw
      have h_17 := hw
      clear hw
      subst he_18
      refine ww_eq (ws' := [(hm, .inr (12, [.ref m_manys, .ref m_reals, .ref m_factsOf, .ref m_possible, .int (nI q_undos), .int (nI q_models), .ref m_tape, .int (nI q_taped), .int q_fault, .int q_wrong, .int q_wrongAt, .int q_spot, .int q_place, .int q_token, .int q_value, .ref m_ends, .ref m_letters, .ref m_actOf, .ref m_whom, .ref m_actMany, .ref m_tokens, .ref m_afters, .ref m_afterOf, .int q_counted, .ref m_pile, .ref m_caseMany, .ref m_happen, .ref m_hasIf, .ref m_becomes, .ref m_goneOf, .ref m_heard, .ref m_pairs, .ref m_heaps, .int q_rounds, .int q_heapMany, .ref m_led, .ref m_newAt, .ref m_knowing, .ref m_firsts, .int (nI q_people), .ref m_secrets, .ref m_tried, .ref m_lanes, .ref m_lengths, .ref m_cells])), (m_manys, .inl (E.2.1 1, 18, .inl f_manysz_5)), (m_reals, .inl (E.2.1 1, 18, .inl f_realsz_6)), (m_factsOf, .inl (E.2.1 1, 432, .inl f_factsOfz_7)), (m_possible, .inl (E.2.1 1, 1728, .inl f_possiblez_8))]) ?_ rfl rfl rfl
      refine ww_aload_n C dX12_keep_35 0 rfl rfl ?_
      refine ww_dup C dX12_keep_36 rfl ?_
      refine ww_get C fg_X12_304 0 rfl rfl dX12_keep_37 ?_
      refine ww_iconst (v := 1) C dX12_keep_40 rfl ?_
      refine ww_iadd (v := (nI (q_models + 1))) C dX12_keep_41 (nI_add q_models 1) ?_
      refine ww_put (ws' := [(hm, .inr (12, [.ref m_manys, .ref m_reals, .ref m_factsOf, .ref m_possible, .int (nI q_undos), .int (nI (q_models + 1)), .ref m_tape, .int (nI q_taped), .int q_fault, .int q_wrong, .int q_wrongAt, .int q_spot, .int q_place, .int q_token, .int q_value, .ref m_ends, .ref m_letters, .ref m_actOf, .ref m_whom, .ref m_actMany, .ref m_tokens, .ref m_afters, .ref m_afterOf, .int q_counted, .ref m_pile, .ref m_caseMany, .ref m_happen, .ref m_hasIf, .ref m_becomes, .ref m_goneOf, .ref m_heard, .ref m_pairs, .ref m_heaps, .int q_rounds, .int q_heapMany, .ref m_led, .ref m_newAt, .ref m_knowing, .ref m_firsts, .int (nI q_people), .ref m_secrets, .ref m_tried, .ref m_lanes, .ref m_lengths, .ref m_cells])), (m_manys, .inl (E.2.1 1, 18, .inl f_manysz_5)), (m_reals, .inl (E.2.1 1, 18, .inl f_realsz_6)), (m_factsOf, .inl (E.2.1 1, 432, .inl f_factsOfz_7)), (m_possible, .inl (E.2.1 1, 1728, .inl f_possiblez_8))]) C fp_X12_304 0 rfl rfl rfl rfl rfl dX12_keep_42 ?_
      refine ww_aload_n C dX12_keep_45 0 rfl rfl ?_
      refine ww_get C fg_X12_304 0 rfl rfl dX12_keep_46 ?_
      refine ww_iconst (v := 1) C dX12_keep_49 rfl ?_
      refine ww_isub (v := (nI ((q_models + 1) - 1))) C dX12_keep_50 (pk_sub (a := (q_models + 1)) (b := 1) (by omega)) ?_
      exact ww_iret (u := [(hm, .inr (12, [.ref m_manys, .ref m_reals, .ref m_factsOf, .ref m_possible, .int (nI q_undos), .int (nI (q_models + 1)), .ref m_tape, .int (nI q_taped), .int q_fault, .int q_wrong, .int q_wrongAt, .int q_spot, .int q_place, .int q_token, .int q_value, .ref m_ends, .ref m_letters, .ref m_actOf, .ref m_whom, .ref m_actMany, .ref m_tokens, .ref m_afters, .ref m_afterOf, .int q_counted, .ref m_pile, .ref m_caseMany, .ref m_happen, .ref m_hasIf, .ref m_becomes, .ref m_goneOf, .ref m_heard, .ref m_pairs, .ref m_heaps, .int q_rounds, .int q_heapMany, .ref m_led, .ref m_newAt, .ref m_knowing, .ref m_firsts, .int (nI q_people), .ref m_secrets, .ref m_tried, .ref m_lanes, .ref m_lengths, .ref m_cells])), (m_manys, .inl (E.2.1 1, 18, .inl f_manysz_5)), (m_reals, .inl (E.2.1 1, 18, .inl f_realsz_6)), (m_factsOf, .inl (E.2.1 1, 432, .inl f_factsOfz_7)), (m_possible, .inl (E.2.1 1, 1728, .inl f_possiblez_8))]) C hT [0, 1, 2, 3, 4] rfl rfl rfl rfl dX12_keep_51 (⟨(q_models + 1), f_manysz_5, f_realsz_6, f_factsOfz_7, f_possiblez_8, rfl, h_9, h_10, h_11, h_12, (by omega), (Or.inr (Or.inr ⟨by omega, by omega, rfl, rfl, (show cN f_reals 0 < cN f_manys 0 by have := hpg 0 (by omega); omega), (kp_copy h_17 (by omega)).2⟩)), (kp_copy h_17 (by omega)).1⟩)
    · have zc_3 : ((q_models : Nat) : Int) = 4 := i_eq (nI_toInt (n := q_models) (by omega)) rfl c_3
      refine ww_bipush (v := (-3)) C dX12_keep_20 rfl ?_
      exact ww_iret (u := [(hm, .inr (12, [.ref m_manys, .ref m_reals, .ref m_factsOf, .ref m_possible, .int (nI q_undos), .int (nI q_models), .ref m_tape, .int (nI q_taped), .int q_fault, .int q_wrong, .int q_wrongAt, .int q_spot, .int q_place, .int q_token, .int q_value, .ref m_ends, .ref m_letters, .ref m_actOf, .ref m_whom, .ref m_actMany, .ref m_tokens, .ref m_afters, .ref m_afterOf, .int q_counted, .ref m_pile, .ref m_caseMany, .ref m_happen, .ref m_hasIf, .ref m_becomes, .ref m_goneOf, .ref m_heard, .ref m_pairs, .ref m_heaps, .int q_rounds, .int q_heapMany, .ref m_led, .ref m_newAt, .ref m_knowing, .ref m_firsts, .int (nI q_people), .ref m_secrets, .ref m_tried, .ref m_lanes, .ref m_lengths, .ref m_cells])), (m_manys, .inl (E.2.1 1, 18, .inl f_manys)), (m_reals, .inl (E.2.1 1, 18, .inl f_reals)), (m_factsOf, .inl (E.2.1 1, 432, .inl f_factsOf)), (m_possible, .inl (E.2.1 1, 1728, .inl f_possible))]) C hT [0, 1, 2, 3, 4] rfl rfl rfl rfl dX12_keep_22 (⟨q_models, f_manys, f_reals, f_factsOf, f_possible, rfl, hb_manys, hb_reals, hpg, hwf, (by omega), (Or.inr (Or.inl ⟨by omega, by omega, rfl, rfl, fun _ _ => rfl⟩)), KPU.rf⟩)
  · have zc_2 : ((cN f_manys 0 : Nat) : Int) = 0 := i_eq (nI_toInt (n := cN f_manys 0) (by omega)) rfl c_2
    refine ww_bipush (v := (-2)) C dX12_keep_9 rfl ?_
    exact ww_iret (u := [(hm, .inr (12, [.ref m_manys, .ref m_reals, .ref m_factsOf, .ref m_possible, .int (nI q_undos), .int (nI q_models), .ref m_tape, .int (nI q_taped), .int q_fault, .int q_wrong, .int q_wrongAt, .int q_spot, .int q_place, .int q_token, .int q_value, .ref m_ends, .ref m_letters, .ref m_actOf, .ref m_whom, .ref m_actMany, .ref m_tokens, .ref m_afters, .ref m_afterOf, .int q_counted, .ref m_pile, .ref m_caseMany, .ref m_happen, .ref m_hasIf, .ref m_becomes, .ref m_goneOf, .ref m_heard, .ref m_pairs, .ref m_heaps, .int q_rounds, .int q_heapMany, .ref m_led, .ref m_newAt, .ref m_knowing, .ref m_firsts, .int (nI q_people), .ref m_secrets, .ref m_tried, .ref m_lanes, .ref m_lengths, .ref m_cells])), (m_manys, .inl (E.2.1 1, 18, .inl f_manys)), (m_reals, .inl (E.2.1 1, 18, .inl f_reals)), (m_factsOf, .inl (E.2.1 1, 432, .inl f_factsOf)), (m_possible, .inl (E.2.1 1, 1728, .inl f_possible))]) C hT [0, 1, 2, 3, 4] rfl rfl rfl rfl dX12_keep_11 (⟨q_models, f_manys, f_reals, f_factsOf, f_possible, rfl, hb_manys, hb_reals, hpg, hwf, (by omega), (Or.inl ⟨by omega, rfl, rfl, fun _ _ => rfl⟩), KPU.rf⟩)
theorem dX12_isModel_0 : decode cX12_isModel 0 = .ok (.iload_n 1, 1) := by decide +kernel
theorem dX12_isModel_1 : decode cX12_isModel 1 = .ok (.i2l, 1) := by decide +kernel
theorem dX12_isModel_2 : decode cX12_isModel 2 = .ok (.lconst 0, 1) := by decide +kernel
theorem dX12_isModel_3 : decode cX12_isModel 3 = .ok (.aload_n 0, 1) := by decide +kernel
theorem dX12_isModel_4 : decode cX12_isModel 4 = .ok (.getfield 304, 3) := by decide +kernel
theorem dX12_isModel_7 : decode cX12_isModel 7 = .ok (.iconst 1, 1) := by decide +kernel
theorem dX12_isModel_8 : decode cX12_isModel 8 = .ok (.isub, 1) := by decide +kernel
theorem dX12_isModel_9 : decode cX12_isModel 9 = .ok (.i2l, 1) := by decide +kernel
theorem dX12_isModel_10 : decode cX12_isModel 10 = .ok (.invokestatic 115, 3) := by decide +kernel
theorem dX12_isModel_13 : decode cX12_isModel 13 = .ok (.ireturn, 1) := by decide +kernel
set_option maxRecDepth 100000 in
set_option maxHeartbeats 4000000 in
theorem r_isModel (l : Launch) (E : EV) (ro : va_W) (hm : Nat) (k : Int32) (m_manys : Nat) (m_reals : Nat) (m_factsOf : Nat) (m_possible : Nat) (q_undos : Nat) (q_models : Nat) (m_tape : Nat) (q_taped : Nat) (q_fault : Int32) (q_wrong : Int32) (q_wrongAt : Int32) (q_spot : Int32) (q_place : Int32) (q_token : Int32) (q_value : Int32) (m_ends : Nat) (m_letters : Nat) (m_actOf : Nat) (m_whom : Nat) (m_actMany : Nat) (m_tokens : Nat) (m_afters : Nat) (m_afterOf : Nat) (q_counted : Int32) (m_pile : Nat) (m_caseMany : Nat) (m_happen : Nat) (m_hasIf : Nat) (m_becomes : Nat) (m_goneOf : Nat) (m_heard : Nat) (m_pairs : Nat) (m_heaps : Nat) (q_rounds : Int32) (q_heapMany : Int32) (m_led : Nat) (m_newAt : Nat) (m_knowing : Nat) (m_firsts : Nat) (q_people : Nat) (m_secrets : Nat) (m_tried : Nat) (m_lanes : Nat) (m_lengths : Nat) (m_cells : Nat) (hq_models : q_models ≤ 4) : CT l yX12_isModel (Cond.code yX12_isModel cX12_isModel 2 (some .boolean) :: TB) ({ frames := 1, cells := 0, slots := 0, locals := 25 }) E ro [.ref hm, .int k] [(hm, .inr (12, [.ref m_manys, .ref m_reals, .ref m_factsOf, .ref m_possible, .int (nI q_undos), .int (nI q_models), .ref m_tape, .int (nI q_taped), .int q_fault, .int q_wrong, .int q_wrongAt, .int q_spot, .int q_place, .int q_token, .int q_value, .ref m_ends, .ref m_letters, .ref m_actOf, .ref m_whom, .ref m_actMany, .ref m_tokens, .ref m_afters, .ref m_afterOf, .int q_counted, .ref m_pile, .ref m_caseMany, .ref m_happen, .ref m_hasIf, .ref m_becomes, .ref m_goneOf, .ref m_heard, .ref m_pairs, .ref m_heaps, .int q_rounds, .int q_heapMany, .ref m_led, .ref m_newAt, .ref m_knowing, .ref m_firsts, .int (nI q_people), .ref m_secrets, .ref m_tried, .ref m_lanes, .ref m_lengths, .ref m_cells]))] (Qi E (fun (rz : Int32) uz => (rz = 1 ∧ uz = [(hm, .inr (12, [.ref m_manys, .ref m_reals, .ref m_factsOf, .ref m_possible, .int (nI q_undos), .int (nI q_models), .ref m_tape, .int (nI q_taped), .int q_fault, .int q_wrong, .int q_wrongAt, .int q_spot, .int q_place, .int q_token, .int q_value, .ref m_ends, .ref m_letters, .ref m_actOf, .ref m_whom, .ref m_actMany, .ref m_tokens, .ref m_afters, .ref m_afterOf, .int q_counted, .ref m_pile, .ref m_caseMany, .ref m_happen, .ref m_hasIf, .ref m_becomes, .ref m_goneOf, .ref m_heard, .ref m_pairs, .ref m_heaps, .int q_rounds, .int q_heapMany, .ref m_led, .ref m_newAt, .ref m_knowing, .ref m_firsts, .int (nI q_people), .ref m_secrets, .ref m_tried, .ref m_lanes, .ref m_lengths, .ref m_cells]))] ∧ (0 ≤ k.toInt) ∧ (k.toInt < q_models)) ∨ (rz = 0 ∧ uz = [(hm, .inr (12, [.ref m_manys, .ref m_reals, .ref m_factsOf, .ref m_possible, .int (nI q_undos), .int (nI q_models), .ref m_tape, .int (nI q_taped), .int q_fault, .int q_wrong, .int q_wrongAt, .int q_spot, .int q_place, .int q_token, .int q_value, .ref m_ends, .ref m_letters, .ref m_actOf, .ref m_whom, .ref m_actMany, .ref m_tokens, .ref m_afters, .ref m_afterOf, .int q_counted, .ref m_pile, .ref m_caseMany, .ref m_happen, .ref m_hasIf, .ref m_becomes, .ref m_goneOf, .ref m_heard, .ref m_pairs, .ref m_heaps, .int q_rounds, .int q_heapMany, .ref m_led, .ref m_newAt, .ref m_knowing, .ref m_firsts, .int (nI q_people), .ref m_secrets, .ref m_tried, .ref m_lanes, .ref m_lengths, .ref m_cells]))] ∧ (k.toInt < 0 ∨ (q_models : Int) ≤ k.toInt)))) 0 0 := by
  refine ct_of rfl rfl ?_
  intro X C hT hin hro
  show WW X 2 E 0 [(0, .ref hm), (1, .int k)] [] [(hm, .inr (12, [.ref m_manys, .ref m_reals, .ref m_factsOf, .ref m_possible, .int (nI q_undos), .int (nI q_models), .ref m_tape, .int (nI q_taped), .int q_fault, .int q_wrong, .int q_wrongAt, .int q_spot, .int q_place, .int q_token, .int q_value, .ref m_ends, .ref m_letters, .ref m_actOf, .ref m_whom, .ref m_actMany, .ref m_tokens, .ref m_afters, .ref m_afterOf, .int q_counted, .ref m_pile, .ref m_caseMany, .ref m_happen, .ref m_hasIf, .ref m_becomes, .ref m_goneOf, .ref m_heard, .ref m_pairs, .ref m_heaps, .int q_rounds, .int q_heapMany, .ref m_led, .ref m_newAt, .ref m_knowing, .ref m_firsts, .int (nI q_people), .ref m_secrets, .ref m_tried, .ref m_lanes, .ref m_lengths, .ref m_cells]))] 0 0
  refine ww_iload_n C dX12_isModel_0 1 rfl rfl ?_
  refine ww_i2l (v := k.toInt64) C dX12_isModel_1 rfl ?_
  refine ww_lconst (v := 0) C dX12_isModel_2 rfl ?_
  refine ww_aload_n C dX12_isModel_3 0 rfl rfl ?_
  refine ww_get C fg_X12_304 0 rfl rfl dX12_isModel_4 ?_
  refine ww_iconst (v := 1) C dX12_isModel_7 rfl ?_
  obtain ⟨x_1, ex_1⟩ : ∃ z : Int32, (nI q_models) - (1 : Int32) = z := ⟨_, rfl⟩
  have zx_1 : x_1.toInt = ((q_models : Nat) : Int) - 1 := by rw [← ex_1]; exact i_sub (nI_toInt (n := q_models) (by omega)) rfl (by omega) (by omega)
  refine ww_isub (v := x_1) C dX12_isModel_8 ex_1 ?_
  refine ww_i2l (v := x_1.toInt64) C dX12_isModel_9 rfl ?_
  refine ww_ci (wr := [(hm, .inr (12, [.ref m_manys, .ref m_reals, .ref m_factsOf, .ref m_possible, .int (nI q_undos), .int (nI q_models), .ref m_tape, .int (nI q_taped), .int q_fault, .int q_wrong, .int q_wrongAt, .int q_spot, .int q_place, .int q_token, .int q_value, .ref m_ends, .ref m_letters, .ref m_actOf, .ref m_whom, .ref m_actMany, .ref m_tokens, .ref m_afters, .ref m_afterOf, .int q_counted, .ref m_pile, .ref m_caseMany, .ref m_happen, .ref m_hasIf, .ref m_becomes, .ref m_goneOf, .ref m_heard, .ref m_pairs, .ref m_heaps, .int q_rounds, .int q_heapMany, .ref m_led, .ref m_newAt, .ref m_knowing, .ref m_firsts, .int (nI q_people), .ref m_secrets, .ref m_tried, .ref m_lanes, .ref m_lengths, .ref m_cells]))]) (k' := 0) (n' := 0) C (run_S (As := [.long k.toInt64, .long 0, .long x_1.toInt64]) (rest := []) C (r_in X.2.1 E ro k.toInt64 0 x_1.toInt64 k.toInt 0 (((q_models : Nat) : Int) - 1) (Int32.toInt_toInt64 _) rfl ((Int32.toInt_toInt64 _).trans zx_1)) ms_X12_in wl_X12_115 rfl rfl rfl rfl dX12_isModel_10) (roK hro) [] [0] rfl rfl rfl rfl (fun r_2 uz hw => ?_)
  rcases hw with hw | hw
  · refine an3 hw ?_
    clear hw
    intro he_5 he_6 h_3 hw
    have h_4 := hw
    clear hw
    have he_5 := he_5.symm
    subst he_5
    subst he_6
    refine ww_eq (ws' := [(hm, .inr (12, [.ref m_manys, .ref m_reals, .ref m_factsOf, .ref m_possible, .int (nI q_undos), .int (nI q_models), .ref m_tape, .int (nI q_taped), .int q_fault, .int q_wrong, .int q_wrongAt, .int q_spot, .int q_place, .int q_token, .int q_value, .ref m_ends, .ref m_letters, .ref m_actOf, .ref m_whom, .ref m_actMany, .ref m_tokens, .ref m_afters, .ref m_afterOf, .int q_counted, .ref m_pile, .ref m_caseMany, .ref m_happen, .ref m_hasIf, .ref m_becomes, .ref m_goneOf, .ref m_heard, .ref m_pairs, .ref m_heaps, .int q_rounds, .int q_heapMany, .ref m_led, .ref m_newAt, .ref m_knowing, .ref m_firsts, .int (nI q_people), .ref m_secrets, .ref m_tried, .ref m_lanes, .ref m_lengths, .ref m_cells]))]) ?_ rfl rfl rfl
    exact ww_zret (u := [(hm, .inr (12, [.ref m_manys, .ref m_reals, .ref m_factsOf, .ref m_possible, .int (nI q_undos), .int (nI q_models), .ref m_tape, .int (nI q_taped), .int q_fault, .int q_wrong, .int q_wrongAt, .int q_spot, .int q_place, .int q_token, .int q_value, .ref m_ends, .ref m_letters, .ref m_actOf, .ref m_whom, .ref m_actMany, .ref m_tokens, .ref m_afters, .ref m_afterOf, .int q_counted, .ref m_pile, .ref m_caseMany, .ref m_happen, .ref m_hasIf, .ref m_becomes, .ref m_goneOf, .ref m_heard, .ref m_pairs, .ref m_heaps, .int q_rounds, .int q_heapMany, .ref m_led, .ref m_newAt, .ref m_knowing, .ref m_firsts, .int (nI q_people), .ref m_secrets, .ref m_tried, .ref m_lanes, .ref m_lengths, .ref m_cells]))]) C hT [0] rfl rfl rfl rfl rfl dX12_isModel_13 (Or.inl ⟨rfl, rfl, (by first | assumption | omega | decide), (by first | assumption | omega | decide)⟩)
  · refine an2 hw ?_
    clear hw
    intro he_8 he_9 hw
    have h_7 := hw
    clear hw
    have he_8 := he_8.symm
    subst he_8
    subst he_9
    refine ww_eq (ws' := [(hm, .inr (12, [.ref m_manys, .ref m_reals, .ref m_factsOf, .ref m_possible, .int (nI q_undos), .int (nI q_models), .ref m_tape, .int (nI q_taped), .int q_fault, .int q_wrong, .int q_wrongAt, .int q_spot, .int q_place, .int q_token, .int q_value, .ref m_ends, .ref m_letters, .ref m_actOf, .ref m_whom, .ref m_actMany, .ref m_tokens, .ref m_afters, .ref m_afterOf, .int q_counted, .ref m_pile, .ref m_caseMany, .ref m_happen, .ref m_hasIf, .ref m_becomes, .ref m_goneOf, .ref m_heard, .ref m_pairs, .ref m_heaps, .int q_rounds, .int q_heapMany, .ref m_led, .ref m_newAt, .ref m_knowing, .ref m_firsts, .int (nI q_people), .ref m_secrets, .ref m_tried, .ref m_lanes, .ref m_lengths, .ref m_cells]))]) ?_ rfl rfl rfl
    exact ww_zret (u := [(hm, .inr (12, [.ref m_manys, .ref m_reals, .ref m_factsOf, .ref m_possible, .int (nI q_undos), .int (nI q_models), .ref m_tape, .int (nI q_taped), .int q_fault, .int q_wrong, .int q_wrongAt, .int q_spot, .int q_place, .int q_token, .int q_value, .ref m_ends, .ref m_letters, .ref m_actOf, .ref m_whom, .ref m_actMany, .ref m_tokens, .ref m_afters, .ref m_afterOf, .int q_counted, .ref m_pile, .ref m_caseMany, .ref m_happen, .ref m_hasIf, .ref m_becomes, .ref m_goneOf, .ref m_heard, .ref m_pairs, .ref m_heaps, .int q_rounds, .int q_heapMany, .ref m_led, .ref m_newAt, .ref m_knowing, .ref m_firsts, .int (nI q_people), .ref m_secrets, .ref m_tried, .ref m_lanes, .ref m_lengths, .ref m_cells]))]) C hT [0] rfl rfl rfl rfl rfl dX12_isModel_13 (Or.inr ⟨rfl, rfl, (by first | assumption | omega | decide)⟩)
theorem dX12_stand_0 : decode cX12_stand 0 = .ok (.aload_n 0, 1) := by decide +kernel
theorem dX12_stand_1 : decode cX12_stand 1 = .ok (.iload_n 1, 1) := by decide +kernel
theorem dX12_stand_2 : decode cX12_stand 2 = .ok (.invokevirtual 307, 3) := by decide +kernel
theorem wl_X12_307 : Cond.methodLink RX12 307 yX12_isModel ∈ TB := tbm (tq7 (List.mem_of_getElem? (i := 9) (by decide +kernel))) (by decide +kernel)
theorem wc_X12_isModel : Cond.code yX12_isModel cX12_isModel 2 (some .boolean) ∈ TB := tbm (tq7 (List.mem_of_getElem? (i := 12) (rfl))) (by decide +kernel)
theorem wi_X12_isModel : Cond.instanceMethod yX12_isModel ∈ TB := tbm (tq7 (List.mem_of_getElem? (i := 11) (by decide +kernel))) (by decide +kernel)
theorem ws_X12_isModel : Cond.selects RX12 yX12_isModel yX12_isModel ∈ TB := tbm (tq0 (List.mem_of_getElem? (i := 73) (by decide +kernel))) (by decide +kernel)
theorem mi_X12_isModel : MI yX12_isModel cX12_isModel 2 (some .boolean) 1 := ⟨wc_X12_isModel, wn_X12, ⟨by decide +kernel, by decide +kernel, by decide +kernel⟩, wi_X12_isModel, ws_X12_isModel⟩
theorem dX12_stand_5 : decode cX12_stand 5 = .ok (.ifCond .ne 5, 3) := by decide +kernel
theorem dX12_stand_10 : decode cX12_stand 10 = .ok (.aload_n 0, 1) := by decide +kernel
theorem dX12_stand_11 : decode cX12_stand 11 = .ok (.invokevirtual 121, 3) := by decide +kernel
theorem dX12_stand_14 : decode cX12_stand 14 = .ok (.aload_n 0, 1) := by decide +kernel
theorem dX12_stand_15 : decode cX12_stand 15 = .ok (.bipush 6, 2) := by decide +kernel
theorem dX12_stand_17 : decode cX12_stand 17 = .ok (.iload_n 1, 1) := by decide +kernel
theorem dX12_stand_18 : decode cX12_stand 18 = .ok (.iadd, 1) := by decide +kernel
theorem dX12_stand_19 : decode cX12_stand 19 = .ok (.iconst 0, 1) := by decide +kernel
theorem dX12_stand_20 : decode cX12_stand 20 = .ok (.invokevirtual 109, 3) := by decide +kernel
theorem dX12_stand_23 : decode cX12_stand 23 = .ok (.iconst 1, 1) := by decide +kernel
theorem dX12_stand_24 : decode cX12_stand 24 = .ok (.ireturn, 1) := by decide +kernel
theorem dX12_stand_8 : decode cX12_stand 8 = .ok (.iconst (-1), 1) := by decide +kernel
theorem dX12_stand_9 : decode cX12_stand 9 = .ok (.ireturn, 1) := by decide +kernel
set_option maxRecDepth 100000 in
set_option maxHeartbeats 4000000 in
theorem y_stand (l : Launch) (E : EV) (ro : va_W) (hm : Nat) (v0 : Int32) (m_manys : Nat) (m_reals : Nat) (m_factsOf : Nat) (m_possible : Nat) (q_undos : Nat) (q_models : Nat) (m_tape : Nat) (q_taped : Nat) (q_fault : Int32) (q_wrong : Int32) (q_wrongAt : Int32) (q_spot : Int32) (q_place : Int32) (q_token : Int32) (q_value : Int32) (m_ends : Nat) (m_letters : Nat) (m_actOf : Nat) (m_whom : Nat) (m_actMany : Nat) (m_tokens : Nat) (m_afters : Nat) (m_afterOf : Nat) (q_counted : Int32) (m_pile : Nat) (m_caseMany : Nat) (m_happen : Nat) (m_hasIf : Nat) (m_becomes : Nat) (m_goneOf : Nat) (m_heard : Nat) (m_pairs : Nat) (m_heaps : Nat) (q_rounds : Int32) (q_heapMany : Int32) (m_led : Nat) (m_newAt : Nat) (m_knowing : Nat) (m_firsts : Nat) (q_people : Nat) (m_secrets : Nat) (m_tried : Nat) (m_lanes : Nat) (m_lengths : Nat) (m_cells : Nat) (f_manys : Nat → Int32) (f_reals : Nat → Int32) (f_factsOf : Nat → Int32) (f_possible : Nat → Int32) (hb_manys : NB 18 24 f_manys) (hb_reals : NB 18 23 f_reals) (hpg : PG f_manys f_reals) (hwf : WFP (pgs f_manys f_reals f_factsOf f_possible)) (hq_undos : q_undos ≤ 8) (hq_models : q_models ≤ 4) : CT l yX12_stand (Cond.code yX12_stand cX12_stand 2 (some .int) :: TB) ({ frames := 2, cells := 0, slots := 0, locals := 46 }) E ro [.ref hm, .int v0] [(hm, .inr (12, [.ref m_manys, .ref m_reals, .ref m_factsOf, .ref m_possible, .int (nI q_undos), .int (nI q_models), .ref m_tape, .int (nI q_taped), .int q_fault, .int q_wrong, .int q_wrongAt, .int q_spot, .int q_place, .int q_token, .int q_value, .ref m_ends, .ref m_letters, .ref m_actOf, .ref m_whom, .ref m_actMany, .ref m_tokens, .ref m_afters, .ref m_afterOf, .int q_counted, .ref m_pile, .ref m_caseMany, .ref m_happen, .ref m_hasIf, .ref m_becomes, .ref m_goneOf, .ref m_heard, .ref m_pairs, .ref m_heaps, .int q_rounds, .int q_heapMany, .ref m_led, .ref m_newAt, .ref m_knowing, .ref m_firsts, .int (nI q_people), .ref m_secrets, .ref m_tried, .ref m_lanes, .ref m_lengths, .ref m_cells])), (m_manys, .inl (E.2.1 1, 18, .inl f_manys)), (m_reals, .inl (E.2.1 1, 18, .inl f_reals)), (m_factsOf, .inl (E.2.1 1, 432, .inl f_factsOf)), (m_possible, .inl (E.2.1 1, 1728, .inl f_possible))] (Qi E (fun (rz : Int32) uz => (∃ (uz_ : Nat) (f_manysz : Nat → Int32) (f_realsz : Nat → Int32) (f_factsOfz : Nat → Int32) (f_possiblez : Nat → Int32), uz = [(hm, .inr (12, [.ref m_manys, .ref m_reals, .ref m_factsOf, .ref m_possible, .int (nI uz_), .int (nI q_models), .ref m_tape, .int (nI q_taped), .int q_fault, .int q_wrong, .int q_wrongAt, .int q_spot, .int q_place, .int q_token, .int q_value, .ref m_ends, .ref m_letters, .ref m_actOf, .ref m_whom, .ref m_actMany, .ref m_tokens, .ref m_afters, .ref m_afterOf, .int q_counted, .ref m_pile, .ref m_caseMany, .ref m_happen, .ref m_hasIf, .ref m_becomes, .ref m_goneOf, .ref m_heard, .ref m_pairs, .ref m_heaps, .int q_rounds, .int q_heapMany, .ref m_led, .ref m_newAt, .ref m_knowing, .ref m_firsts, .int (nI q_people), .ref m_secrets, .ref m_tried, .ref m_lanes, .ref m_lengths, .ref m_cells])), (m_manys, .inl (E.2.1 1, 18, .inl f_manysz)), (m_reals, .inl (E.2.1 1, 18, .inl f_realsz)), (m_factsOf, .inl (E.2.1 1, 432, .inl f_factsOfz)), (m_possible, .inl (E.2.1 1, 1728, .inl f_possiblez))] ∧ (NB 18 24 f_manysz) ∧ (NB 18 23 f_realsz) ∧ (PG f_manysz f_realsz) ∧ (WFP (pgs f_manysz f_realsz f_factsOfz f_possiblez)) ∧ (uz_ ≤ 8) ∧ ((asM uz_ (pgs f_manysz f_realsz f_factsOfz f_possiblez), rz) = opStand (asM q_undos (pgs f_manys f_reals f_factsOf f_possible)) q_models (fun j => pgs f_manys f_reals f_factsOf f_possible (6 + j)) v0) ∧ (KP6 (pgs f_manys f_reals f_factsOf f_possible) (pgs f_manysz f_realsz f_factsOfz f_possiblez))))) 0 0 := by
  refine ct_of rfl rfl ?_
  intro X C hT hin hro
  show WW X 2 E 0 [(0, .ref hm), (1, .int v0)] [] [(hm, .inr (12, [.ref m_manys, .ref m_reals, .ref m_factsOf, .ref m_possible, .int (nI q_undos), .int (nI q_models), .ref m_tape, .int (nI q_taped), .int q_fault, .int q_wrong, .int q_wrongAt, .int q_spot, .int q_place, .int q_token, .int q_value, .ref m_ends, .ref m_letters, .ref m_actOf, .ref m_whom, .ref m_actMany, .ref m_tokens, .ref m_afters, .ref m_afterOf, .int q_counted, .ref m_pile, .ref m_caseMany, .ref m_happen, .ref m_hasIf, .ref m_becomes, .ref m_goneOf, .ref m_heard, .ref m_pairs, .ref m_heaps, .int q_rounds, .int q_heapMany, .ref m_led, .ref m_newAt, .ref m_knowing, .ref m_firsts, .int (nI q_people), .ref m_secrets, .ref m_tried, .ref m_lanes, .ref m_lengths, .ref m_cells])), (m_manys, .inl (E.2.1 1, 18, .inl f_manys)), (m_reals, .inl (E.2.1 1, 18, .inl f_reals)), (m_factsOf, .inl (E.2.1 1, 432, .inl f_factsOf)), (m_possible, .inl (E.2.1 1, 1728, .inl f_possible))] 0 0
  have hmn0 := (hb_manys 0 (by omega)).2
  refine ww_aload_n C dX12_stand_0 0 rfl rfl ?_
  refine ww_iload_n C dX12_stand_1 1 rfl rfl ?_
  refine ww_ci (wr := [(m_manys, .inl (E.2.1 1, 18, .inl f_manys)), (m_reals, .inl (E.2.1 1, 18, .inl f_reals)), (m_factsOf, .inl (E.2.1 1, 432, .inl f_factsOf)), (m_possible, .inl (E.2.1 1, 1728, .inl f_possible))]) (k' := 0) (n' := 0) C (run_V (As := [.int v0]) (rest := []) C (r_isModel X.2.1 E ro hm v0 m_manys m_reals m_factsOf m_possible q_undos q_models m_tape q_taped q_fault q_wrong q_wrongAt q_spot q_place q_token q_value m_ends m_letters m_actOf m_whom m_actMany m_tokens m_afters m_afterOf q_counted m_pile m_caseMany m_happen m_hasIf m_becomes m_goneOf m_heard m_pairs m_heaps q_rounds q_heapMany m_led m_newAt m_knowing m_firsts q_people m_secrets m_tried m_lanes m_lengths m_cells (by omega)) mi_X12_isModel wl_X12_307 rfl 0 12 rfl rfl rfl rfl rfl dX12_stand_2) (roK hro) [0] [1, 2, 3, 4] rfl rfl rfl rfl (fun r_1 uz hw => ?_)
  rcases hw with hw | hw
  · refine an3 hw ?_
    clear hw
    intro he_4 he_5 h_2 hw
    have h_3 := hw
    clear hw
    have he_4 := he_4.symm
    subst he_4
    subst he_5
    refine ww_eq (ws' := [(m_manys, .inl (E.2.1 1, 18, .inl f_manys)), (m_reals, .inl (E.2.1 1, 18, .inl f_reals)), (m_factsOf, .inl (E.2.1 1, 432, .inl f_factsOf)), (m_possible, .inl (E.2.1 1, 1728, .inl f_possible)), (hm, .inr (12, [.ref m_manys, .ref m_reals, .ref m_factsOf, .ref m_possible, .int (nI q_undos), .int (nI q_models), .ref m_tape, .int (nI q_taped), .int q_fault, .int q_wrong, .int q_wrongAt, .int q_spot, .int q_place, .int q_token, .int q_value, .ref m_ends, .ref m_letters, .ref m_actOf, .ref m_whom, .ref m_actMany, .ref m_tokens, .ref m_afters, .ref m_afterOf, .int q_counted, .ref m_pile, .ref m_caseMany, .ref m_happen, .ref m_hasIf, .ref m_becomes, .ref m_goneOf, .ref m_heard, .ref m_pairs, .ref m_heaps, .int q_rounds, .int q_heapMany, .ref m_led, .ref m_newAt, .ref m_knowing, .ref m_firsts, .int (nI q_people), .ref m_secrets, .ref m_tried, .ref m_lanes, .ref m_lengths, .ref m_cells]))]) ?_ rfl rfl rfl
    refine ww_if_ne_t (tgt := 10) C dX12_stand_5 (by decide) (by decide) ?_
    obtain ⟨j_9, hj_9, rfl⟩ := i_nat (x := v0) (N := 3) (by omega) (by omega)
    have hzj_9 := nI_toInt (n := j_9) (by omega)
    refine ww_aload_n C dX12_stand_10 0 rfl rfl ?_
    refine ww_cv (wr := []) (k' := 0) (n' := 0) C (run_V (As := []) (rest := []) C (r_acts X.2.1 E ro hm m_manys m_reals m_factsOf m_possible q_undos q_models m_tape q_taped q_fault q_wrong q_wrongAt q_spot q_place q_token q_value m_ends m_letters m_actOf m_whom m_actMany m_tokens m_afters m_afterOf q_counted m_pile m_caseMany m_happen m_hasIf m_becomes m_goneOf m_heard m_pairs m_heaps q_rounds q_heapMany m_led m_newAt m_knowing m_firsts q_people m_secrets m_tried m_lanes m_lengths m_cells f_manys f_reals f_factsOf f_possible hb_manys hb_reals hpg hwf (by omega)) mi_X12_acts wl_X12_121 rfl 0 12 rfl rfl rfl rfl rfl dX12_stand_11) (roK hro) [4, 0, 1, 2, 3] [] rfl rfl rfl rfl (fun uz hw => ?_)
    refine ex5 hw ?_
    clear hw
    intro uz__11 f_manysz_12 f_realsz_13 f_factsOfz_14 f_possiblez_15 hw
    refine an8 hw ?_
    clear hw
    intro he_26 h_16 h_17 h_18 h_19 h_20 h_21 h_22 hw
    refine an2 hw ?_
    clear hw
    intro h_23 h_24 hw
    have h_25 := hw
    clear hw
    subst he_26
    refine ww_eq (ws' := [(hm, .inr (12, [.ref m_manys, .ref m_reals, .ref m_factsOf, .ref m_possible, .int (nI uz__11), .int (nI q_models), .ref m_tape, .int (nI q_taped), .int q_fault, .int q_wrong, .int q_wrongAt, .int q_spot, .int q_place, .int q_token, .int q_value, .ref m_ends, .ref m_letters, .ref m_actOf, .ref m_whom, .ref m_actMany, .ref m_tokens, .ref m_afters, .ref m_afterOf, .int q_counted, .ref m_pile, .ref m_caseMany, .ref m_happen, .ref m_hasIf, .ref m_becomes, .ref m_goneOf, .ref m_heard, .ref m_pairs, .ref m_heaps, .int q_rounds, .int q_heapMany, .ref m_led, .ref m_newAt, .ref m_knowing, .ref m_firsts, .int (nI q_people), .ref m_secrets, .ref m_tried, .ref m_lanes, .ref m_lengths, .ref m_cells])), (m_manys, .inl (E.2.1 1, 18, .inl f_manysz_12)), (m_reals, .inl (E.2.1 1, 18, .inl f_realsz_13)), (m_factsOf, .inl (E.2.1 1, 432, .inl f_factsOfz_14)), (m_possible, .inl (E.2.1 1, 1728, .inl f_possiblez_15))]) ?_ rfl rfl rfl
    refine ww_aload_n C dX12_stand_14 0 rfl rfl ?_
    refine ww_bipush (v := 6) C dX12_stand_15 rfl ?_
    refine ww_iload_n C dX12_stand_17 1 rfl rfl ?_
    refine ww_iadd (v := (nI (6 + j_9))) C dX12_stand_18 (nI_add 6 j_9) ?_
    refine ww_iconst (v := 0) C dX12_stand_19 rfl ?_
    refine ww_cv (wr := []) (k' := 0) (n' := 0) C (run_V (As := [.int (nI (6 + j_9)), .int 0]) (rest := []) C (r_copy X.2.1 E ro hm (6 + j_9) 0 m_manys m_reals m_factsOf m_possible uz__11 q_models m_tape q_taped q_fault q_wrong q_wrongAt q_spot q_place q_token q_value m_ends m_letters m_actOf m_whom m_actMany m_tokens m_afters m_afterOf q_counted m_pile m_caseMany m_happen m_hasIf m_becomes m_goneOf m_heard m_pairs m_heaps q_rounds q_heapMany m_led m_newAt m_knowing m_firsts q_people m_secrets m_tried m_lanes m_lengths m_cells f_manysz_12 f_realsz_13 f_factsOfz_14 f_possiblez_15 h_16 h_17 h_18 h_19 (by omega) (by omega)) mi_X12_copy wl_X12_109 rfl 0 12 rfl rfl rfl rfl rfl dX12_stand_20) (roK hro) [0, 1, 2, 3, 4] [] rfl rfl rfl rfl (fun uz hw => ?_)
    refine ex4 hw ?_
    clear hw
    intro f_manysz_28 f_realsz_29 f_factsOfz_30 f_possiblez_31 hw
    refine an8 hw ?_
    clear hw
    intro he_41 h_32 h_33 h_34 h_35 h_36 h_37 h_38 hw
    refine an1 hw ?_
    clear hw
    intro h_39 hw
    have h_40 := hw
    clear hw
    subst he_41
    refine ww_eq (ws' := [(hm, .inr (12, [.ref m_manys, .ref m_reals, .ref m_factsOf, .ref m_possible, .int (nI uz__11), .int (nI q_models), .ref m_tape, .int (nI q_taped), .int q_fault, .int q_wrong, .int q_wrongAt, .int q_spot, .int q_place, .int q_token, .int q_value, .ref m_ends, .ref m_letters, .ref m_actOf, .ref m_whom, .ref m_actMany, .ref m_tokens, .ref m_afters, .ref m_afterOf, .int q_counted, .ref m_pile, .ref m_caseMany, .ref m_happen, .ref m_hasIf, .ref m_becomes, .ref m_goneOf, .ref m_heard, .ref m_pairs, .ref m_heaps, .int q_rounds, .int q_heapMany, .ref m_led, .ref m_newAt, .ref m_knowing, .ref m_firsts, .int (nI q_people), .ref m_secrets, .ref m_tried, .ref m_lanes, .ref m_lengths, .ref m_cells])), (m_manys, .inl (E.2.1 1, 18, .inl f_manysz_28)), (m_reals, .inl (E.2.1 1, 18, .inl f_realsz_29)), (m_factsOf, .inl (E.2.1 1, 432, .inl f_factsOfz_30)), (m_possible, .inl (E.2.1 1, 1728, .inl f_possiblez_31))]) ?_ rfl rfl rfl
    refine ww_iconst (v := 1) C dX12_stand_23 rfl ?_
    exact ww_iret (u := [(hm, .inr (12, [.ref m_manys, .ref m_reals, .ref m_factsOf, .ref m_possible, .int (nI uz__11), .int (nI q_models), .ref m_tape, .int (nI q_taped), .int q_fault, .int q_wrong, .int q_wrongAt, .int q_spot, .int q_place, .int q_token, .int q_value, .ref m_ends, .ref m_letters, .ref m_actOf, .ref m_whom, .ref m_actMany, .ref m_tokens, .ref m_afters, .ref m_afterOf, .int q_counted, .ref m_pile, .ref m_caseMany, .ref m_happen, .ref m_hasIf, .ref m_becomes, .ref m_goneOf, .ref m_heard, .ref m_pairs, .ref m_heaps, .int q_rounds, .int q_heapMany, .ref m_led, .ref m_newAt, .ref m_knowing, .ref m_firsts, .int (nI q_people), .ref m_secrets, .ref m_tried, .ref m_lanes, .ref m_lengths, .ref m_cells])), (m_manys, .inl (E.2.1 1, 18, .inl f_manysz_28)), (m_reals, .inl (E.2.1 1, 18, .inl f_realsz_29)), (m_factsOf, .inl (E.2.1 1, 432, .inl f_factsOfz_30)), (m_possible, .inl (E.2.1 1, 1728, .inl f_possiblez_31))]) C hT [0, 1, 2, 3, 4] rfl rfl rfl rfl dX12_stand_24 (⟨uz__11, f_manysz_28, f_realsz_29, f_factsOfz_30, f_possiblez_31, rfl, h_32, h_33, h_34, h_35, (by omega), (by show _ = if (nI j_9).toInt < 0 ∨ (q_models : Int) ≤ (nI j_9).toInt then (asM q_undos (pgs f_manys f_reals f_factsOf f_possible), -1) else (aRem (asM q_undos (pgs f_manys f_reals f_factsOf f_possible)) (pgs f_manys f_reals f_factsOf f_possible (6 + tN (nI j_9))), 1); rw [if_neg (show ¬ ((nI j_9).toInt < 0 ∨ (q_models : Int) ≤ (nI j_9).toInt) by omega)]; exact Prod.ext (rm_end hq_undos h_25 (fun p a b => (h_40 p b).trans (if_neg (by omega))) ((h_40 0 (by omega)).trans ((if_pos rfl).trans ((h_25.2.1 (6 + j_9) (by omega)).trans (by rw [tN_n (n := j_9) (by omega)]))))) rfl), (KP6.rem h_25 (fun p a b => (h_40 p b).trans (if_neg (by omega))))⟩)
  · refine an2 hw ?_
    clear hw
    intro he_7 he_8 hw
    have h_6 := hw
    clear hw
    have he_7 := he_7.symm
    subst he_7
    subst he_8
    refine ww_eq (ws' := [(m_manys, .inl (E.2.1 1, 18, .inl f_manys)), (m_reals, .inl (E.2.1 1, 18, .inl f_reals)), (m_factsOf, .inl (E.2.1 1, 432, .inl f_factsOf)), (m_possible, .inl (E.2.1 1, 1728, .inl f_possible)), (hm, .inr (12, [.ref m_manys, .ref m_reals, .ref m_factsOf, .ref m_possible, .int (nI q_undos), .int (nI q_models), .ref m_tape, .int (nI q_taped), .int q_fault, .int q_wrong, .int q_wrongAt, .int q_spot, .int q_place, .int q_token, .int q_value, .ref m_ends, .ref m_letters, .ref m_actOf, .ref m_whom, .ref m_actMany, .ref m_tokens, .ref m_afters, .ref m_afterOf, .int q_counted, .ref m_pile, .ref m_caseMany, .ref m_happen, .ref m_hasIf, .ref m_becomes, .ref m_goneOf, .ref m_heard, .ref m_pairs, .ref m_heaps, .int q_rounds, .int q_heapMany, .ref m_led, .ref m_newAt, .ref m_knowing, .ref m_firsts, .int (nI q_people), .ref m_secrets, .ref m_tried, .ref m_lanes, .ref m_lengths, .ref m_cells]))]) ?_ rfl rfl rfl
    refine ww_if_ne_f (tgt := 10) C dX12_stand_5 (by decide) (rfl) ?_
    refine ww_iconst (v := (-1)) C dX12_stand_8 rfl ?_
    exact ww_iret (u := [(hm, .inr (12, [.ref m_manys, .ref m_reals, .ref m_factsOf, .ref m_possible, .int (nI q_undos), .int (nI q_models), .ref m_tape, .int (nI q_taped), .int q_fault, .int q_wrong, .int q_wrongAt, .int q_spot, .int q_place, .int q_token, .int q_value, .ref m_ends, .ref m_letters, .ref m_actOf, .ref m_whom, .ref m_actMany, .ref m_tokens, .ref m_afters, .ref m_afterOf, .int q_counted, .ref m_pile, .ref m_caseMany, .ref m_happen, .ref m_hasIf, .ref m_becomes, .ref m_goneOf, .ref m_heard, .ref m_pairs, .ref m_heaps, .int q_rounds, .int q_heapMany, .ref m_led, .ref m_newAt, .ref m_knowing, .ref m_firsts, .int (nI q_people), .ref m_secrets, .ref m_tried, .ref m_lanes, .ref m_lengths, .ref m_cells])), (m_manys, .inl (E.2.1 1, 18, .inl f_manys)), (m_reals, .inl (E.2.1 1, 18, .inl f_reals)), (m_factsOf, .inl (E.2.1 1, 432, .inl f_factsOf)), (m_possible, .inl (E.2.1 1, 1728, .inl f_possible))]) C hT [4, 0, 1, 2, 3] rfl rfl rfl rfl dX12_stand_9 (⟨q_undos, f_manys, f_reals, f_factsOf, f_possible, rfl, hb_manys, hb_reals, hpg, hwf, (by omega), (by show _ = if v0.toInt < 0 ∨ (q_models : Int) ≤ v0.toInt then (asM q_undos (pgs f_manys f_reals f_factsOf f_possible), -1) else (aRem (asM q_undos (pgs f_manys f_reals f_factsOf f_possible)) (pgs f_manys f_reals f_factsOf f_possible (6 + tN v0)), 1); rw [if_pos (show v0.toInt < 0 ∨ (q_models : Int) ≤ v0.toInt by omega)]), KP6.rf⟩)
theorem dX12_same_0 : decode cX12_same 0 = .ok (.aload_n 0, 1) := by decide +kernel
theorem dX12_same_1 : decode cX12_same 1 = .ok (.iload_n 1, 1) := by decide +kernel
theorem dX12_same_2 : decode cX12_same 2 = .ok (.invokevirtual 307, 3) := by decide +kernel
theorem dX12_same_5 : decode cX12_same 5 = .ok (.ifCond .ne 5, 3) := by decide +kernel
theorem dX12_same_10 : decode cX12_same 10 = .ok (.aload_n 0, 1) := by decide +kernel
theorem dX12_same_11 : decode cX12_same 11 = .ok (.getfield 7, 3) := by decide +kernel
theorem dX12_same_14 : decode cX12_same 14 = .ok (.iconst 0, 1) := by decide +kernel
theorem dX12_same_15 : decode cX12_same 15 = .ok (.iaload, 1) := by decide +kernel
theorem dX12_same_16 : decode cX12_same 16 = .ok (.ifCond .ne 6, 3) := by decide +kernel
theorem dX12_same_22 : decode cX12_same 22 = .ok (.aload_n 0, 1) := by decide +kernel
theorem dX12_same_23 : decode cX12_same 23 = .ok (.iconst 0, 1) := by decide +kernel
theorem dX12_same_24 : decode cX12_same 24 = .ok (.bipush 6, 2) := by decide +kernel
theorem dX12_same_26 : decode cX12_same 26 = .ok (.iload_n 1, 1) := by decide +kernel
theorem dX12_same_27 : decode cX12_same 27 = .ok (.iadd, 1) := by decide +kernel
theorem dX12_same_28 : decode cX12_same 28 = .ok (.invokevirtual 298, 3) := by decide +kernel
theorem dX12_same_31 : decode cX12_same 31 = .ok (.aload_n 0, 1) := by decide +kernel
theorem dX12_same_32 : decode cX12_same 32 = .ok (.aload_n 0, 1) := by decide +kernel
theorem dX12_same_33 : decode cX12_same 33 = .ok (.getfield 13, 3) := by decide +kernel
theorem dX12_same_36 : decode cX12_same 36 = .ok (.iconst 0, 1) := by decide +kernel
theorem dX12_same_37 : decode cX12_same 37 = .ok (.iaload, 1) := by decide +kernel
theorem dX12_same_38 : decode cX12_same 38 = .ok (.invokevirtual 301, 3) := by decide +kernel
theorem dX12_same_41 : decode cX12_same 41 = .ok (.aload_n 0, 1) := by decide +kernel
theorem dX12_same_42 : decode cX12_same 42 = .ok (.aload_n 0, 1) := by decide +kernel
theorem dX12_same_43 : decode cX12_same 43 = .ok (.getfield 7, 3) := by decide +kernel
theorem dX12_same_46 : decode cX12_same 46 = .ok (.iconst 0, 1) := by decide +kernel
theorem dX12_same_47 : decode cX12_same 47 = .ok (.iaload, 1) := by decide +kernel
theorem dX12_same_48 : decode cX12_same 48 = .ok (.aload_n 0, 1) := by decide +kernel
theorem dX12_same_49 : decode cX12_same 49 = .ok (.getfield 13, 3) := by decide +kernel
theorem dX12_same_52 : decode cX12_same 52 = .ok (.bipush 6, 2) := by decide +kernel
theorem dX12_same_54 : decode cX12_same 54 = .ok (.iload_n 1, 1) := by decide +kernel
theorem dX12_same_55 : decode cX12_same 55 = .ok (.iadd, 1) := by decide +kernel
theorem dX12_same_56 : decode cX12_same 56 = .ok (.iaload, 1) := by decide +kernel
theorem dX12_same_57 : decode cX12_same 57 = .ok (.iadd, 1) := by decide +kernel
theorem dX12_same_58 : decode cX12_same 58 = .ok (.invokevirtual 301, 3) := by decide +kernel
theorem dX12_same_61 : decode cX12_same 61 = .ok (.if_icmp .ne 7, 3) := by decide +kernel
theorem dX12_same_68 : decode cX12_same 68 = .ok (.iconst 0, 1) := by decide +kernel
theorem dX12_same_69 : decode cX12_same 69 = .ok (.ireturn, 1) := by decide +kernel
theorem dX12_same_64 : decode cX12_same 64 = .ok (.iconst 1, 1) := by decide +kernel
theorem dX12_same_65 : decode cX12_same 65 = .ok (.goto 4, 3) := by decide +kernel
theorem dX12_same_19 : decode cX12_same 19 = .ok (.bipush (-2), 2) := by decide +kernel
theorem dX12_same_21 : decode cX12_same 21 = .ok (.ireturn, 1) := by decide +kernel
theorem dX12_same_8 : decode cX12_same 8 = .ok (.iconst (-1), 1) := by decide +kernel
theorem dX12_same_9 : decode cX12_same 9 = .ok (.ireturn, 1) := by decide +kernel
set_option maxRecDepth 100000 in
set_option maxHeartbeats 4000000 in
theorem y_same (l : Launch) (E : EV) (ro : va_W) (hm : Nat) (v0 : Int32) (m_manys : Nat) (m_reals : Nat) (m_factsOf : Nat) (m_possible : Nat) (q_undos : Nat) (q_models : Nat) (m_tape : Nat) (q_taped : Nat) (q_fault : Int32) (q_wrong : Int32) (q_wrongAt : Int32) (q_spot : Int32) (q_place : Int32) (q_token : Int32) (q_value : Int32) (m_ends : Nat) (m_letters : Nat) (m_actOf : Nat) (m_whom : Nat) (m_actMany : Nat) (m_tokens : Nat) (m_afters : Nat) (m_afterOf : Nat) (q_counted : Int32) (m_pile : Nat) (m_caseMany : Nat) (m_happen : Nat) (m_hasIf : Nat) (m_becomes : Nat) (m_goneOf : Nat) (m_heard : Nat) (m_pairs : Nat) (m_heaps : Nat) (q_rounds : Int32) (q_heapMany : Int32) (m_led : Nat) (m_newAt : Nat) (m_knowing : Nat) (m_firsts : Nat) (q_people : Nat) (m_secrets : Nat) (m_tried : Nat) (m_lanes : Nat) (m_lengths : Nat) (m_cells : Nat) (f_manys : Nat → Int32) (f_reals : Nat → Int32) (f_factsOf : Nat → Int32) (f_possible : Nat → Int32) (f_heaps : Nat → Int32) (f_led : Nat → Int64) (hb_manys : NB 18 24 f_manys) (hb_reals : NB 18 23 f_reals) (hpg : PG f_manys f_reals) (hwf : WFP (pgs f_manys f_reals f_factsOf f_possible)) (hq_models : q_models ≤ 4) (hKN : ∀ j, j < q_models → (pgs f_manys f_reals f_factsOf f_possible (6 + j)).2.1 < (pgs f_manys f_reals f_factsOf f_possible (6 + j)).1) : CT l yX12_same (Cond.code yX12_same cX12_same 2 (some .int) :: TB) ({ frames := 3, cells := 0, slots := 0, locals := 78 }) E ro [.ref hm, .int v0] [(hm, .inr (12, [.ref m_manys, .ref m_reals, .ref m_factsOf, .ref m_possible, .int (nI q_undos), .int (nI q_models), .ref m_tape, .int (nI q_taped), .int q_fault, .int q_wrong, .int q_wrongAt, .int q_spot, .int q_place, .int q_token, .int q_value, .ref m_ends, .ref m_letters, .ref m_actOf, .ref m_whom, .ref m_actMany, .ref m_tokens, .ref m_afters, .ref m_afterOf, .int q_counted, .ref m_pile, .ref m_caseMany, .ref m_happen, .ref m_hasIf, .ref m_becomes, .ref m_goneOf, .ref m_heard, .ref m_pairs, .ref m_heaps, .int q_rounds, .int q_heapMany, .ref m_led, .ref m_newAt, .ref m_knowing, .ref m_firsts, .int (nI q_people), .ref m_secrets, .ref m_tried, .ref m_lanes, .ref m_lengths, .ref m_cells])), (m_manys, .inl (E.2.1 1, 18, .inl f_manys)), (m_reals, .inl (E.2.1 1, 18, .inl f_reals)), (m_factsOf, .inl (E.2.1 1, 432, .inl f_factsOf)), (m_possible, .inl (E.2.1 1, 1728, .inl f_possible)), (m_heaps, .inl (E.2.1 1, 2400, .inl f_heaps)), (m_led, .inl (E.2.1 2, 192, .inr (.inl f_led)))] (Qi E (fun (rz : Int32) uz => (∃ (rz_ : Int32) (hmz : Int32) (f_heapsz : Nat → Int32) (f_ledz : Nat → Int64), uz = [(hm, .inr (12, [.ref m_manys, .ref m_reals, .ref m_factsOf, .ref m_possible, .int (nI q_undos), .int (nI q_models), .ref m_tape, .int (nI q_taped), .int q_fault, .int q_wrong, .int q_wrongAt, .int q_spot, .int q_place, .int q_token, .int q_value, .ref m_ends, .ref m_letters, .ref m_actOf, .ref m_whom, .ref m_actMany, .ref m_tokens, .ref m_afters, .ref m_afterOf, .int q_counted, .ref m_pile, .ref m_caseMany, .ref m_happen, .ref m_hasIf, .ref m_becomes, .ref m_goneOf, .ref m_heard, .ref m_pairs, .ref m_heaps, .int rz_, .int hmz, .ref m_led, .ref m_newAt, .ref m_knowing, .ref m_firsts, .int (nI q_people), .ref m_secrets, .ref m_tried, .ref m_lanes, .ref m_lengths, .ref m_cells])), (m_manys, .inl (E.2.1 1, 18, .inl f_manys)), (m_reals, .inl (E.2.1 1, 18, .inl f_reals)), (m_factsOf, .inl (E.2.1 1, 432, .inl f_factsOf)), (m_possible, .inl (E.2.1 1, 1728, .inl f_possible)), (m_heaps, .inl (E.2.1 1, 2400, .inl f_heapsz)), (m_led, .inl (E.2.1 2, 192, .inr (.inl f_ledz)))] ∧ (rz = ansSame (pgs f_manys f_reals f_factsOf f_possible 0) q_models (fun j => pgs f_manys f_reals f_factsOf f_possible (6 + j)) v0)))) 0 0 := by
  refine ct_of rfl rfl ?_
  intro X C hT hin hro
  show WW X 2 E 0 [(0, .ref hm), (1, .int v0)] [] [(hm, .inr (12, [.ref m_manys, .ref m_reals, .ref m_factsOf, .ref m_possible, .int (nI q_undos), .int (nI q_models), .ref m_tape, .int (nI q_taped), .int q_fault, .int q_wrong, .int q_wrongAt, .int q_spot, .int q_place, .int q_token, .int q_value, .ref m_ends, .ref m_letters, .ref m_actOf, .ref m_whom, .ref m_actMany, .ref m_tokens, .ref m_afters, .ref m_afterOf, .int q_counted, .ref m_pile, .ref m_caseMany, .ref m_happen, .ref m_hasIf, .ref m_becomes, .ref m_goneOf, .ref m_heard, .ref m_pairs, .ref m_heaps, .int q_rounds, .int q_heapMany, .ref m_led, .ref m_newAt, .ref m_knowing, .ref m_firsts, .int (nI q_people), .ref m_secrets, .ref m_tried, .ref m_lanes, .ref m_lengths, .ref m_cells])), (m_manys, .inl (E.2.1 1, 18, .inl f_manys)), (m_reals, .inl (E.2.1 1, 18, .inl f_reals)), (m_factsOf, .inl (E.2.1 1, 432, .inl f_factsOf)), (m_possible, .inl (E.2.1 1, 1728, .inl f_possible)), (m_heaps, .inl (E.2.1 1, 2400, .inl f_heaps)), (m_led, .inl (E.2.1 2, 192, .inr (.inl f_led)))] 0 0
  have hmn0 := (hb_manys 0 (by omega)).2
  refine ww_aload_n C dX12_same_0 0 rfl rfl ?_
  refine ww_iload_n C dX12_same_1 1 rfl rfl ?_
  refine ww_ci (wr := [(m_manys, .inl (E.2.1 1, 18, .inl f_manys)), (m_reals, .inl (E.2.1 1, 18, .inl f_reals)), (m_factsOf, .inl (E.2.1 1, 432, .inl f_factsOf)), (m_possible, .inl (E.2.1 1, 1728, .inl f_possible)), (m_heaps, .inl (E.2.1 1, 2400, .inl f_heaps)), (m_led, .inl (E.2.1 2, 192, .inr (.inl f_led)))]) (k' := 0) (n' := 0) C (run_V (As := [.int v0]) (rest := []) C (r_isModel X.2.1 E ro hm v0 m_manys m_reals m_factsOf m_possible q_undos q_models m_tape q_taped q_fault q_wrong q_wrongAt q_spot q_place q_token q_value m_ends m_letters m_actOf m_whom m_actMany m_tokens m_afters m_afterOf q_counted m_pile m_caseMany m_happen m_hasIf m_becomes m_goneOf m_heard m_pairs m_heaps q_rounds q_heapMany m_led m_newAt m_knowing m_firsts q_people m_secrets m_tried m_lanes m_lengths m_cells (by omega)) mi_X12_isModel wl_X12_307 rfl 0 12 rfl rfl rfl rfl rfl dX12_same_2) (roK hro) [0] [1, 2, 3, 4, 5, 6] rfl rfl rfl rfl (fun r_1 uz hw => ?_)
  rcases hw with hw | hw
  · refine an3 hw ?_
    clear hw
    intro he_4 he_5 h_2 hw
    have h_3 := hw
    clear hw
    have he_4 := he_4.symm
    subst he_4
    subst he_5
    refine ww_eq (ws' := [(m_manys, .inl (E.2.1 1, 18, .inl f_manys)), (m_reals, .inl (E.2.1 1, 18, .inl f_reals)), (m_factsOf, .inl (E.2.1 1, 432, .inl f_factsOf)), (m_possible, .inl (E.2.1 1, 1728, .inl f_possible)), (m_heaps, .inl (E.2.1 1, 2400, .inl f_heaps)), (m_led, .inl (E.2.1 2, 192, .inr (.inl f_led))), (hm, .inr (12, [.ref m_manys, .ref m_reals, .ref m_factsOf, .ref m_possible, .int (nI q_undos), .int (nI q_models), .ref m_tape, .int (nI q_taped), .int q_fault, .int q_wrong, .int q_wrongAt, .int q_spot, .int q_place, .int q_token, .int q_value, .ref m_ends, .ref m_letters, .ref m_actOf, .ref m_whom, .ref m_actMany, .ref m_tokens, .ref m_afters, .ref m_afterOf, .int q_counted, .ref m_pile, .ref m_caseMany, .ref m_happen, .ref m_hasIf, .ref m_becomes, .ref m_goneOf, .ref m_heard, .ref m_pairs, .ref m_heaps, .int q_rounds, .int q_heapMany, .ref m_led, .ref m_newAt, .ref m_knowing, .ref m_firsts, .int (nI q_people), .ref m_secrets, .ref m_tried, .ref m_lanes, .ref m_lengths, .ref m_cells]))]) ?_ rfl rfl rfl
    refine ww_if_ne_t (tgt := 10) C dX12_same_5 (by decide) (by decide) ?_
    refine ww_aload_n C dX12_same_10 0 rfl rfl ?_
    refine ww_get C fg_X12_7 6 rfl rfl dX12_same_11 ?_
    refine ww_iconst (v := 0) C dX12_same_14 rfl ?_
    have hbx_9 := (hb_manys 0 (by omega)).2
    refine ww_iald (v := (nI (cN f_manys 0))) C 0 rfl (vin rfl) (hb_manys 0 (by omega)).1 dX12_same_15 ?_
    refine ww_if_ne (tgt := 22) C dX12_same_16 (by decide) (fun c_10 => ?_) (fun c_10 => ?_)
    · have zc_10 : ((cN f_manys 0 : Nat) : Int) ≠ 0 := i_ne (nI_toInt (n := cN f_manys 0) (by omega)) rfl c_10
      obtain ⟨j_11, hj_11, rfl⟩ := i_nat (x := v0) (N := 3) (by omega) (by omega)
      have hzj_11 := nI_toInt (n := j_11) (by omega)
      refine ww_aload_n C dX12_same_22 0 rfl rfl ?_
      refine ww_iconst (v := 0) C dX12_same_23 rfl ?_
      refine ww_bipush (v := 6) C dX12_same_24 rfl ?_
      refine ww_iload_n C dX12_same_26 1 rfl rfl ?_
      refine ww_iadd (v := (nI (6 + j_11))) C dX12_same_27 (nI_add 6 j_11) ?_
      refine ww_cv (wr := []) (k' := 0) (n' := 0) C (run_V (As := [.int 0, .int (nI (6 + j_11))]) (rest := []) C (r_layHeapsM X.2.1 E ro hm (6 + j_11) m_manys m_reals m_factsOf m_possible q_undos q_models m_tape q_taped q_fault q_wrong q_wrongAt q_spot q_place q_token q_value m_ends m_letters m_actOf m_whom m_actMany m_tokens m_afters m_afterOf q_counted m_pile m_caseMany m_happen m_hasIf m_becomes m_goneOf m_heard m_pairs m_heaps q_rounds q_heapMany m_led m_newAt m_knowing m_firsts q_people m_secrets m_tried m_lanes m_lengths m_cells f_manys f_reals f_factsOf f_possible f_heaps f_led hb_manys hb_reals hpg hwf (by omega)) mi_X12_layHeaps wl_X12_298 rfl 0 12 rfl rfl rfl rfl rfl dX12_same_28) (roK hro) [6, 0, 1, 2, 3, 4, 5] [] rfl rfl rfl rfl (fun uz hw => ?_)
      refine ex4 hw ?_
      clear hw
      intro rz__13 hmz_14 f_heapsz_15 f_ledz_16 hw
      refine an5 hw ?_
      clear hw
      intro he_22 h_17 h_18 h_19 h_20 hw
      have h_21 := hw
      clear hw
      subst he_22
      refine ww_eq (ws' := [(hm, .inr (12, [.ref m_manys, .ref m_reals, .ref m_factsOf, .ref m_possible, .int (nI q_undos), .int (nI q_models), .ref m_tape, .int (nI q_taped), .int q_fault, .int q_wrong, .int q_wrongAt, .int q_spot, .int q_place, .int q_token, .int q_value, .ref m_ends, .ref m_letters, .ref m_actOf, .ref m_whom, .ref m_actMany, .ref m_tokens, .ref m_afters, .ref m_afterOf, .int q_counted, .ref m_pile, .ref m_caseMany, .ref m_happen, .ref m_hasIf, .ref m_becomes, .ref m_goneOf, .ref m_heard, .ref m_pairs, .ref m_heaps, .int (nI rz__13), .int (nI hmz_14), .ref m_led, .ref m_newAt, .ref m_knowing, .ref m_firsts, .int (nI q_people), .ref m_secrets, .ref m_tried, .ref m_lanes, .ref m_lengths, .ref m_cells])), (m_manys, .inl (E.2.1 1, 18, .inl f_manys)), (m_reals, .inl (E.2.1 1, 18, .inl f_reals)), (m_factsOf, .inl (E.2.1 1, 432, .inl f_factsOf)), (m_possible, .inl (E.2.1 1, 1728, .inl f_possible)), (m_heaps, .inl (E.2.1 1, 2400, .inl f_heapsz_15)), (m_led, .inl (E.2.1 2, 192, .inr (.inl f_ledz_16)))]) ?_ rfl rfl rfl
      have hpg0 := hpg 0 (by omega)
      have hpg6 := hpg (6 + j_11) (by omega)
      have hkn6 : cN f_reals (6 + j_11) < cN f_manys (6 + j_11) := hKN j_11 (by omega)
      have hmb6 := (hb_manys (6 + j_11) (by omega)).2
      have hrb6 := (hb_reals (6 + j_11) (by omega)).2
      refine ww_aload_n C dX12_same_31 0 rfl rfl ?_
      refine ww_aload_n C dX12_same_32 0 rfl rfl ?_
      refine ww_get C fg_X12_13 0 rfl rfl dX12_same_33 ?_
      refine ww_iconst (v := 0) C dX12_same_36 rfl ?_
      have hbx_23 := (hb_reals 0 (by omega)).2
      refine ww_iald (v := (nI (cN f_reals 0))) C 2 rfl (vin rfl) (hb_reals 0 (by omega)).1 dX12_same_37 ?_
      refine ww_ci (wr := [(m_manys, .inl (E.2.1 1, 18, .inl f_manys)), (m_reals, .inl (E.2.1 1, 18, .inl f_reals)), (m_factsOf, .inl (E.2.1 1, 432, .inl f_factsOf)), (m_possible, .inl (E.2.1 1, 1728, .inl f_possible)), (m_led, .inl (E.2.1 2, 192, .inr (.inl f_ledz_16)))]) (k' := 0) (n' := 0) C (run_V (As := [.int (nI (cN f_reals 0))]) (rest := []) C (r_heapOf X.2.1 E ro hm (cN f_reals 0) m_manys m_reals m_factsOf m_possible q_undos q_models m_tape q_taped q_fault q_wrong q_wrongAt q_spot q_place q_token q_value m_ends m_letters m_actOf m_whom m_actMany m_tokens m_afters m_afterOf q_counted m_pile m_caseMany m_happen m_hasIf m_becomes m_goneOf m_heard m_pairs m_heaps rz__13 (nI hmz_14) m_led m_newAt m_knowing m_firsts q_people m_secrets m_tried m_lanes m_lengths m_cells f_heapsz_15 (by omega) (by omega)) mi_X12_heapOf wl_X12_301 rfl 0 12 rfl rfl rfl rfl rfl dX12_same_38) (roK hro) [0, 5] [1, 2, 3, 4, 6] rfl rfl rfl rfl (fun r_24 uz hw => ?_)
      refine an1 hw ?_
      clear hw
      intro he_25 hw
      have he_26 := hw
      clear hw
      have he_25 := he_25.symm
      subst he_25
      subst he_26
      refine ww_eq (ws' := [(m_manys, .inl (E.2.1 1, 18, .inl f_manys)), (m_reals, .inl (E.2.1 1, 18, .inl f_reals)), (m_factsOf, .inl (E.2.1 1, 432, .inl f_factsOf)), (m_possible, .inl (E.2.1 1, 1728, .inl f_possible)), (m_led, .inl (E.2.1 2, 192, .inr (.inl f_ledz_16))), (hm, .inr (12, [.ref m_manys, .ref m_reals, .ref m_factsOf, .ref m_possible, .int (nI q_undos), .int (nI q_models), .ref m_tape, .int (nI q_taped), .int q_fault, .int q_wrong, .int q_wrongAt, .int q_spot, .int q_place, .int q_token, .int q_value, .ref m_ends, .ref m_letters, .ref m_actOf, .ref m_whom, .ref m_actMany, .ref m_tokens, .ref m_afters, .ref m_afterOf, .int q_counted, .ref m_pile, .ref m_caseMany, .ref m_happen, .ref m_hasIf, .ref m_becomes, .ref m_goneOf, .ref m_heard, .ref m_pairs, .ref m_heaps, .int (nI rz__13), .int (nI hmz_14), .ref m_led, .ref m_newAt, .ref m_knowing, .ref m_firsts, .int (nI q_people), .ref m_secrets, .ref m_tried, .ref m_lanes, .ref m_lengths, .ref m_cells])), (m_heaps, .inl (E.2.1 1, 2400, .inl f_heapsz_15))]) ?_ rfl rfl rfl
      refine ww_aload_n C dX12_same_41 0 rfl rfl ?_
      refine ww_aload_n C dX12_same_42 0 rfl rfl ?_
      refine ww_get C fg_X12_7 5 rfl rfl dX12_same_43 ?_
      refine ww_iconst (v := 0) C dX12_same_46 rfl ?_
      have hbx_27 := (hb_manys 0 (by omega)).2
      refine ww_iald (v := (nI (cN f_manys 0))) C 0 rfl (vin rfl) (hb_manys 0 (by omega)).1 dX12_same_47 ?_
      refine ww_aload_n C dX12_same_48 0 rfl rfl ?_
      refine ww_get C fg_X12_13 5 rfl rfl dX12_same_49 ?_
      refine ww_bipush (v := 6) C dX12_same_52 rfl ?_
      refine ww_iload_n C dX12_same_54 1 rfl rfl ?_
      refine ww_iadd (v := (nI (6 + j_11))) C dX12_same_55 (nI_add 6 j_11) ?_
      have hbx_28 := (hb_reals (6 + j_11) (by omega)).2
      refine ww_iald (v := (nI (cN f_reals (6 + j_11)))) C 1 rfl (vp_in_nI (by omega) (by omega)) (ldn (by omega) (hb_reals (6 + j_11) (by omega)).1) dX12_same_56 ?_
      refine ww_iadd (v := (nI ((cN f_manys 0) + (cN f_reals (6 + j_11))))) C dX12_same_57 (nI_add (cN f_manys 0) (cN f_reals (6 + j_11))) ?_
      refine ww_ci (wr := [(m_manys, .inl (E.2.1 1, 18, .inl f_manys)), (m_reals, .inl (E.2.1 1, 18, .inl f_reals)), (m_factsOf, .inl (E.2.1 1, 432, .inl f_factsOf)), (m_possible, .inl (E.2.1 1, 1728, .inl f_possible)), (m_led, .inl (E.2.1 2, 192, .inr (.inl f_ledz_16)))]) (k' := 0) (n' := 0) C (run_V (As := [.int (nI ((cN f_manys 0) + (cN f_reals (6 + j_11))))]) (rest := [.int (f_heapsz_15 (48 * rz__13 + (cN f_reals 0)))]) C (r_heapOf X.2.1 E ro hm ((cN f_manys 0) + (cN f_reals (6 + j_11))) m_manys m_reals m_factsOf m_possible q_undos q_models m_tape q_taped q_fault q_wrong q_wrongAt q_spot q_place q_token q_value m_ends m_letters m_actOf m_whom m_actMany m_tokens m_afters m_afterOf q_counted m_pile m_caseMany m_happen m_hasIf m_becomes m_goneOf m_heard m_pairs m_heaps rz__13 (nI hmz_14) m_led m_newAt m_knowing m_firsts q_people m_secrets m_tried m_lanes m_lengths m_cells f_heapsz_15 (by omega) (by omega)) mi_X12_heapOf wl_X12_301 rfl 0 12 rfl rfl rfl rfl rfl dX12_same_58) (roK hro) [5, 6] [0, 1, 2, 3, 4] rfl rfl rfl rfl (fun r_29 uz hw => ?_)
      refine an1 hw ?_
      clear hw
      intro he_30 hw
      have he_31 := hw
      clear hw
      have he_30 := he_30.symm
      subst he_30
      subst he_31
      refine ww_eq (ws' := [(m_manys, .inl (E.2.1 1, 18, .inl f_manys)), (m_reals, .inl (E.2.1 1, 18, .inl f_reals)), (m_factsOf, .inl (E.2.1 1, 432, .inl f_factsOf)), (m_possible, .inl (E.2.1 1, 1728, .inl f_possible)), (m_led, .inl (E.2.1 2, 192, .inr (.inl f_ledz_16))), (hm, .inr (12, [.ref m_manys, .ref m_reals, .ref m_factsOf, .ref m_possible, .int (nI q_undos), .int (nI q_models), .ref m_tape, .int (nI q_taped), .int q_fault, .int q_wrong, .int q_wrongAt, .int q_spot, .int q_place, .int q_token, .int q_value, .ref m_ends, .ref m_letters, .ref m_actOf, .ref m_whom, .ref m_actMany, .ref m_tokens, .ref m_afters, .ref m_afterOf, .int q_counted, .ref m_pile, .ref m_caseMany, .ref m_happen, .ref m_hasIf, .ref m_becomes, .ref m_goneOf, .ref m_heard, .ref m_pairs, .ref m_heaps, .int (nI rz__13), .int (nI hmz_14), .ref m_led, .ref m_newAt, .ref m_knowing, .ref m_firsts, .int (nI q_people), .ref m_secrets, .ref m_tried, .ref m_lanes, .ref m_lengths, .ref m_cells])), (m_heaps, .inl (E.2.1 1, 2400, .inl f_heapsz_15))]) ?_ rfl rfl rfl
      refine ww_icmp_ne (tgt := 68) C dX12_same_61 (by decide) (fun c_32 => ?_) (fun c_32 => ?_)
      · have zc_32 : (f_heapsz_15 (48 * rz__13 + (cN f_reals 0))).toInt ≠ (f_heapsz_15 (48 * rz__13 + ((cN f_manys 0) + (cN f_reals (6 + j_11))))).toInt := i_ne rfl rfl c_32
        refine ww_iconst (v := 0) C dX12_same_68 rfl ?_
        exact ww_iret (u := [(hm, .inr (12, [.ref m_manys, .ref m_reals, .ref m_factsOf, .ref m_possible, .int (nI q_undos), .int (nI q_models), .ref m_tape, .int (nI q_taped), .int q_fault, .int q_wrong, .int q_wrongAt, .int q_spot, .int q_place, .int q_token, .int q_value, .ref m_ends, .ref m_letters, .ref m_actOf, .ref m_whom, .ref m_actMany, .ref m_tokens, .ref m_afters, .ref m_afterOf, .int q_counted, .ref m_pile, .ref m_caseMany, .ref m_happen, .ref m_hasIf, .ref m_becomes, .ref m_goneOf, .ref m_heard, .ref m_pairs, .ref m_heaps, .int (nI rz__13), .int (nI hmz_14), .ref m_led, .ref m_newAt, .ref m_knowing, .ref m_firsts, .int (nI q_people), .ref m_secrets, .ref m_tried, .ref m_lanes, .ref m_lengths, .ref m_cells])), (m_manys, .inl (E.2.1 1, 18, .inl f_manys)), (m_reals, .inl (E.2.1 1, 18, .inl f_reals)), (m_factsOf, .inl (E.2.1 1, 432, .inl f_factsOf)), (m_possible, .inl (E.2.1 1, 1728, .inl f_possible)), (m_heaps, .inl (E.2.1 1, 2400, .inl f_heapsz_15)), (m_led, .inl (E.2.1 2, 192, .inr (.inl f_ledz_16)))]) C hT [5, 0, 1, 2, 3, 6, 4] rfl rfl rfl rfl dX12_same_69 (⟨(nI rz__13), (nI hmz_14), f_heapsz_15, f_ledz_16, rfl, (by show _ = if (nI j_11).toInt < 0 ∨ (q_models : Int) ≤ (nI j_11).toInt then -1 else if cN f_manys 0 = 0 then -2 else if clsS (cm2 (pgs f_manys f_reals f_factsOf f_possible 0) (pgs f_manys f_reals f_factsOf f_possible (6 + tN (nI j_11)))) (cN f_reals 0) = clsS (cm2 (pgs f_manys f_reals f_factsOf f_possible 0) (pgs f_manys f_reals f_factsOf f_possible (6 + tN (nI j_11)))) (cN f_manys 0 + cN f_reals (6 + tN (nI j_11))) then 1 else 0; rw [if_neg (show ¬ ((nI j_11).toInt < 0 ∨ (q_models : Int) ≤ (nI j_11).toInt) by omega), if_neg (show ¬ cN f_manys 0 = 0 by omega), tN_n (n := j_11) (by omega), if_neg (fun h8 => absurd ((rk_eq3 (c := cm2 (pgs f_manys f_reals f_factsOf f_possible 0) (pgs f_manys f_reals f_factsOf f_possible (6 + j_11))) (show cN f_manys 0 + cN f_manys (6 + j_11) ≤ 48 by omega) (RST.end h_21 (cm2_wf (hwf 0 (by omega)) (hwf (6 + j_11) (by omega))) h_20) (show cN f_reals 0 < cN f_manys 0 + cN f_manys (6 + j_11) by omega) (show cN f_manys 0 + cN f_reals (6 + j_11) < cN f_manys 0 + cN f_manys (6 + j_11) by omega) rfl rfl).mpr h8) (by assumption))])⟩)
      · have zc_32 : (f_heapsz_15 (48 * rz__13 + (cN f_reals 0))).toInt = (f_heapsz_15 (48 * rz__13 + ((cN f_manys 0) + (cN f_reals (6 + j_11))))).toInt := i_eq rfl rfl c_32
        refine ww_iconst (v := 1) C dX12_same_64 rfl ?_
        refine ww_goto (tgt := 69) C dX12_same_65 (by decide) ?_
        exact ww_iret (u := [(hm, .inr (12, [.ref m_manys, .ref m_reals, .ref m_factsOf, .ref m_possible, .int (nI q_undos), .int (nI q_models), .ref m_tape, .int (nI q_taped), .int q_fault, .int q_wrong, .int q_wrongAt, .int q_spot, .int q_place, .int q_token, .int q_value, .ref m_ends, .ref m_letters, .ref m_actOf, .ref m_whom, .ref m_actMany, .ref m_tokens, .ref m_afters, .ref m_afterOf, .int q_counted, .ref m_pile, .ref m_caseMany, .ref m_happen, .ref m_hasIf, .ref m_becomes, .ref m_goneOf, .ref m_heard, .ref m_pairs, .ref m_heaps, .int (nI rz__13), .int (nI hmz_14), .ref m_led, .ref m_newAt, .ref m_knowing, .ref m_firsts, .int (nI q_people), .ref m_secrets, .ref m_tried, .ref m_lanes, .ref m_lengths, .ref m_cells])), (m_manys, .inl (E.2.1 1, 18, .inl f_manys)), (m_reals, .inl (E.2.1 1, 18, .inl f_reals)), (m_factsOf, .inl (E.2.1 1, 432, .inl f_factsOf)), (m_possible, .inl (E.2.1 1, 1728, .inl f_possible)), (m_heaps, .inl (E.2.1 1, 2400, .inl f_heapsz_15)), (m_led, .inl (E.2.1 2, 192, .inr (.inl f_ledz_16)))]) C hT [5, 0, 1, 2, 3, 6, 4] rfl rfl rfl rfl dX12_same_69 (⟨(nI rz__13), (nI hmz_14), f_heapsz_15, f_ledz_16, rfl, (by show _ = if (nI j_11).toInt < 0 ∨ (q_models : Int) ≤ (nI j_11).toInt then -1 else if cN f_manys 0 = 0 then -2 else if clsS (cm2 (pgs f_manys f_reals f_factsOf f_possible 0) (pgs f_manys f_reals f_factsOf f_possible (6 + tN (nI j_11)))) (cN f_reals 0) = clsS (cm2 (pgs f_manys f_reals f_factsOf f_possible 0) (pgs f_manys f_reals f_factsOf f_possible (6 + tN (nI j_11)))) (cN f_manys 0 + cN f_reals (6 + tN (nI j_11))) then 1 else 0; rw [if_neg (show ¬ ((nI j_11).toInt < 0 ∨ (q_models : Int) ≤ (nI j_11).toInt) by omega), if_neg (show ¬ cN f_manys 0 = 0 by omega), tN_n (n := j_11) (by omega), if_pos ((rk_eq3 (c := cm2 (pgs f_manys f_reals f_factsOf f_possible 0) (pgs f_manys f_reals f_factsOf f_possible (6 + j_11))) (show cN f_manys 0 + cN f_manys (6 + j_11) ≤ 48 by omega) (RST.end h_21 (cm2_wf (hwf 0 (by omega)) (hwf (6 + j_11) (by omega))) h_20) (show cN f_reals 0 < cN f_manys 0 + cN f_manys (6 + j_11) by omega) (show cN f_manys 0 + cN f_reals (6 + j_11) < cN f_manys 0 + cN f_manys (6 + j_11) by omega) rfl rfl).mp (by assumption))])⟩)
    · have zc_10 : ((cN f_manys 0 : Nat) : Int) = 0 := i_eq (nI_toInt (n := cN f_manys 0) (by omega)) rfl c_10
      refine ww_bipush (v := (-2)) C dX12_same_19 rfl ?_
      exact ww_iret (u := [(hm, .inr (12, [.ref m_manys, .ref m_reals, .ref m_factsOf, .ref m_possible, .int (nI q_undos), .int (nI q_models), .ref m_tape, .int (nI q_taped), .int q_fault, .int q_wrong, .int q_wrongAt, .int q_spot, .int q_place, .int q_token, .int q_value, .ref m_ends, .ref m_letters, .ref m_actOf, .ref m_whom, .ref m_actMany, .ref m_tokens, .ref m_afters, .ref m_afterOf, .int q_counted, .ref m_pile, .ref m_caseMany, .ref m_happen, .ref m_hasIf, .ref m_becomes, .ref m_goneOf, .ref m_heard, .ref m_pairs, .ref m_heaps, .int q_rounds, .int q_heapMany, .ref m_led, .ref m_newAt, .ref m_knowing, .ref m_firsts, .int (nI q_people), .ref m_secrets, .ref m_tried, .ref m_lanes, .ref m_lengths, .ref m_cells])), (m_manys, .inl (E.2.1 1, 18, .inl f_manys)), (m_reals, .inl (E.2.1 1, 18, .inl f_reals)), (m_factsOf, .inl (E.2.1 1, 432, .inl f_factsOf)), (m_possible, .inl (E.2.1 1, 1728, .inl f_possible)), (m_heaps, .inl (E.2.1 1, 2400, .inl f_heaps)), (m_led, .inl (E.2.1 2, 192, .inr (.inl f_led)))]) C hT [6, 0, 1, 2, 3, 4, 5] rfl rfl rfl rfl dX12_same_21 (⟨q_rounds, q_heapMany, f_heaps, f_led, rfl, (by show _ = if v0.toInt < 0 ∨ (q_models : Int) ≤ v0.toInt then -1 else if cN f_manys 0 = 0 then -2 else if clsS (cm2 (pgs f_manys f_reals f_factsOf f_possible 0) (pgs f_manys f_reals f_factsOf f_possible (6 + tN v0))) (cN f_reals 0) = clsS (cm2 (pgs f_manys f_reals f_factsOf f_possible 0) (pgs f_manys f_reals f_factsOf f_possible (6 + tN v0))) (cN f_manys 0 + cN f_reals (6 + tN v0)) then 1 else 0; rw [if_neg (show ¬ (v0.toInt < 0 ∨ (q_models : Int) ≤ v0.toInt) by omega), if_pos (show cN f_manys 0 = 0 by omega)])⟩)
  · refine an2 hw ?_
    clear hw
    intro he_7 he_8 hw
    have h_6 := hw
    clear hw
    have he_7 := he_7.symm
    subst he_7
    subst he_8
    refine ww_eq (ws' := [(m_manys, .inl (E.2.1 1, 18, .inl f_manys)), (m_reals, .inl (E.2.1 1, 18, .inl f_reals)), (m_factsOf, .inl (E.2.1 1, 432, .inl f_factsOf)), (m_possible, .inl (E.2.1 1, 1728, .inl f_possible)), (m_heaps, .inl (E.2.1 1, 2400, .inl f_heaps)), (m_led, .inl (E.2.1 2, 192, .inr (.inl f_led))), (hm, .inr (12, [.ref m_manys, .ref m_reals, .ref m_factsOf, .ref m_possible, .int (nI q_undos), .int (nI q_models), .ref m_tape, .int (nI q_taped), .int q_fault, .int q_wrong, .int q_wrongAt, .int q_spot, .int q_place, .int q_token, .int q_value, .ref m_ends, .ref m_letters, .ref m_actOf, .ref m_whom, .ref m_actMany, .ref m_tokens, .ref m_afters, .ref m_afterOf, .int q_counted, .ref m_pile, .ref m_caseMany, .ref m_happen, .ref m_hasIf, .ref m_becomes, .ref m_goneOf, .ref m_heard, .ref m_pairs, .ref m_heaps, .int q_rounds, .int q_heapMany, .ref m_led, .ref m_newAt, .ref m_knowing, .ref m_firsts, .int (nI q_people), .ref m_secrets, .ref m_tried, .ref m_lanes, .ref m_lengths, .ref m_cells]))]) ?_ rfl rfl rfl
    refine ww_if_ne_f (tgt := 10) C dX12_same_5 (by decide) (rfl) ?_
    refine ww_iconst (v := (-1)) C dX12_same_8 rfl ?_
    exact ww_iret (u := [(hm, .inr (12, [.ref m_manys, .ref m_reals, .ref m_factsOf, .ref m_possible, .int (nI q_undos), .int (nI q_models), .ref m_tape, .int (nI q_taped), .int q_fault, .int q_wrong, .int q_wrongAt, .int q_spot, .int q_place, .int q_token, .int q_value, .ref m_ends, .ref m_letters, .ref m_actOf, .ref m_whom, .ref m_actMany, .ref m_tokens, .ref m_afters, .ref m_afterOf, .int q_counted, .ref m_pile, .ref m_caseMany, .ref m_happen, .ref m_hasIf, .ref m_becomes, .ref m_goneOf, .ref m_heard, .ref m_pairs, .ref m_heaps, .int q_rounds, .int q_heapMany, .ref m_led, .ref m_newAt, .ref m_knowing, .ref m_firsts, .int (nI q_people), .ref m_secrets, .ref m_tried, .ref m_lanes, .ref m_lengths, .ref m_cells])), (m_manys, .inl (E.2.1 1, 18, .inl f_manys)), (m_reals, .inl (E.2.1 1, 18, .inl f_reals)), (m_factsOf, .inl (E.2.1 1, 432, .inl f_factsOf)), (m_possible, .inl (E.2.1 1, 1728, .inl f_possible)), (m_heaps, .inl (E.2.1 1, 2400, .inl f_heaps)), (m_led, .inl (E.2.1 2, 192, .inr (.inl f_led)))]) C hT [6, 0, 1, 2, 3, 4, 5] rfl rfl rfl rfl dX12_same_9 (⟨q_rounds, q_heapMany, f_heaps, f_led, rfl, (by show _ = if v0.toInt < 0 ∨ (q_models : Int) ≤ v0.toInt then -1 else if cN f_manys 0 = 0 then -2 else if clsS (cm2 (pgs f_manys f_reals f_factsOf f_possible 0) (pgs f_manys f_reals f_factsOf f_possible (6 + tN v0))) (cN f_reals 0) = clsS (cm2 (pgs f_manys f_reals f_factsOf f_possible 0) (pgs f_manys f_reals f_factsOf f_possible (6 + tN v0))) (cN f_manys 0 + cN f_reals (6 + tN v0)) then 1 else 0; rw [if_pos (show v0.toInt < 0 ∨ (q_models : Int) ≤ v0.toInt by omega)])⟩)
theorem dX12_undo_0 : decode cX12_undo 0 = .ok (.aload_n 0, 1) := by decide +kernel
theorem dX12_undo_1 : decode cX12_undo 1 = .ok (.getfield 105, 3) := by decide +kernel
theorem dX12_undo_4 : decode cX12_undo 4 = .ok (.ifCond .ne 6, 3) := by decide +kernel
theorem dX12_undo_10 : decode cX12_undo 10 = .ok (.aload_n 0, 1) := by decide +kernel
theorem dX12_undo_11 : decode cX12_undo 11 = .ok (.dup, 1) := by decide +kernel
theorem dX12_undo_12 : decode cX12_undo 12 = .ok (.getfield 105, 3) := by decide +kernel
theorem dX12_undo_15 : decode cX12_undo 15 = .ok (.iconst 1, 1) := by decide +kernel
theorem dX12_undo_16 : decode cX12_undo 16 = .ok (.isub, 1) := by decide +kernel
theorem dX12_undo_17 : decode cX12_undo 17 = .ok (.putfield 105, 3) := by decide +kernel
theorem dX12_undo_20 : decode cX12_undo 20 = .ok (.aload_n 0, 1) := by decide +kernel
theorem dX12_undo_21 : decode cX12_undo 21 = .ok (.bipush 10, 2) := by decide +kernel
theorem dX12_undo_23 : decode cX12_undo 23 = .ok (.aload_n 0, 1) := by decide +kernel
theorem dX12_undo_24 : decode cX12_undo 24 = .ok (.getfield 105, 3) := by decide +kernel
theorem dX12_undo_27 : decode cX12_undo 27 = .ok (.iadd, 1) := by decide +kernel
theorem dX12_undo_28 : decode cX12_undo 28 = .ok (.iconst 0, 1) := by decide +kernel
theorem dX12_undo_29 : decode cX12_undo 29 = .ok (.invokevirtual 109, 3) := by decide +kernel
theorem dX12_undo_32 : decode cX12_undo 32 = .ok (.aload_n 0, 1) := by decide +kernel
theorem dX12_undo_33 : decode cX12_undo 33 = .ok (.getfield 105, 3) := by decide +kernel
theorem dX12_undo_36 : decode cX12_undo 36 = .ok (.ireturn, 1) := by decide +kernel
theorem dX12_undo_7 : decode cX12_undo 7 = .ok (.bipush (-4), 2) := by decide +kernel
theorem dX12_undo_9 : decode cX12_undo 9 = .ok (.ireturn, 1) := by decide +kernel
set_option maxRecDepth 100000 in
set_option maxHeartbeats 4000000 in
theorem y_undo (l : Launch) (E : EV) (ro : va_W) (hm : Nat) (m_manys : Nat) (m_reals : Nat) (m_factsOf : Nat) (m_possible : Nat) (q_undos : Nat) (q_models : Nat) (m_tape : Nat) (q_taped : Nat) (q_fault : Int32) (q_wrong : Int32) (q_wrongAt : Int32) (q_spot : Int32) (q_place : Int32) (q_token : Int32) (q_value : Int32) (m_ends : Nat) (m_letters : Nat) (m_actOf : Nat) (m_whom : Nat) (m_actMany : Nat) (m_tokens : Nat) (m_afters : Nat) (m_afterOf : Nat) (q_counted : Int32) (m_pile : Nat) (m_caseMany : Nat) (m_happen : Nat) (m_hasIf : Nat) (m_becomes : Nat) (m_goneOf : Nat) (m_heard : Nat) (m_pairs : Nat) (m_heaps : Nat) (q_rounds : Int32) (q_heapMany : Int32) (m_led : Nat) (m_newAt : Nat) (m_knowing : Nat) (m_firsts : Nat) (q_people : Nat) (m_secrets : Nat) (m_tried : Nat) (m_lanes : Nat) (m_lengths : Nat) (m_cells : Nat) (f_manys : Nat → Int32) (f_reals : Nat → Int32) (f_factsOf : Nat → Int32) (f_possible : Nat → Int32) (hb_manys : NB 18 24 f_manys) (hb_reals : NB 18 23 f_reals) (hpg : PG f_manys f_reals) (hwf : WFP (pgs f_manys f_reals f_factsOf f_possible)) (hq_undos : q_undos ≤ 8) : CT l yX12_undo (Cond.code yX12_undo cX12_undo 1 (some .int) :: TB) ({ frames := 1, cells := 0, slots := 0, locals := 23 }) E ro [.ref hm] [(hm, .inr (12, [.ref m_manys, .ref m_reals, .ref m_factsOf, .ref m_possible, .int (nI q_undos), .int (nI q_models), .ref m_tape, .int (nI q_taped), .int q_fault, .int q_wrong, .int q_wrongAt, .int q_spot, .int q_place, .int q_token, .int q_value, .ref m_ends, .ref m_letters, .ref m_actOf, .ref m_whom, .ref m_actMany, .ref m_tokens, .ref m_afters, .ref m_afterOf, .int q_counted, .ref m_pile, .ref m_caseMany, .ref m_happen, .ref m_hasIf, .ref m_becomes, .ref m_goneOf, .ref m_heard, .ref m_pairs, .ref m_heaps, .int q_rounds, .int q_heapMany, .ref m_led, .ref m_newAt, .ref m_knowing, .ref m_firsts, .int (nI q_people), .ref m_secrets, .ref m_tried, .ref m_lanes, .ref m_lengths, .ref m_cells])), (m_manys, .inl (E.2.1 1, 18, .inl f_manys)), (m_reals, .inl (E.2.1 1, 18, .inl f_reals)), (m_factsOf, .inl (E.2.1 1, 432, .inl f_factsOf)), (m_possible, .inl (E.2.1 1, 1728, .inl f_possible))] (Qi E (fun (rz : Int32) uz => (∃ (uz_ : Nat) (f_manysz : Nat → Int32) (f_realsz : Nat → Int32) (f_factsOfz : Nat → Int32) (f_possiblez : Nat → Int32), uz = [(hm, .inr (12, [.ref m_manys, .ref m_reals, .ref m_factsOf, .ref m_possible, .int (nI uz_), .int (nI q_models), .ref m_tape, .int (nI q_taped), .int q_fault, .int q_wrong, .int q_wrongAt, .int q_spot, .int q_place, .int q_token, .int q_value, .ref m_ends, .ref m_letters, .ref m_actOf, .ref m_whom, .ref m_actMany, .ref m_tokens, .ref m_afters, .ref m_afterOf, .int q_counted, .ref m_pile, .ref m_caseMany, .ref m_happen, .ref m_hasIf, .ref m_becomes, .ref m_goneOf, .ref m_heard, .ref m_pairs, .ref m_heaps, .int q_rounds, .int q_heapMany, .ref m_led, .ref m_newAt, .ref m_knowing, .ref m_firsts, .int (nI q_people), .ref m_secrets, .ref m_tried, .ref m_lanes, .ref m_lengths, .ref m_cells])), (m_manys, .inl (E.2.1 1, 18, .inl f_manysz)), (m_reals, .inl (E.2.1 1, 18, .inl f_realsz)), (m_factsOf, .inl (E.2.1 1, 432, .inl f_factsOfz)), (m_possible, .inl (E.2.1 1, 1728, .inl f_possiblez))] ∧ (NB 18 24 f_manysz) ∧ (NB 18 23 f_realsz) ∧ (PG f_manysz f_realsz) ∧ (WFP (pgs f_manysz f_realsz f_factsOfz f_possiblez)) ∧ (uz_ ≤ 8) ∧ ((asM uz_ (pgs f_manysz f_realsz f_factsOfz f_possiblez), rz) = opUndo (asM q_undos (pgs f_manys f_reals f_factsOf f_possible))) ∧ (KP6 (pgs f_manys f_reals f_factsOf f_possible) (pgs f_manysz f_realsz f_factsOfz f_possiblez))))) 0 0 := by
  refine ct_of rfl rfl ?_
  intro X C hT hin hro
  show WW X 1 E 0 [(0, .ref hm)] [] [(hm, .inr (12, [.ref m_manys, .ref m_reals, .ref m_factsOf, .ref m_possible, .int (nI q_undos), .int (nI q_models), .ref m_tape, .int (nI q_taped), .int q_fault, .int q_wrong, .int q_wrongAt, .int q_spot, .int q_place, .int q_token, .int q_value, .ref m_ends, .ref m_letters, .ref m_actOf, .ref m_whom, .ref m_actMany, .ref m_tokens, .ref m_afters, .ref m_afterOf, .int q_counted, .ref m_pile, .ref m_caseMany, .ref m_happen, .ref m_hasIf, .ref m_becomes, .ref m_goneOf, .ref m_heard, .ref m_pairs, .ref m_heaps, .int q_rounds, .int q_heapMany, .ref m_led, .ref m_newAt, .ref m_knowing, .ref m_firsts, .int (nI q_people), .ref m_secrets, .ref m_tried, .ref m_lanes, .ref m_lengths, .ref m_cells])), (m_manys, .inl (E.2.1 1, 18, .inl f_manys)), (m_reals, .inl (E.2.1 1, 18, .inl f_reals)), (m_factsOf, .inl (E.2.1 1, 432, .inl f_factsOf)), (m_possible, .inl (E.2.1 1, 1728, .inl f_possible))] 0 0
  have hmn0 := (hb_manys 0 (by omega)).2
  refine ww_aload_n C dX12_undo_0 0 rfl rfl ?_
  refine ww_get C fg_X12_105 0 rfl rfl dX12_undo_1 ?_
  refine ww_if_ne (tgt := 10) C dX12_undo_4 (by decide) (fun c_1 => ?_) (fun c_1 => ?_)
  · have zc_1 : ((q_undos : Nat) : Int) ≠ 0 := i_ne (nI_toInt (n := q_undos) (by omega)) rfl c_1
    refine ww_aload_n C dX12_undo_10 0 rfl rfl ?_
    refine ww_dup C dX12_undo_11 rfl ?_
    refine ww_get C fg_X12_105 0 rfl rfl dX12_undo_12 ?_
    refine ww_iconst (v := 1) C dX12_undo_15 rfl ?_
    refine ww_isub (v := (nI (q_undos - 1))) C dX12_undo_16 (pk_sub (a := q_undos) (b := 1) (by omega)) ?_
    refine ww_put (ws' := [(hm, .inr (12, [.ref m_manys, .ref m_reals, .ref m_factsOf, .ref m_possible, .int (nI (q_undos - 1)), .int (nI q_models), .ref m_tape, .int (nI q_taped), .int q_fault, .int q_wrong, .int q_wrongAt, .int q_spot, .int q_place, .int q_token, .int q_value, .ref m_ends, .ref m_letters, .ref m_actOf, .ref m_whom, .ref m_actMany, .ref m_tokens, .ref m_afters, .ref m_afterOf, .int q_counted, .ref m_pile, .ref m_caseMany, .ref m_happen, .ref m_hasIf, .ref m_becomes, .ref m_goneOf, .ref m_heard, .ref m_pairs, .ref m_heaps, .int q_rounds, .int q_heapMany, .ref m_led, .ref m_newAt, .ref m_knowing, .ref m_firsts, .int (nI q_people), .ref m_secrets, .ref m_tried, .ref m_lanes, .ref m_lengths, .ref m_cells])), (m_manys, .inl (E.2.1 1, 18, .inl f_manys)), (m_reals, .inl (E.2.1 1, 18, .inl f_reals)), (m_factsOf, .inl (E.2.1 1, 432, .inl f_factsOf)), (m_possible, .inl (E.2.1 1, 1728, .inl f_possible))]) C fp_X12_105 0 rfl rfl rfl rfl rfl dX12_undo_17 ?_
    refine ww_aload_n C dX12_undo_20 0 rfl rfl ?_
    refine ww_bipush (v := 10) C dX12_undo_21 rfl ?_
    refine ww_aload_n C dX12_undo_23 0 rfl rfl ?_
    refine ww_get C fg_X12_105 0 rfl rfl dX12_undo_24 ?_
    refine ww_iadd (v := (nI (10 + (q_undos - 1)))) C dX12_undo_27 (nI_add 10 (q_undos - 1)) ?_
    refine ww_iconst (v := 0) C dX12_undo_28 rfl ?_
    refine ww_cv (wr := []) (k' := 0) (n' := 0) C (run_V (As := [.int (nI (10 + (q_undos - 1))), .int 0]) (rest := []) C (r_copy X.2.1 E ro hm (10 + (q_undos - 1)) 0 m_manys m_reals m_factsOf m_possible (q_undos - 1) q_models m_tape q_taped q_fault q_wrong q_wrongAt q_spot q_place q_token q_value m_ends m_letters m_actOf m_whom m_actMany m_tokens m_afters m_afterOf q_counted m_pile m_caseMany m_happen m_hasIf m_becomes m_goneOf m_heard m_pairs m_heaps q_rounds q_heapMany m_led m_newAt m_knowing m_firsts q_people m_secrets m_tried m_lanes m_lengths m_cells f_manys f_reals f_factsOf f_possible hb_manys hb_reals hpg hwf (by omega) (by omega)) mi_X12_copy wl_X12_109 rfl 0 12 rfl rfl rfl rfl rfl dX12_undo_29) (roK hro) [0, 1, 2, 3, 4] [] rfl rfl rfl rfl (fun uz hw => ?_)
    refine ex4 hw ?_
    clear hw
    intro f_manysz_3 f_realsz_4 f_factsOfz_5 f_possiblez_6 hw
    refine an8 hw ?_
    clear hw
    intro he_16 h_7 h_8 h_9 h_10 h_11 h_12 h_13 hw
    refine an1 hw ?_
    clear hw
    intro h_14 hw
    have h_15 := hw
    clear hw
    subst he_16
    refine ww_eq (ws' := [(hm, .inr (12, [.ref m_manys, .ref m_reals, .ref m_factsOf, .ref m_possible, .int (nI (q_undos - 1)), .int (nI q_models), .ref m_tape, .int (nI q_taped), .int q_fault, .int q_wrong, .int q_wrongAt, .int q_spot, .int q_place, .int q_token, .int q_value, .ref m_ends, .ref m_letters, .ref m_actOf, .ref m_whom, .ref m_actMany, .ref m_tokens, .ref m_afters, .ref m_afterOf, .int q_counted, .ref m_pile, .ref m_caseMany, .ref m_happen, .ref m_hasIf, .ref m_becomes, .ref m_goneOf, .ref m_heard, .ref m_pairs, .ref m_heaps, .int q_rounds, .int q_heapMany, .ref m_led, .ref m_newAt, .ref m_knowing, .ref m_firsts, .int (nI q_people), .ref m_secrets, .ref m_tried, .ref m_lanes, .ref m_lengths, .ref m_cells])), (m_manys, .inl (E.2.1 1, 18, .inl f_manysz_3)), (m_reals, .inl (E.2.1 1, 18, .inl f_realsz_4)), (m_factsOf, .inl (E.2.1 1, 432, .inl f_factsOfz_5)), (m_possible, .inl (E.2.1 1, 1728, .inl f_possiblez_6))]) ?_ rfl rfl rfl
    refine ww_aload_n C dX12_undo_32 0 rfl rfl ?_
    refine ww_get C fg_X12_105 0 rfl rfl dX12_undo_33 ?_
    exact ww_iret (u := [(hm, .inr (12, [.ref m_manys, .ref m_reals, .ref m_factsOf, .ref m_possible, .int (nI (q_undos - 1)), .int (nI q_models), .ref m_tape, .int (nI q_taped), .int q_fault, .int q_wrong, .int q_wrongAt, .int q_spot, .int q_place, .int q_token, .int q_value, .ref m_ends, .ref m_letters, .ref m_actOf, .ref m_whom, .ref m_actMany, .ref m_tokens, .ref m_afters, .ref m_afterOf, .int q_counted, .ref m_pile, .ref m_caseMany, .ref m_happen, .ref m_hasIf, .ref m_becomes, .ref m_goneOf, .ref m_heard, .ref m_pairs, .ref m_heaps, .int q_rounds, .int q_heapMany, .ref m_led, .ref m_newAt, .ref m_knowing, .ref m_firsts, .int (nI q_people), .ref m_secrets, .ref m_tried, .ref m_lanes, .ref m_lengths, .ref m_cells])), (m_manys, .inl (E.2.1 1, 18, .inl f_manysz_3)), (m_reals, .inl (E.2.1 1, 18, .inl f_realsz_4)), (m_factsOf, .inl (E.2.1 1, 432, .inl f_factsOfz_5)), (m_possible, .inl (E.2.1 1, 1728, .inl f_possiblez_6))]) C hT [0, 1, 2, 3, 4] rfl rfl rfl rfl dX12_undo_36 (⟨(q_undos - 1), f_manysz_3, f_realsz_4, f_factsOfz_5, f_possiblez_6, rfl, h_7, h_8, h_9, h_10, (by omega), (by show _ = if q_undos = 0 then ((asM q_undos (pgs f_manys f_reals f_factsOf f_possible)), -4) else (aUndo (asM q_undos (pgs f_manys f_reals f_factsOf f_possible)), nI (q_undos - 1)); rw [if_neg (show ¬ (q_undos = 0) by omega)]; exact Prod.ext (asM_undo hq_undos (by omega) rfl ((h_15 0 (by omega)).trans (if_pos rfl)) (fun p a b => (h_15 p b).trans (if_neg (by omega)))) rfl), (fun p a b => (h_15 p (by omega)).trans (if_neg (by omega)))⟩)
  · have zc_1 : ((q_undos : Nat) : Int) = 0 := i_eq (nI_toInt (n := q_undos) (by omega)) rfl c_1
    refine ww_bipush (v := (-4)) C dX12_undo_7 rfl ?_
    exact ww_iret (u := [(hm, .inr (12, [.ref m_manys, .ref m_reals, .ref m_factsOf, .ref m_possible, .int (nI q_undos), .int (nI q_models), .ref m_tape, .int (nI q_taped), .int q_fault, .int q_wrong, .int q_wrongAt, .int q_spot, .int q_place, .int q_token, .int q_value, .ref m_ends, .ref m_letters, .ref m_actOf, .ref m_whom, .ref m_actMany, .ref m_tokens, .ref m_afters, .ref m_afterOf, .int q_counted, .ref m_pile, .ref m_caseMany, .ref m_happen, .ref m_hasIf, .ref m_becomes, .ref m_goneOf, .ref m_heard, .ref m_pairs, .ref m_heaps, .int q_rounds, .int q_heapMany, .ref m_led, .ref m_newAt, .ref m_knowing, .ref m_firsts, .int (nI q_people), .ref m_secrets, .ref m_tried, .ref m_lanes, .ref m_lengths, .ref m_cells])), (m_manys, .inl (E.2.1 1, 18, .inl f_manys)), (m_reals, .inl (E.2.1 1, 18, .inl f_reals)), (m_factsOf, .inl (E.2.1 1, 432, .inl f_factsOf)), (m_possible, .inl (E.2.1 1, 1728, .inl f_possible))]) C hT [0, 1, 2, 3, 4] rfl rfl rfl rfl dX12_undo_9 (⟨q_undos, f_manys, f_reals, f_factsOf, f_possible, rfl, hb_manys, hb_reals, hpg, hwf, (by omega), (by show _ = if q_undos = 0 then ((asM q_undos (pgs f_manys f_reals f_factsOf f_possible)), -4) else (aUndo (asM q_undos (pgs f_manys f_reals f_factsOf f_possible)), nI (q_undos - 1)); rw [if_pos (show q_undos = 0 by omega)]), KP6.rf⟩)
