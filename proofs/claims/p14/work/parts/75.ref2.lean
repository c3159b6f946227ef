theorem dX12_addWorld_0 : decode cX12_addWorld 0 = .ok (.aload_n 0, 1) := dl_42 (by decide +kernel)
theorem dX12_addWorld_1 : decode cX12_addWorld 1 = .ok (.getfield 7, 3) := dl_180 (by decide +kernel)
theorem dX12_addWorld_4 : decode cX12_addWorld 4 = .ok (.iconst 0, 1) := dl_3 (by decide +kernel)
theorem dX12_addWorld_5 : decode cX12_addWorld 5 = .ok (.iaload, 1) := dl_46 (by decide +kernel)
theorem dX12_addWorld_6 : decode cX12_addWorld 6 = .ok (.istore_n 2, 1) := dl_61 (by decide +kernel)
theorem dX12_addWorld_7 : decode cX12_addWorld 7 = .ok (.aload_n 0, 1) := dl_42 (by decide +kernel)
theorem dX12_addWorld_8 : decode cX12_addWorld 8 = .ok (.getfield 16, 3) := dl_180 (by decide +kernel)
theorem dX12_addWorld_11 : decode cX12_addWorld 11 = .ok (.iload_n 2, 1) := dl_28 (by decide +kernel)
theorem dX12_addWorld_12 : decode cX12_addWorld 12 = .ok (.iload_n 1, 1) := dl_27 (by decide +kernel)
theorem dX12_addWorld_13 : decode cX12_addWorld 13 = .ok (.iastore, 1) := dl_79 (by decide +kernel)
theorem dX12_addWorld_14 : decode cX12_addWorld 14 = .ok (.iconst 0, 1) := dl_3 (by decide +kernel)
theorem dX12_addWorld_15 : decode cX12_addWorld 15 = .ok (.istore_n 3, 1) := dl_62 (by decide +kernel)
theorem dX12_addWorld_16 : decode cX12_addWorld 16 = .ok (.iload_n 3, 1) := dl_29 (by decide +kernel)
theorem dX12_addWorld_17 : decode cX12_addWorld 17 = .ok (.iconst 4, 1) := dl_7 (by decide +kernel)
theorem dX12_addWorld_18 : decode cX12_addWorld 18 = .ok (.if_icmp .ge 21, 3) := dl_162 (by decide +kernel)
theorem dX12_addWorld_39 : decode cX12_addWorld 39 = .ok (.aload_n 0, 1) := dl_42 (by decide +kernel)
theorem dX12_addWorld_40 : decode cX12_addWorld 40 = .ok (.getfield 13, 3) := dl_180 (by decide +kernel)
theorem dX12_addWorld_43 : decode cX12_addWorld 43 = .ok (.iconst 0, 1) := dl_3 (by decide +kernel)
theorem dX12_addWorld_44 : decode cX12_addWorld 44 = .ok (.iload_n 2, 1) := dl_28 (by decide +kernel)
theorem dX12_addWorld_45 : decode cX12_addWorld 45 = .ok (.ifCond .ne 7, 3) := dl_154 (by decide +kernel)
theorem dX12_addWorld_52 : decode cX12_addWorld 52 = .ok (.aload_n 0, 1) := dl_42 (by decide +kernel)
theorem dX12_addWorld_53 : decode cX12_addWorld 53 = .ok (.getfield 13, 3) := dl_180 (by decide +kernel)
theorem dX12_addWorld_56 : decode cX12_addWorld 56 = .ok (.iconst 0, 1) := dl_3 (by decide +kernel)
theorem dX12_addWorld_57 : decode cX12_addWorld 57 = .ok (.iaload, 1) := dl_46 (by decide +kernel)
theorem dX12_addWorld_58 : decode cX12_addWorld 58 = .ok (.iastore, 1) := dl_79 (by decide +kernel)
theorem dX12_addWorld_59 : decode cX12_addWorld 59 = .ok (.aload_n 0, 1) := dl_42 (by decide +kernel)
theorem dX12_addWorld_60 : decode cX12_addWorld 60 = .ok (.getfield 7, 3) := dl_180 (by decide +kernel)
theorem dX12_addWorld_63 : decode cX12_addWorld 63 = .ok (.iconst 0, 1) := dl_3 (by decide +kernel)
theorem dX12_addWorld_64 : decode cX12_addWorld 64 = .ok (.dup2, 1) := dl_92 (by decide +kernel)
theorem dX12_addWorld_65 : decode cX12_addWorld 65 = .ok (.iaload, 1) := dl_46 (by decide +kernel)
theorem dX12_addWorld_66 : decode cX12_addWorld 66 = .ok (.iconst 1, 1) := dl_4 (by decide +kernel)
theorem dX12_addWorld_67 : decode cX12_addWorld 67 = .ok (.iadd, 1) := dl_96 (by decide +kernel)
theorem dX12_addWorld_68 : decode cX12_addWorld 68 = .ok (.iastore, 1) := dl_79 (by decide +kernel)
theorem dX12_addWorld_69 : decode cX12_addWorld 69 = .ok (.return_, 1) := dl_177 (by decide +kernel)
theorem dX12_addWorld_48 : decode cX12_addWorld 48 = .ok (.iconst 0, 1) := dl_3 (by decide +kernel)
theorem dX12_addWorld_49 : decode cX12_addWorld 49 = .ok (.goto 9, 3) := dl_167 (by decide +kernel)
theorem dX12_addWorld_21 : decode cX12_addWorld 21 = .ok (.aload_n 0, 1) := dl_42 (by decide +kernel)
theorem dX12_addWorld_22 : decode cX12_addWorld 22 = .ok (.getfield 19, 3) := dl_180 (by decide +kernel)
theorem dX12_addWorld_25 : decode cX12_addWorld 25 = .ok (.bipush 24, 2) := dl_16 (by decide +kernel)
theorem dX12_addWorld_27 : decode cX12_addWorld 27 = .ok (.iload_n 3, 1) := dl_29 (by decide +kernel)
theorem dX12_addWorld_28 : decode cX12_addWorld 28 = .ok (.imul, 1) := dl_104 (by decide +kernel)
theorem dX12_addWorld_29 : decode cX12_addWorld 29 = .ok (.iload_n 2, 1) := dl_28 (by decide +kernel)
theorem dX12_addWorld_30 : decode cX12_addWorld 30 = .ok (.iadd, 1) := dl_96 (by decide +kernel)
theorem dX12_addWorld_31 : decode cX12_addWorld 31 = .ok (.iconst 0, 1) := dl_3 (by decide +kernel)
theorem dX12_addWorld_32 : decode cX12_addWorld 32 = .ok (.iastore, 1) := dl_79 (by decide +kernel)
theorem dX12_addWorld_33 : decode cX12_addWorld 33 = .ok (.iinc 3 1, 3) := dl_132 (by decide +kernel)
theorem dX12_addWorld_36 : decode cX12_addWorld 36 = .ok (.goto (-20), 3) := dl_167 (by decide +kernel)
set_option maxRecDepth 100000 in
set_option maxHeartbeats 4000000 in
theorem r_addWorld (l : Launch) (E : EV) (ro : va_W) (hm : Nat) (x : Int32) (m_manys : Nat) (m_reals : Nat) (m_factsOf : Nat) (m_possible : Nat) (q_undos : Nat) (q_models : Nat) (m_tape : Nat) (q_taped : Nat) (q_fault : Int32) (q_wrong : Int32) (q_wrongAt : Int32) (q_spot : Int32) (q_place : Int32) (q_token : Int32) (q_value : Int32) (m_ends : Nat) (m_letters : Nat) (m_actOf : Nat) (m_whom : Nat) (m_actMany : Nat) (m_tokens : Nat) (m_afters : Nat) (m_afterOf : Nat) (q_counted : Int32) (m_pile : Nat) (m_caseMany : Nat) (m_happen : Nat) (m_hasIf : Nat) (m_becomes : Nat) (m_goneOf : Nat) (m_heard : Nat) (m_pairs : Nat) (m_heaps : Nat) (q_rounds : Int32) (q_heapMany : Int32) (m_led : Nat) (m_newAt : Nat) (m_knowing : Nat) (m_firsts : Nat) (q_people : Nat) (m_secrets : Nat) (m_tried : Nat) (m_lanes : Nat) (m_lengths : Nat) (m_cells : Nat) (f_manys : Nat → Int32) (f_reals : Nat → Int32) (f_factsOf : Nat → Int32) (f_possible : Nat → Int32) (hb_manys : NB 18 24 f_manys) (hb_reals : NB 18 23 f_reals) (hpg : PG f_manys f_reals) (hwf : WFP (pgs f_manys f_reals f_factsOf f_possible)) (hfull : cN f_manys 0 < 24) : CT l yX12_addWorld (Cond.code yX12_addWorld cX12_addWorld 4 none :: TB) ({ frames := 0, cells := 0, slots := 0, locals := 0 }) E ro [.ref hm, .int x] [(hm, .inr (12, [.ref m_manys, .ref m_reals, .ref m_factsOf, .ref m_possible, .int (nI q_undos), .int (nI q_models), .ref m_tape, .int (nI q_taped), .int q_fault, .int q_wrong, .int q_wrongAt, .int q_spot, .int q_place, .int q_token, .int q_value, .ref m_ends, .ref m_letters, .ref m_actOf, .ref m_whom, .ref m_actMany, .ref m_tokens, .ref m_afters, .ref m_afterOf, .int q_counted, .ref m_pile, .ref m_caseMany, .ref m_happen, .ref m_hasIf, .ref m_becomes, .ref m_goneOf, .ref m_heard, .ref m_pairs, .ref m_heaps, .int q_rounds, .int q_heapMany, .ref m_led, .ref m_newAt, .ref m_knowing, .ref m_firsts, .int (nI q_people), .ref m_secrets, .ref m_tried, .ref m_lanes, .ref m_lengths, .ref m_cells])), (m_manys, .inl (E.2.1 1, 18, .inl f_manys)), (m_reals, .inl (E.2.1 1, 18, .inl f_reals)), (m_factsOf, .inl (E.2.1 1, 432, .inl f_factsOf)), (m_possible, .inl (E.2.1 1, 1728, .inl f_possible))] (Qv E (fun uz => (∃ (f_manysz : Nat → Int32) (f_realsz : Nat → Int32) (f_factsOfz : Nat → Int32) (f_possiblez : Nat → Int32), uz = [(hm, .inr (12, [.ref m_manys, .ref m_reals, .ref m_factsOf, .ref m_possible, .int (nI q_undos), .int (nI q_models), .ref m_tape, .int (nI q_taped), .int q_fault, .int q_wrong, .int q_wrongAt, .int q_spot, .int q_place, .int q_token, .int q_value, .ref m_ends, .ref m_letters, .ref m_actOf, .ref m_whom, .ref m_actMany, .ref m_tokens, .ref m_afters, .ref m_afterOf, .int q_counted, .ref m_pile, .ref m_caseMany, .ref m_happen, .ref m_hasIf, .ref m_becomes, .ref m_goneOf, .ref m_heard, .ref m_pairs, .ref m_heaps, .int q_rounds, .int q_heapMany, .ref m_led, .ref m_newAt, .ref m_knowing, .ref m_firsts, .int (nI q_people), .ref m_secrets, .ref m_tried, .ref m_lanes, .ref m_lengths, .ref m_cells])), (m_manys, .inl (E.2.1 1, 18, .inl f_manysz)), (m_reals, .inl (E.2.1 1, 18, .inl f_realsz)), (m_factsOf, .inl (E.2.1 1, 432, .inl f_factsOfz)), (m_possible, .inl (E.2.1 1, 1728, .inl f_possiblez))] ∧ (NB 18 24 f_manysz) ∧ (NB 18 23 f_realsz) ∧ (PG f_manysz f_realsz) ∧ (WFP (pgs f_manysz f_realsz f_factsOfz f_possiblez)) ∧ (upd f_manys 0 (nI (cN f_manys 0 + 1)) = f_manysz) ∧ (pgs f_manysz f_realsz f_factsOfz f_possiblez 0 = aAdd (pgs f_manys f_reals f_factsOf f_possible 0) x) ∧ (OTH 0 (pgs f_manys f_reals f_factsOf f_possible) (pgs f_manysz f_realsz f_factsOfz f_possiblez)) ∧ (cN f_realsz 0 = cN f_reals 0)))) 0 0 := by
  refine ct_of rfl rfl ?_
  intro X C hT hin hro
  show WW X 4 E 0 [(0, .ref hm), (1, .int x)] [] [(hm, .inr (12, [.ref m_manys, .ref m_reals, .ref m_factsOf, .ref m_possible, .int (nI q_undos), .int (nI q_models), .ref m_tape, .int (nI q_taped), .int q_fault, .int q_wrong, .int q_wrongAt, .int q_spot, .int q_place, .int q_token, .int q_value, .ref m_ends, .ref m_letters, .ref m_actOf, .ref m_whom, .ref m_actMany, .ref m_tokens, .ref m_afters, .ref m_afterOf, .int q_counted, .ref m_pile, .ref m_caseMany, .ref m_happen, .ref m_hasIf, .ref m_becomes, .ref m_goneOf, .ref m_heard, .ref m_pairs, .ref m_heaps, .int q_rounds, .int q_heapMany, .ref m_led, .ref m_newAt, .ref m_knowing, .ref m_firsts, .int (nI q_people), .ref m_secrets, .ref m_tried, .ref m_lanes, .ref m_lengths, .ref m_cells])), (m_manys, .inl (E.2.1 1, 18, .inl f_manys)), (m_reals, .inl (E.2.1 1, 18, .inl f_reals)), (m_factsOf, .inl (E.2.1 1, 432, .inl f_factsOf)), (m_possible, .inl (E.2.1 1, 1728, .inl f_possible))] 0 0
  have hmn0 := (hb_manys 0 (by omega)).2
  refine ww_aload_n C dX12_addWorld_0 0 rfl rfl ?_
  refine ww_get C fg_X12_7 0 rfl rfl dX12_addWorld_1 ?_
  refine ww_iconst (v := 0) C dX12_addWorld_4 rfl ?_
  have hbx_1 := (hb_manys 0 (by omega)).2
  refine ww_iald (v := (nI (cN f_manys 0))) C 1 rfl (vin rfl) (hb_manys 0 (by omega)).1 dX12_addWorld_5 ?_
  refine ww_istore_n (lv' := [(2, .int (nI (cN f_manys 0))), (0, .ref hm), (1, .int x)]) C dX12_addWorld_6 rfl rfl rfl ?_
  refine ww_aload_n C dX12_addWorld_7 1 rfl rfl ?_
  refine ww_get C fg_X12_16 0 rfl rfl dX12_addWorld_8 ?_
  refine ww_iload_n C dX12_addWorld_11 0 rfl rfl ?_
  refine ww_iload_n C dX12_addWorld_12 2 rfl rfl ?_
  obtain ⟨f_2, ef_2⟩ : ∃ z : Nat → Int32, upd f_factsOf (cN f_manys 0) x = z := ⟨_, rfl⟩
  refine ww_iast (ws' := [(hm, .inr (12, [.ref m_manys, .ref m_reals, .ref m_factsOf, .ref m_possible, .int (nI q_undos), .int (nI q_models), .ref m_tape, .int (nI q_taped), .int q_fault, .int q_wrong, .int q_wrongAt, .int q_spot, .int q_place, .int q_token, .int q_value, .ref m_ends, .ref m_letters, .ref m_actOf, .ref m_whom, .ref m_actMany, .ref m_tokens, .ref m_afters, .ref m_afterOf, .int q_counted, .ref m_pile, .ref m_caseMany, .ref m_happen, .ref m_hasIf, .ref m_becomes, .ref m_goneOf, .ref m_heard, .ref m_pairs, .ref m_heaps, .int q_rounds, .int q_heapMany, .ref m_led, .ref m_newAt, .ref m_knowing, .ref m_firsts, .int (nI q_people), .ref m_secrets, .ref m_tried, .ref m_lanes, .ref m_lengths, .ref m_cells])), (m_manys, .inl (E.2.1 1, 18, .inl f_manys)), (m_reals, .inl (E.2.1 1, 18, .inl f_reals)), (m_factsOf, .inl (E.2.1 1, 432, .inl f_2)), (m_possible, .inl (E.2.1 1, 1728, .inl f_possible))]) C 3 rfl (vp_in_nI (by omega) (by omega)) (ldn2 (by omega) ef_2) rfl dX12_addWorld_13 ?_
  refine ww_iconst (v := 0) C dX12_addWorld_14 rfl ?_
  refine ww_istore_n (lv' := [(3, .int 0), (2, .int (nI (cN f_manys 0))), (0, .ref hm), (1, .int x)]) C dX12_addWorld_15 rfl rfl rfl ?_
  have loop_16 : ∀ (fu : Nat) (i1 : Nat) (g1 : Nat → Int32), (i1 ≤ 4) → (RZ (cN f_manys 0) i1 f_possible g1) → (OFF 96 0 f_possible g1) → 4 - i1 < fu → WW X 4 E 16 [(3, .int (nI i1)), (2, .int (nI (cN f_manys 0))), (0, .ref hm), (1, .int x)] [] [(hm, .inr (12, [.ref m_manys, .ref m_reals, .ref m_factsOf, .ref m_possible, .int (nI q_undos), .int (nI q_models), .ref m_tape, .int (nI q_taped), .int q_fault, .int q_wrong, .int q_wrongAt, .int q_spot, .int q_place, .int q_token, .int q_value, .ref m_ends, .ref m_letters, .ref m_actOf, .ref m_whom, .ref m_actMany, .ref m_tokens, .ref m_afters, .ref m_afterOf, .int q_counted, .ref m_pile, .ref m_caseMany, .ref m_happen, .ref m_hasIf, .ref m_becomes, .ref m_goneOf, .ref m_heard, .ref m_pairs, .ref m_heaps, .int q_rounds, .int q_heapMany, .ref m_led, .ref m_newAt, .ref m_knowing, .ref m_firsts, .int (nI q_people), .ref m_secrets, .ref m_tried, .ref m_lanes, .ref m_lengths, .ref m_cells])), (m_manys, .inl (E.2.1 1, 18, .inl f_manys)), (m_reals, .inl (E.2.1 1, 18, .inl f_reals)), (m_factsOf, .inl (E.2.1 1, 432, .inl f_2)), (m_possible, .inl (E.2.1 1, 1728, .inl g1))] 0 0 := by
    intro fu
    induction fu with
    | zero => intro i1 g1 hi1 hrz hop hmeas; exact absurd hmeas (Nat.not_lt_zero _)
    | succ fu ih_16 =>
      intro i1 g1 hi1 hrz hop hmeas
      refine ww_iload_n C dX12_addWorld_16 0 rfl rfl ?_
      refine ww_iconst (v := 4) C dX12_addWorld_17 rfl ?_
      refine ww_icmp_ge (tgt := 39) C dX12_addWorld_18 (by decide) (fun c_3 => ?_) (fun c_3 => ?_)
      · have zc_3 : ((i1 : Nat) : Int) ≥ 4 := i_le rfl (nI_toInt (n := i1) (by omega)) c_3
        refine ww_aload_n C dX12_addWorld_39 2 rfl rfl ?_
        refine ww_get C fg_X12_13 0 rfl rfl dX12_addWorld_40 ?_
        refine ww_iconst (v := 0) C dX12_addWorld_43 rfl ?_
        refine ww_iload_n C dX12_addWorld_44 1 rfl rfl ?_
        refine ww_if_ne (tgt := 52) C dX12_addWorld_45 (by decide) (fun c_4 => ?_) (fun c_4 => ?_)
        · have zc_4 : ((cN f_manys 0 : Nat) : Int) ≠ 0 := i_ne (nI_toInt (n := cN f_manys 0) (by omega)) rfl c_4
          refine ww_aload_n C dX12_addWorld_52 2 rfl rfl ?_
          refine ww_get C fg_X12_13 0 rfl rfl dX12_addWorld_53 ?_
          refine ww_iconst (v := 0) C dX12_addWorld_56 rfl ?_
          have hbx_5 := (hb_reals 0 (by omega)).2
          refine ww_iald (v := (nI (cN f_reals 0))) C 2 rfl (vin rfl) (hb_reals 0 (by omega)).1 dX12_addWorld_57 ?_
          obtain ⟨f_6, ef_6⟩ : ∃ z : Nat → Int32, upd f_reals 0 (nI (cN f_reals 0)) = z := ⟨_, rfl⟩
          refine ww_iast (ws' := [(hm, .inr (12, [.ref m_manys, .ref m_reals, .ref m_factsOf, .ref m_possible, .int (nI q_undos), .int (nI q_models), .ref m_tape, .int (nI q_taped), .int q_fault, .int q_wrong, .int q_wrongAt, .int q_spot, .int q_place, .int q_token, .int q_value, .ref m_ends, .ref m_letters, .ref m_actOf, .ref m_whom, .ref m_actMany, .ref m_tokens, .ref m_afters, .ref m_afterOf, .int q_counted, .ref m_pile, .ref m_caseMany, .ref m_happen, .ref m_hasIf, .ref m_becomes, .ref m_goneOf, .ref m_heard, .ref m_pairs, .ref m_heaps, .int q_rounds, .int q_heapMany, .ref m_led, .ref m_newAt, .ref m_knowing, .ref m_firsts, .int (nI q_people), .ref m_secrets, .ref m_tried, .ref m_lanes, .ref m_lengths, .ref m_cells])), (m_manys, .inl (E.2.1 1, 18, .inl f_manys)), (m_reals, .inl (E.2.1 1, 18, .inl f_6)), (m_factsOf, .inl (E.2.1 1, 432, .inl f_2)), (m_possible, .inl (E.2.1 1, 1728, .inl g1))]) C 2 rfl (vin rfl) ef_6 rfl dX12_addWorld_58 ?_
          refine ww_aload_n C dX12_addWorld_59 2 rfl rfl ?_
          refine ww_get C fg_X12_7 0 rfl rfl dX12_addWorld_60 ?_
          refine ww_iconst (v := 0) C dX12_addWorld_63 rfl ?_
          refine ww_dup2 C dX12_addWorld_64 rfl rfl ?_
          have hbx_7 := (hb_manys 0 (by omega)).2
          refine ww_iald (v := (nI (cN f_manys 0))) C 1 rfl (vin rfl) (hb_manys 0 (by omega)).1 dX12_addWorld_65 ?_
          refine ww_iconst (v := 1) C dX12_addWorld_66 rfl ?_
          refine ww_iadd (v := (nI ((cN f_manys 0) + 1))) C dX12_addWorld_67 (nI_add (cN f_manys 0) 1) ?_
          obtain ⟨f_8, ef_8⟩ : ∃ z : Nat → Int32, upd f_manys 0 (nI ((cN f_manys 0) + 1)) = z := ⟨_, rfl⟩
          refine ww_iast (ws' := [(hm, .inr (12, [.ref m_manys, .ref m_reals, .ref m_factsOf, .ref m_possible, .int (nI q_undos), .int (nI q_models), .ref m_tape, .int (nI q_taped), .int q_fault, .int q_wrong, .int q_wrongAt, .int q_spot, .int q_place, .int q_token, .int q_value, .ref m_ends, .ref m_letters, .ref m_actOf, .ref m_whom, .ref m_actMany, .ref m_tokens, .ref m_afters, .ref m_afterOf, .int q_counted, .ref m_pile, .ref m_caseMany, .ref m_happen, .ref m_hasIf, .ref m_becomes, .ref m_goneOf, .ref m_heard, .ref m_pairs, .ref m_heaps, .int q_rounds, .int q_heapMany, .ref m_led, .ref m_newAt, .ref m_knowing, .ref m_firsts, .int (nI q_people), .ref m_secrets, .ref m_tried, .ref m_lanes, .ref m_lengths, .ref m_cells])), (m_manys, .inl (E.2.1 1, 18, .inl f_8)), (m_reals, .inl (E.2.1 1, 18, .inl f_6)), (m_factsOf, .inl (E.2.1 1, 432, .inl f_2)), (m_possible, .inl (E.2.1 1, 1728, .inl g1))]) C 1 rfl (vin rfl) ef_8 rfl dX12_addWorld_68 ?_
          exact ww_vret (u := [(hm, .inr (12, [.ref m_manys, .ref m_reals, .ref m_factsOf, .ref m_possible, .int (nI q_undos), .int (nI q_models), .ref m_tape, .int (nI q_taped), .int q_fault, .int q_wrong, .int q_wrongAt, .int q_spot, .int q_place, .int q_token, .int q_value, .ref m_ends, .ref m_letters, .ref m_actOf, .ref m_whom, .ref m_actMany, .ref m_tokens, .ref m_afters, .ref m_afterOf, .int q_counted, .ref m_pile, .ref m_caseMany, .ref m_happen, .ref m_hasIf, .ref m_becomes, .ref m_goneOf, .ref m_heard, .ref m_pairs, .ref m_heaps, .int q_rounds, .int q_heapMany, .ref m_led, .ref m_newAt, .ref m_knowing, .ref m_firsts, .int (nI q_people), .ref m_secrets, .ref m_tried, .ref m_lanes, .ref m_lengths, .ref m_cells])), (m_manys, .inl (E.2.1 1, 18, .inl f_8)), (m_reals, .inl (E.2.1 1, 18, .inl f_6)), (m_factsOf, .inl (E.2.1 1, 432, .inl f_2)), (m_possible, .inl (E.2.1 1, 1728, .inl g1))]) C hT [0, 1, 2, 3, 4] rfl rfl rfl rfl dX12_addWorld_69 (⟨f_8, f_6, f_2, g1, rfl, (NB.put hb_manys (t := (cN f_manys 0) + 1) (by omega) (by decide) ef_8), (NB.put hb_reals (t := cN f_reals 0) (by omega) (by decide) ef_6), (PG.put (a := (cN f_manys 0) + 1) (b := cN f_reals 0) hpg ef_8 ef_6 (by omega) (by omega) (by have := hpg 0 (by omega); omega)), (WFP.at hwf (pgs_oth hb_manys (OFF.put OFF.rf (by omega) (by omega) ef_8) (OFF.put OFF.rf (by omega) (by omega) ef_6) (OFF.put OFF.rf (by omega) (by omega) ef_2) hop) (by rw [(pg_add hfull ef_8 ((cN_s (t := cN f_reals 0) (by have := (hb_reals 0 (by omega)).2; omega) ef_6).trans (show cN f_reals 0 = cN f_reals 0 by have := hpg 0 (by omega); omega)) ef_2 (by have h9 : i1 = 4 := (by omega); rw [h9] at hrz; exact hrz))]; exact aAdd_wf (hwf 0 (by omega)))), ef_8, (pg_add hfull ef_8 ((cN_s (t := cN f_reals 0) (by have := (hb_reals 0 (by omega)).2; omega) ef_6).trans (show cN f_reals 0 = cN f_reals 0 by have := hpg 0 (by omega); omega)) ef_2 (by have h9 : i1 = 4 := (by omega); rw [h9] at hrz; exact hrz)), (pgs_oth hb_manys (OFF.put OFF.rf (by omega) (by omega) ef_8) (OFF.put OFF.rf (by omega) (by omega) ef_6) (OFF.put OFF.rf (by omega) (by omega) ef_2) hop), ((cN_s (t := cN f_reals 0) (by have := (hb_reals 0 (by omega)).2; omega) ef_6).trans (show cN f_reals 0 = cN f_reals 0 by have := hpg 0 (by omega); omega))⟩)
        · have zc_4 : ((cN f_manys 0 : Nat) : Int) = 0 := i_eq (nI_toInt (n := cN f_manys 0) (by omega)) rfl c_4
          refine ww_iconst (v := 0) C dX12_addWorld_48 rfl ?_
          refine ww_goto (tgt := 58) C dX12_addWorld_49 (by decide) ?_
          obtain ⟨f_9, ef_9⟩ : ∃ z : Nat → Int32, upd f_reals 0 0 = z := ⟨_, rfl⟩
          refine ww_iast (ws' := [(hm, .inr (12, [.ref m_manys, .ref m_reals, .ref m_factsOf, .ref m_possible, .int (nI q_undos), .int (nI q_models), .ref m_tape, .int (nI q_taped), .int q_fault, .int q_wrong, .int q_wrongAt, .int q_spot, .int q_place, .int q_token, .int q_value, .ref m_ends, .ref m_letters, .ref m_actOf, .ref m_whom, .ref m_actMany, .ref m_tokens, .ref m_afters, .ref m_afterOf, .int q_counted, .ref m_pile, .ref m_caseMany, .ref m_happen, .ref m_hasIf, .ref m_becomes, .ref m_goneOf, .ref m_heard, .ref m_pairs, .ref m_heaps, .int q_rounds, .int q_heapMany, .ref m_led, .ref m_newAt, .ref m_knowing, .ref m_firsts, .int (nI q_people), .ref m_secrets, .ref m_tried, .ref m_lanes, .ref m_lengths, .ref m_cells])), (m_manys, .inl (E.2.1 1, 18, .inl f_manys)), (m_reals, .inl (E.2.1 1, 18, .inl f_9)), (m_factsOf, .inl (E.2.1 1, 432, .inl f_2)), (m_possible, .inl (E.2.1 1, 1728, .inl g1))]) C 2 rfl (vin rfl) ef_9 rfl dX12_addWorld_58 ?_
          refine ww_aload_n C dX12_addWorld_59 2 rfl rfl ?_
          refine ww_get C fg_X12_7 0 rfl rfl dX12_addWorld_60 ?_
          refine ww_iconst (v := 0) C dX12_addWorld_63 rfl ?_
          refine ww_dup2 C dX12_addWorld_64 rfl rfl ?_
          have hbx_10 := (hb_manys 0 (by omega)).2
          refine ww_iald (v := (nI (cN f_manys 0))) C 1 rfl (vin rfl) (hb_manys 0 (by omega)).1 dX12_addWorld_65 ?_
          refine ww_iconst (v := 1) C dX12_addWorld_66 rfl ?_
          refine ww_iadd (v := (nI ((cN f_manys 0) + 1))) C dX12_addWorld_67 (nI_add (cN f_manys 0) 1) ?_
          obtain ⟨f_11, ef_11⟩ : ∃ z : Nat → Int32, upd f_manys 0 (nI ((cN f_manys 0) + 1)) = z := ⟨_, rfl⟩
          refine ww_iast (ws' := [(hm, .inr (12, [.ref m_manys, .ref m_reals, .ref m_factsOf, .ref m_possible, .int (nI q_undos), .int (nI q_models), .ref m_tape, .int (nI q_taped), .int q_fault, .int q_wrong, .int q_wrongAt, .int q_spot, .int q_place, .int q_token, .int q_value, .ref m_ends, .ref m_letters, .ref m_actOf, .ref m_whom, .ref m_actMany, .ref m_tokens, .ref m_afters, .ref m_afterOf, .int q_counted, .ref m_pile, .ref m_caseMany, .ref m_happen, .ref m_hasIf, .ref m_becomes, .ref m_goneOf, .ref m_heard, .ref m_pairs, .ref m_heaps, .int q_rounds, .int q_heapMany, .ref m_led, .ref m_newAt, .ref m_knowing, .ref m_firsts, .int (nI q_people), .ref m_secrets, .ref m_tried, .ref m_lanes, .ref m_lengths, .ref m_cells])), (m_manys, .inl (E.2.1 1, 18, .inl f_11)), (m_reals, .inl (E.2.1 1, 18, .inl f_9)), (m_factsOf, .inl (E.2.1 1, 432, .inl f_2)), (m_possible, .inl (E.2.1 1, 1728, .inl g1))]) C 1 rfl (vin rfl) ef_11 rfl dX12_addWorld_68 ?_
          exact ww_vret (u := [(hm, .inr (12, [.ref m_manys, .ref m_reals, .ref m_factsOf, .ref m_possible, .int (nI q_undos), .int (nI q_models), .ref m_tape, .int (nI q_taped), .int q_fault, .int q_wrong, .int q_wrongAt, .int q_spot, .int q_place, .int q_token, .int q_value, .ref m_ends, .ref m_letters, .ref m_actOf, .ref m_whom, .ref m_actMany, .ref m_tokens, .ref m_afters, .ref m_afterOf, .int q_counted, .ref m_pile, .ref m_caseMany, .ref m_happen, .ref m_hasIf, .ref m_becomes, .ref m_goneOf, .ref m_heard, .ref m_pairs, .ref m_heaps, .int q_rounds, .int q_heapMany, .ref m_led, .ref m_newAt, .ref m_knowing, .ref m_firsts, .int (nI q_people), .ref m_secrets, .ref m_tried, .ref m_lanes, .ref m_lengths, .ref m_cells])), (m_manys, .inl (E.2.1 1, 18, .inl f_11)), (m_reals, .inl (E.2.1 1, 18, .inl f_9)), (m_factsOf, .inl (E.2.1 1, 432, .inl f_2)), (m_possible, .inl (E.2.1 1, 1728, .inl g1))]) C hT [0, 1, 2, 3, 4] rfl rfl rfl rfl dX12_addWorld_69 (⟨f_11, f_9, f_2, g1, rfl, (NB.put hb_manys (t := (cN f_manys 0) + 1) (by omega) (by decide) ef_11), (NB.put hb_reals (t := 0) (by omega) (by decide) ef_9), (PG.put (a := (cN f_manys 0) + 1) (b := 0) hpg ef_11 ef_9 (by omega) (by omega) (by have := hpg 0 (by omega); omega)), (WFP.at hwf (pgs_oth hb_manys (OFF.put OFF.rf (by omega) (by omega) ef_11) (OFF.put OFF.rf (by omega) (by omega) ef_9) (OFF.put OFF.rf (by omega) (by omega) ef_2) hop) (by rw [(pg_add hfull ef_11 ((cN_s (t := 0) (by have := (hb_reals 0 (by omega)).2; omega) ef_9).trans (show 0 = cN f_reals 0 by have := hpg 0 (by omega); omega)) ef_2 (by have h9 : i1 = 4 := (by omega); rw [h9] at hrz; exact hrz))]; exact aAdd_wf (hwf 0 (by omega)))), ef_11, (pg_add hfull ef_11 ((cN_s (t := 0) (by have := (hb_reals 0 (by omega)).2; omega) ef_9).trans (show 0 = cN f_reals 0 by have := hpg 0 (by omega); omega)) ef_2 (by have h9 : i1 = 4 := (by omega); rw [h9] at hrz; exact hrz)), (pgs_oth hb_manys (OFF.put OFF.rf (by omega) (by omega) ef_11) (OFF.put OFF.rf (by omega) (by omega) ef_9) (OFF.put OFF.rf (by omega) (by omega) ef_2) hop), ((cN_s (t := 0) (by have := (hb_reals 0 (by omega)).2; omega) ef_9).trans (show 0 = cN f_reals 0 by have := hpg 0 (by omega); omega))⟩)
      · have zc_3 : ((i1 : Nat) : Int) < 4 := i_nle rfl (nI_toInt (n := i1) (by omega)) c_3
        refine ww_aload_n C dX12_addWorld_21 2 rfl rfl ?_
        refine ww_get C fg_X12_19 0 rfl rfl dX12_addWorld_22 ?_
        refine ww_bipush (v := 24) C dX12_addWorld_25 rfl ?_
        refine ww_iload_n C dX12_addWorld_27 0 rfl rfl ?_
        refine ww_imul (v := (nI (24 * i1))) C dX12_addWorld_28 (pk_mul 24 i1) ?_
        refine ww_iload_n C dX12_addWorld_29 1 rfl rfl ?_
        refine ww_iadd (v := (nI ((24 * i1) + (cN f_manys 0)))) C dX12_addWorld_30 (nI_add (24 * i1) (cN f_manys 0)) ?_
        refine ww_iconst (v := 0) C dX12_addWorld_31 rfl ?_
        obtain ⟨f_12, ef_12⟩ : ∃ z : Nat → Int32, upd g1 ((24 * i1) + (cN f_manys 0)) 0 = z := ⟨_, rfl⟩
        refine ww_iast (ws' := [(hm, .inr (12, [.ref m_manys, .ref m_reals, .ref m_factsOf, .ref m_possible, .int (nI q_undos), .int (nI q_models), .ref m_tape, .int (nI q_taped), .int q_fault, .int q_wrong, .int q_wrongAt, .int q_spot, .int q_place, .int q_token, .int q_value, .ref m_ends, .ref m_letters, .ref m_actOf, .ref m_whom, .ref m_actMany, .ref m_tokens, .ref m_afters, .ref m_afterOf, .int q_counted, .ref m_pile, .ref m_caseMany, .ref m_happen, .ref m_hasIf, .ref m_becomes, .ref m_goneOf, .ref m_heard, .ref m_pairs, .ref m_heaps, .int q_rounds, .int q_heapMany, .ref m_led, .ref m_newAt, .ref m_knowing, .ref m_firsts, .int (nI q_people), .ref m_secrets, .ref m_tried, .ref m_lanes, .ref m_lengths, .ref m_cells])), (m_manys, .inl (E.2.1 1, 18, .inl f_manys)), (m_reals, .inl (E.2.1 1, 18, .inl f_reals)), (m_factsOf, .inl (E.2.1 1, 432, .inl f_2)), (m_possible, .inl (E.2.1 1, 1728, .inl f_12))]) C 4 rfl (vp_in_nI (by omega) (by omega)) (ldn2 (by omega) ef_12) rfl dX12_addWorld_32 ?_
        refine ww_iinc (j := 0) (v := (nI (i1 + 1))) (lv' := [(3, .int (nI (i1 + 1))), (2, .int (nI (cN f_manys 0))), (0, .ref hm), (1, .int x)]) C dX12_addWorld_33 rfl (nI_add i1 1) rfl rfl ?_
        refine ww_goto (tgt := 16) C dX12_addWorld_36 (by decide) ?_
        exact ww_lv [0, 1, 2, 3] rfl (ww_sub [0, 1, 2, 3, 4] rfl rfl (ih_16 (i1 + 1) f_12 (by omega) (RZ.extR hrz (by omega) ef_12) (OFF.put hop (by omega) (by omega) ef_12) (by omega)))
  exact ww_lv [0, 1, 2, 3] rfl (ww_sub [0, 1, 2, 3, 4] rfl rfl (loop_16 _ 0 f_possible (by omega) RZ.nil OFF.rf (Nat.lt_succ_self _)))
theorem dX12_world_0 : decode cX12_world 0 = .ok (.iload_n 1, 1) := dl_27 (by decide +kernel)
theorem dX12_world_1 : decode cX12_world 1 = .ok (.i2l, 1) := dl_133 (by decide +kernel)
theorem dX12_world_2 : decode cX12_world 2 = .ok (.lconst 0, 1) := dl_9 (by decide +kernel)
theorem dX12_world_3 : decode cX12_world 3 = .ok (.ldc2_w 119, 3) := dl_20 (by decide +kernel)
theorem wv_X12_119 : Cond.constantLong RX12 119 15 ∈ TB := tbm (tq5 (List.mem_of_getElem? (i := 219) (by decide +kernel))) (by decide +kernel)
theorem dX12_world_6 : decode cX12_world 6 = .ok (.invokestatic 115, 3) := dl_184 (by decide +kernel)
theorem dX12_world_9 : decode cX12_world 9 = .ok (.ifCond .ne 5, 3) := dl_154 (by decide +kernel)
theorem dX12_world_14 : decode cX12_world 14 = .ok (.aload_n 0, 1) := dl_42 (by decide +kernel)
theorem dX12_world_15 : decode cX12_world 15 = .ok (.getfield 7, 3) := dl_180 (by decide +kernel)
theorem dX12_world_18 : decode cX12_world 18 = .ok (.iconst 0, 1) := dl_3 (by decide +kernel)
theorem dX12_world_19 : decode cX12_world 19 = .ok (.iaload, 1) := dl_46 (by decide +kernel)
theorem dX12_world_20 : decode cX12_world 20 = .ok (.bipush 24, 2) := dl_16 (by decide +kernel)
theorem dX12_world_22 : decode cX12_world 22 = .ok (.if_icmp .ne 6, 3) := dl_160 (by decide +kernel)
theorem dX12_world_28 : decode cX12_world 28 = .ok (.aload_n 0, 1) := dl_42 (by decide +kernel)
theorem dX12_world_29 : decode cX12_world 29 = .ok (.invokevirtual 121, 3) := dl_182 (by decide +kernel)
theorem wl_X12_121 : Cond.methodLink RX12 121 yX12_acts ∈ TB := tbm (tq5 (List.mem_of_getElem? (i := 223) (by decide +kernel))) (by decide +kernel)
theorem wc_X12_acts : Cond.code yX12_acts cX12_acts 2 none ∈ TB := tbm (tq5 (List.mem_of_getElem? (i := 226) (rfl))) (by decide +kernel)
theorem wi_X12_acts : Cond.instanceMethod yX12_acts ∈ TB := tbm (tq5 (List.mem_of_getElem? (i := 225) (by decide +kernel))) (by decide +kernel)
theorem ws_X12_acts : Cond.selects RX12 yX12_acts yX12_acts ∈ TB := tbm (tq0 (List.mem_of_getElem? (i := 36) (by decide +kernel))) (by decide +kernel)
theorem mi_X12_acts : MI yX12_acts cX12_acts 2 none 0 := ⟨wc_X12_acts, wn_X12, ⟨by decide +kernel, by decide +kernel, by decide +kernel⟩, wi_X12_acts, ws_X12_acts⟩
theorem dX12_world_32 : decode cX12_world 32 = .ok (.aload_n 0, 1) := dl_42 (by decide +kernel)
theorem dX12_world_33 : decode cX12_world 33 = .ok (.iload_n 1, 1) := dl_27 (by decide +kernel)
theorem dX12_world_34 : decode cX12_world 34 = .ok (.invokevirtual 124, 3) := dl_182 (by decide +kernel)
theorem wl_X12_124 : Cond.methodLink RX12 124 yX12_addWorld ∈ TB := tbm (tq5 (List.mem_of_getElem? (i := 231) (by decide +kernel))) (by decide +kernel)
theorem wc_X12_addWorld : Cond.code yX12_addWorld cX12_addWorld 4 none ∈ TB := tbm (tq5 (List.mem_of_getElem? (i := 234) (rfl))) (by decide +kernel)
theorem wi_X12_addWorld : Cond.instanceMethod yX12_addWorld ∈ TB := tbm (tq5 (List.mem_of_getElem? (i := 233) (by decide +kernel))) (by decide +kernel)
theorem ws_X12_addWorld : Cond.selects RX12 yX12_addWorld yX12_addWorld ∈ TB := tbm (tq0 (List.mem_of_getElem? (i := 38) (by decide +kernel))) (by decide +kernel)
theorem mi_X12_addWorld : MI yX12_addWorld cX12_addWorld 4 none 1 := ⟨wc_X12_addWorld, wn_X12, ⟨by decide +kernel, by decide +kernel, by decide +kernel⟩, wi_X12_addWorld, ws_X12_addWorld⟩
theorem dX12_world_37 : decode cX12_world 37 = .ok (.aload_n 0, 1) := dl_42 (by decide +kernel)
theorem dX12_world_38 : decode cX12_world 38 = .ok (.getfield 7, 3) := dl_180 (by decide +kernel)
theorem dX12_world_41 : decode cX12_world 41 = .ok (.iconst 0, 1) := dl_3 (by decide +kernel)
theorem dX12_world_42 : decode cX12_world 42 = .ok (.iaload, 1) := dl_46 (by decide +kernel)
theorem dX12_world_43 : decode cX12_world 43 = .ok (.iconst 1, 1) := dl_4 (by decide +kernel)
theorem dX12_world_44 : decode cX12_world 44 = .ok (.isub, 1) := dl_100 (by decide +kernel)
theorem dX12_world_45 : decode cX12_world 45 = .ok (.ireturn, 1) := dl_172 (by decide +kernel)
theorem dX12_world_25 : decode cX12_world 25 = .ok (.bipush (-3), 2) := dl_16 (by decide +kernel)
theorem dX12_world_27 : decode cX12_world 27 = .ok (.ireturn, 1) := dl_172 (by decide +kernel)
theorem dX12_world_12 : decode cX12_world 12 = .ok (.iconst (-1), 1) := dl_2 (by decide +kernel)
theorem dX12_world_13 : decode cX12_world 13 = .ok (.ireturn, 1) := dl_172 (by decide +kernel)
set_option maxRecDepth 100000 in
set_option maxHeartbeats 4000000 in
theorem y_world (l : Launch) (E : EV) (ro : va_W) (hm : Nat) (v0 : Int32) (m_manys : Nat) (m_reals : Nat) (m_factsOf : Nat) (m_possible : Nat) (q_undos : Nat) (q_models : Nat) (m_tape : Nat) (q_taped : Nat) (q_fault : Int32) (q_wrong : Int32) (q_wrongAt : Int32) (q_spot : Int32) (q_place : Int32) (q_token : Int32) (q_value : Int32) (m_ends : Nat) (m_letters : Nat) (m_actOf : Nat) (m_whom : Nat) (m_actMany : Nat) (m_tokens : Nat) (m_afters : Nat) (m_afterOf : Nat) (q_counted : Int32) (m_pile : Nat) (m_caseMany : Nat) (m_happen : Nat) (m_hasIf : Nat) (m_becomes : Nat) (m_goneOf : Nat) (m_heard : Nat) (m_pairs : Nat) (m_heaps : Nat) (q_rounds : Int32) (q_heapMany : Int32) (m_led : Nat) (m_newAt : Nat) (m_knowing : Nat) (m_firsts : Nat) (q_people : Nat) (m_secrets : Nat) (m_tried : Nat) (m_lanes : Nat) (m_lengths : Nat) (m_cells : Nat) (f_manys : Nat → Int32) (f_reals : Nat → Int32) (f_factsOf : Nat → Int32) (f_possible : Nat → Int32) (hb_manys : NB 18 24 f_manys) (hb_reals : NB 18 23 f_reals) (hpg : PG f_manys f_reals) (hwf : WFP (pgs f_manys f_reals f_factsOf f_possible)) (hq_undos : q_undos ≤ 8) : CT l yX12_world (Cond.code yX12_world cX12_world 2 (some .int) :: TB) ({ frames := 2, cells := 0, slots := 0, locals := 44 }) E ro [.ref hm, .int v0] [(hm, .inr (12, [.ref m_manys, .ref m_reals, .ref m_factsOf, .ref m_possible, .int (nI q_undos), .int (nI q_models), .ref m_tape, .int (nI q_taped), .int q_fault, .int q_wrong, .int q_wrongAt, .int q_spot, .int q_place, .int q_token, .int q_value, .ref m_ends, .ref m_letters, .ref m_actOf, .ref m_whom, .ref m_actMany, .ref m_tokens, .ref m_afters, .ref m_afterOf, .int q_counted, .ref m_pile, .ref m_caseMany, .ref m_happen, .ref m_hasIf, .ref m_becomes, .ref m_goneOf, .ref m_heard, .ref m_pairs, .ref m_heaps, .int q_rounds, .int q_heapMany, .ref m_led, .ref m_newAt, .ref m_knowing, .ref m_firsts, .int (nI q_people), .ref m_secrets, .ref m_tried, .ref m_lanes, .ref m_lengths, .ref m_cells])), (m_manys, .inl (E.2.1 1, 18, .inl f_manys)), (m_reals, .inl (E.2.1 1, 18, .inl f_reals)), (m_factsOf, .inl (E.2.1 1, 432, .inl f_factsOf)), (m_possible, .inl (E.2.1 1, 1728, .inl f_possible))] (Qi E (fun (rz : Int32) uz => (∃ (uz_ : Nat) (f_manysz : Nat → Int32) (f_realsz : Nat → Int32) (f_factsOfz : Nat → Int32) (f_possiblez : Nat → Int32), uz = [(hm, .inr (12, [.ref m_manys, .ref m_reals, .ref m_factsOf, .ref m_possible, .int (nI uz_), .int (nI q_models), .ref m_tape, .int (nI q_taped), .int q_fault, .int q_wrong, .int q_wrongAt, .int q_spot, .int q_place, .int q_token, .int q_value, .ref m_ends, .ref m_letters, .ref m_actOf, .ref m_whom, .ref m_actMany, .ref m_tokens, .ref m_afters, .ref m_afterOf, .int q_counted, .ref m_pile, .ref m_caseMany, .ref m_happen, .ref m_hasIf, .ref m_becomes, .ref m_goneOf, .ref m_heard, .ref m_pairs, .ref m_heaps, .int q_rounds, .int q_heapMany, .ref m_led, .ref m_newAt, .ref m_knowing, .ref m_firsts, .int (nI q_people), .ref m_secrets, .ref m_tried, .ref m_lanes, .ref m_lengths, .ref m_cells])), (m_manys, .inl (E.2.1 1, 18, .inl f_manysz)), (m_reals, .inl (E.2.1 1, 18, .inl f_realsz)), (m_factsOf, .inl (E.2.1 1, 432, .inl f_factsOfz)), (m_possible, .inl (E.2.1 1, 1728, .inl f_possiblez))] ∧ (NB 18 24 f_manysz) ∧ (NB 18 23 f_realsz) ∧ (PG f_manysz f_realsz) ∧ (WFP (pgs f_manysz f_realsz f_factsOfz f_possiblez)) ∧ (uz_ ≤ 8) ∧ ((asM uz_ (pgs f_manysz f_realsz f_factsOfz f_possiblez), rz) = opWorld (asM q_undos (pgs f_manys f_reals f_factsOf f_possible)) v0) ∧ (KP6 (pgs f_manys f_reals f_factsOf f_possible) (pgs f_manysz f_realsz f_factsOfz f_possiblez))))) 0 0 := by
  refine ct_of rfl rfl ?_
  intro X C hT hin hro
  show WW X 2 E 0 [(0, .ref hm), (1, .int v0)] [] [(hm, .inr (12, [.ref m_manys, .ref m_reals, .ref m_factsOf, .ref m_possible, .int (nI q_undos), .int (nI q_models), .ref m_tape, .int (nI q_taped), .int q_fault, .int q_wrong, .int q_wrongAt, .int q_spot, .int q_place, .int q_token, .int q_value, .ref m_ends, .ref m_letters, .ref m_actOf, .ref m_whom, .ref m_actMany, .ref m_tokens, .ref m_afters, .ref m_afterOf, .int q_counted, .ref m_pile, .ref m_caseMany, .ref m_happen, .ref m_hasIf, .ref m_becomes, .ref m_goneOf, .ref m_heard, .ref m_pairs, .ref m_heaps, .int q_rounds, .int q_heapMany, .ref m_led, .ref m_newAt, .ref m_knowing, .ref m_firsts, .int (nI q_people), .ref m_secrets, .ref m_tried, .ref m_lanes, .ref m_lengths, .ref m_cells])), (m_manys, .inl (E.2.1 1, 18, .inl f_manys)), (m_reals, .inl (E.2.1 1, 18, .inl f_reals)), (m_factsOf, .inl (E.2.1 1, 432, .inl f_factsOf)), (m_possible, .inl (E.2.1 1, 1728, .inl f_possible))] 0 0
  have hmn0 := (hb_manys 0 (by omega)).2
  refine ww_iload_n C dX12_world_0 1 rfl rfl ?_
  refine ww_i2l (v := v0.toInt64) C dX12_world_1 rfl ?_
  refine ww_lconst (v := 0) C dX12_world_2 rfl ?_
  refine ww_ldc2 C wv_X12_119 dX12_world_3 ?_
  refine ww_ci (wr := [(hm, .inr (12, [.ref m_manys, .ref m_reals, .ref m_factsOf, .ref m_possible, .int (nI q_undos), .int (nI q_models), .ref m_tape, .int (nI q_taped), .int q_fault, .int q_wrong, .int q_wrongAt, .int q_spot, .int q_place, .int q_token, .int q_value, .ref m_ends, .ref m_letters, .ref m_actOf, .ref m_whom, .ref m_actMany, .ref m_tokens, .ref m_afters, .ref m_afterOf, .int q_counted, .ref m_pile, .ref m_caseMany, .ref m_happen, .ref m_hasIf, .ref m_becomes, .ref m_goneOf, .ref m_heard, .ref m_pairs, .ref m_heaps, .int q_rounds, .int q_heapMany, .ref m_led, .ref m_newAt, .ref m_knowing, .ref m_firsts, .int (nI q_people), .ref m_secrets, .ref m_tried, .ref m_lanes, .ref m_lengths, .ref m_cells])), (m_manys, .inl (E.2.1 1, 18, .inl f_manys)), (m_reals, .inl (E.2.1 1, 18, .inl f_reals)), (m_factsOf, .inl (E.2.1 1, 432, .inl f_factsOf)), (m_possible, .inl (E.2.1 1, 1728, .inl f_possible))]) (k' := 0) (n' := 0) C (run_S (As := [.long v0.toInt64, .long 0, .long 15]) (rest := []) C (r_in X.2.1 E ro v0.toInt64 0 15 v0.toInt 0 15 (Int32.toInt_toInt64 _) rfl rfl) ms_X12_in wl_X12_115 rfl rfl rfl rfl dX12_world_6) (roK hro) [] [0, 1, 2, 3, 4] rfl rfl rfl rfl (fun r_1 uz hw => ?_)
  rcases hw with hw | hw
  · refine an3 hw ?_
    clear hw
    intro he_4 he_5 h_2 hw
    have h_3 := hw
    clear hw
    have he_4 := he_4.symm
    subst he_4
    subst he_5
    refine ww_eq (ws' := [(hm, .inr (12, [.ref m_manys, .ref m_reals, .ref m_factsOf, .ref m_possible, .int (nI q_undos), .int (nI q_models), .ref m_tape, .int (nI q_taped), .int q_fault, .int q_wrong, .int q_wrongAt, .int q_spot, .int q_place, .int q_token, .int q_value, .ref m_ends, .ref m_letters, .ref m_actOf, .ref m_whom, .ref m_actMany, .ref m_tokens, .ref m_afters, .ref m_afterOf, .int q_counted, .ref m_pile, .ref m_caseMany, .ref m_happen, .ref m_hasIf, .ref m_becomes, .ref m_goneOf, .ref m_heard, .ref m_pairs, .ref m_heaps, .int q_rounds, .int q_heapMany, .ref m_led, .ref m_newAt, .ref m_knowing, .ref m_firsts, .int (nI q_people), .ref m_secrets, .ref m_tried, .ref m_lanes, .ref m_lengths, .ref m_cells])), (m_manys, .inl (E.2.1 1, 18, .inl f_manys)), (m_reals, .inl (E.2.1 1, 18, .inl f_reals)), (m_factsOf, .inl (E.2.1 1, 432, .inl f_factsOf)), (m_possible, .inl (E.2.1 1, 1728, .inl f_possible))]) ?_ rfl rfl rfl
    refine ww_if_ne_t (tgt := 14) C dX12_world_9 (by decide) (by decide) ?_
    refine ww_aload_n C dX12_world_14 0 rfl rfl ?_
    refine ww_get C fg_X12_7 0 rfl rfl dX12_world_15 ?_
    refine ww_iconst (v := 0) C dX12_world_18 rfl ?_
    have hbx_9 := (hb_manys 0 (by omega)).2
    refine ww_iald (v := (nI (cN f_manys 0))) C 1 rfl (vin rfl) (hb_manys 0 (by omega)).1 dX12_world_19 ?_
    refine ww_bipush (v := 24) C dX12_world_20 rfl ?_
    refine ww_icmp_ne (tgt := 28) C dX12_world_22 (by decide) (fun c_10 => ?_) (fun c_10 => ?_)
    · have zc_10 : ((cN f_manys 0 : Nat) : Int) ≠ 24 := i_ne (nI_toInt (n := cN f_manys 0) (by omega)) rfl c_10
      refine ww_aload_n C dX12_world_28 0 rfl rfl ?_
      refine ww_cv (wr := []) (k' := 0) (n' := 0) C (run_V (As := []) (rest := []) C (r_acts X.2.1 E ro hm m_manys m_reals m_factsOf m_possible q_undos q_models m_tape q_taped q_fault q_wrong q_wrongAt q_spot q_place q_token q_value m_ends m_letters m_actOf m_whom m_actMany m_tokens m_afters m_afterOf q_counted m_pile m_caseMany m_happen m_hasIf m_becomes m_goneOf m_heard m_pairs m_heaps q_rounds q_heapMany m_led m_newAt m_knowing m_firsts q_people m_secrets m_tried m_lanes m_lengths m_cells f_manys f_reals f_factsOf f_possible hb_manys hb_reals hpg hwf (by omega)) mi_X12_acts wl_X12_121 rfl 0 12 rfl rfl rfl rfl rfl dX12_world_29) (roK hro) [0, 1, 2, 3, 4] [] rfl rfl rfl rfl (fun uz hw => ?_)
      refine ex5 hw ?_
      clear hw
      intro uz__12 f_manysz_13 f_realsz_14 f_factsOfz_15 f_possiblez_16 hw
      refine an8 hw ?_
      clear hw
      intro he_27 h_17 h_18 h_19 h_20 h_21 h_22 h_23 hw
      refine an2 hw ?_
      clear hw
      intro h_24 h_25 hw
      have h_26 := hw
      clear hw
      subst he_27
      refine ww_eq (ws' := [(hm, .inr (12, [.ref m_manys, .ref m_reals, .ref m_factsOf, .ref m_possible, .int (nI uz__12), .int (nI q_models), .ref m_tape, .int (nI q_taped), .int q_fault, .int q_wrong, .int q_wrongAt, .int q_spot, .int q_place, .int q_token, .int q_value, .ref m_ends, .ref m_letters, .ref m_actOf, .ref m_whom, .ref m_actMany, .ref m_tokens, .ref m_afters, .ref m_afterOf, .int q_counted, .ref m_pile, .ref m_caseMany, .ref m_happen, .ref m_hasIf, .ref m_becomes, .ref m_goneOf, .ref m_heard, .ref m_pairs, .ref m_heaps, .int q_rounds, .int q_heapMany, .ref m_led, .ref m_newAt, .ref m_knowing, .ref m_firsts, .int (nI q_people), .ref m_secrets, .ref m_tried, .ref m_lanes, .ref m_lengths, .ref m_cells])), (m_manys, .inl (E.2.1 1, 18, .inl f_manysz_13)), (m_reals, .inl (E.2.1 1, 18, .inl f_realsz_14)), (m_factsOf, .inl (E.2.1 1, 432, .inl f_factsOfz_15)), (m_possible, .inl (E.2.1 1, 1728, .inl f_possiblez_16))]) ?_ rfl rfl rfl
      have hk0_k_28 := KP.at h_22 (p := 0) (by omega)
      refine ww_aload_n C dX12_world_32 0 rfl rfl ?_
      refine ww_iload_n C dX12_world_33 1 rfl rfl ?_
      refine ww_cv (wr := []) (k' := 0) (n' := 0) C (run_V (As := [.int v0]) (rest := []) C (r_addWorld X.2.1 E ro hm v0 m_manys m_reals m_factsOf m_possible uz__12 q_models m_tape q_taped q_fault q_wrong q_wrongAt q_spot q_place q_token q_value m_ends m_letters m_actOf m_whom m_actMany m_tokens m_afters m_afterOf q_counted m_pile m_caseMany m_happen m_hasIf m_becomes m_goneOf m_heard m_pairs m_heaps q_rounds q_heapMany m_led m_newAt m_knowing m_firsts q_people m_secrets m_tried m_lanes m_lengths m_cells f_manysz_13 f_realsz_14 f_factsOfz_15 f_possiblez_16 h_17 h_18 h_19 h_20 (by omega)) mi_X12_addWorld wl_X12_124 rfl 0 12 rfl rfl rfl rfl rfl dX12_world_34) (roK hro) [0, 1, 2, 3, 4] [] rfl rfl rfl rfl (fun uz hw => ?_)
      refine ex4 hw ?_
      clear hw
      intro f_manysz_30 f_realsz_31 f_factsOfz_32 f_possiblez_33 hw
      refine an8 hw ?_
      clear hw
      intro he_42 h_34 h_35 h_36 h_37 h_38 h_39 h_40 hw
      have h_41 := hw
      clear hw
      subst he_42
      refine ww_eq (ws' := [(hm, .inr (12, [.ref m_manys, .ref m_reals, .ref m_factsOf, .ref m_possible, .int (nI uz__12), .int (nI q_models), .ref m_tape, .int (nI q_taped), .int q_fault, .int q_wrong, .int q_wrongAt, .int q_spot, .int q_place, .int q_token, .int q_value, .ref m_ends, .ref m_letters, .ref m_actOf, .ref m_whom, .ref m_actMany, .ref m_tokens, .ref m_afters, .ref m_afterOf, .int q_counted, .ref m_pile, .ref m_caseMany, .ref m_happen, .ref m_hasIf, .ref m_becomes, .ref m_goneOf, .ref m_heard, .ref m_pairs, .ref m_heaps, .int q_rounds, .int q_heapMany, .ref m_led, .ref m_newAt, .ref m_knowing, .ref m_firsts, .int (nI q_people), .ref m_secrets, .ref m_tried, .ref m_lanes, .ref m_lengths, .ref m_cells])), (m_manys, .inl (E.2.1 1, 18, .inl f_manysz_30)), (m_reals, .inl (E.2.1 1, 18, .inl f_realsz_31)), (m_factsOf, .inl (E.2.1 1, 432, .inl f_factsOfz_32)), (m_possible, .inl (E.2.1 1, 1728, .inl f_possiblez_33))]) ?_ rfl rfl rfl
      refine ww_aload_n C dX12_world_37 0 rfl rfl ?_
      refine ww_get C fg_X12_7 0 rfl rfl dX12_world_38 ?_
      refine ww_iconst (v := 0) C dX12_world_41 rfl ?_
      have hbx_43 := (h_34 0 (by omega)).2
      refine ww_iald (v := (nI (cN f_manysz_30 0))) C 1 rfl (vin rfl) (h_34 0 (by omega)).1 dX12_world_42 ?_
      refine ww_iconst (v := 1) C dX12_world_43 rfl ?_
      obtain ⟨x_44, ex_44⟩ : ∃ z : Int32, (nI (cN f_manysz_30 0)) - (1 : Int32) = z := ⟨_, rfl⟩
      have zx_44 : x_44.toInt = ((cN f_manysz_30 0 : Nat) : Int) - 1 := by rw [← ex_44]; exact i_sub (nI_toInt (n := cN f_manysz_30 0) (by omega)) rfl (by omega) (by omega)
      refine ww_isub (v := x_44) C dX12_world_44 ex_44 ?_
      exact ww_iret (u := [(hm, .inr (12, [.ref m_manys, .ref m_reals, .ref m_factsOf, .ref m_possible, .int (nI uz__12), .int (nI q_models), .ref m_tape, .int (nI q_taped), .int q_fault, .int q_wrong, .int q_wrongAt, .int q_spot, .int q_place, .int q_token, .int q_value, .ref m_ends, .ref m_letters, .ref m_actOf, .ref m_whom, .ref m_actMany, .ref m_tokens, .ref m_afters, .ref m_afterOf, .int q_counted, .ref m_pile, .ref m_caseMany, .ref m_happen, .ref m_hasIf, .ref m_becomes, .ref m_goneOf, .ref m_heard, .ref m_pairs, .ref m_heaps, .int q_rounds, .int q_heapMany, .ref m_led, .ref m_newAt, .ref m_knowing, .ref m_firsts, .int (nI q_people), .ref m_secrets, .ref m_tried, .ref m_lanes, .ref m_lengths, .ref m_cells])), (m_manys, .inl (E.2.1 1, 18, .inl f_manysz_30)), (m_reals, .inl (E.2.1 1, 18, .inl f_realsz_31)), (m_factsOf, .inl (E.2.1 1, 432, .inl f_factsOfz_32)), (m_possible, .inl (E.2.1 1, 1728, .inl f_possiblez_33))]) C hT [0, 1, 2, 3, 4] rfl rfl rfl rfl dX12_world_45 (⟨uz__12, f_manysz_30, f_realsz_31, f_factsOfz_32, f_possiblez_33, rfl, h_34, h_35, h_36, h_37, (by omega), (by show _ = if v0.toInt < 0 ∨ 15 < v0.toInt then ((asM q_undos (pgs f_manys f_reals f_factsOf f_possible)), -1) else if 24 ≤ (cN f_manys 0) then ((asM q_undos (pgs f_manys f_reals f_factsOf f_possible)), -3) else (aRem (asM q_undos (pgs f_manys f_reals f_factsOf f_possible)) (aAdd (pgs f_manys f_reals f_factsOf f_possible 0) v0), nI (cN f_manys 0)); rw [if_neg (show ¬ (v0.toInt < 0 ∨ 15 < v0.toInt) by omega), if_neg (show ¬ (24 ≤ (cN f_manys 0)) by omega)]; exact Prod.ext (rm_end hq_undos h_26 (OTH.hi h_40 (by omega)) (h_39.trans (by rw [REMS.p0 h_26]))) (show x_44 = nI (cN f_manys 0) from Int32.toInt_inj.mp (by have h9 := cN_s (by omega) h_38; rw [nI_toInt (by omega)]; omega))), (KP6.rem h_26 (OTH.hi h_40 (by omega)))⟩)
    · have zc_10 : ((cN f_manys 0 : Nat) : Int) = 24 := i_eq (nI_toInt (n := cN f_manys 0) (by omega)) rfl c_10
      refine ww_bipush (v := (-3)) C dX12_world_25 rfl ?_
      exact ww_iret (u := [(hm, .inr (12, [.ref m_manys, .ref m_reals, .ref m_factsOf, .ref m_possible, .int (nI q_undos), .int (nI q_models), .ref m_tape, .int (nI q_taped), .int q_fault, .int q_wrong, .int q_wrongAt, .int q_spot, .int q_place, .int q_token, .int q_value, .ref m_ends, .ref m_letters, .ref m_actOf, .ref m_whom, .ref m_actMany, .ref m_tokens, .ref m_afters, .ref m_afterOf, .int q_counted, .ref m_pile, .ref m_caseMany, .ref m_happen, .ref m_hasIf, .ref m_becomes, .ref m_goneOf, .ref m_heard, .ref m_pairs, .ref m_heaps, .int q_rounds, .int q_heapMany, .ref m_led, .ref m_newAt, .ref m_knowing, .ref m_firsts, .int (nI q_people), .ref m_secrets, .ref m_tried, .ref m_lanes, .ref m_lengths, .ref m_cells])), (m_manys, .inl (E.2.1 1, 18, .inl f_manys)), (m_reals, .inl (E.2.1 1, 18, .inl f_reals)), (m_factsOf, .inl (E.2.1 1, 432, .inl f_factsOf)), (m_possible, .inl (E.2.1 1, 1728, .inl f_possible))]) C hT [0, 1, 2, 3, 4] rfl rfl rfl rfl dX12_world_27 (⟨q_undos, f_manys, f_reals, f_factsOf, f_possible, rfl, hb_manys, hb_reals, hpg, hwf, (by omega), (by show _ = if v0.toInt < 0 ∨ 15 < v0.toInt then ((asM q_undos (pgs f_manys f_reals f_factsOf f_possible)), -1) else if 24 ≤ (cN f_manys 0) then ((asM q_undos (pgs f_manys f_reals f_factsOf f_possible)), -3) else (aRem (asM q_undos (pgs f_manys f_reals f_factsOf f_possible)) (aAdd (pgs f_manys f_reals f_factsOf f_possible 0) v0), nI (cN f_manys 0)); rw [if_neg (show ¬ (v0.toInt < 0 ∨ 15 < v0.toInt) by omega), if_pos (show 24 ≤ (cN f_manys 0) by omega)]), KP6.rf⟩)
  · refine an2 hw ?_
    clear hw
    intro he_7 he_8 hw
    have h_6 := hw
    clear hw
    have he_7 := he_7.symm
    subst he_7
    subst he_8
    refine ww_eq (ws' := [(hm, .inr (12, [.ref m_manys, .ref m_reals, .ref m_factsOf, .ref m_possible, .int (nI q_undos), .int (nI q_models), .ref m_tape, .int (nI q_taped), .int q_fault, .int q_wrong, .int q_wrongAt, .int q_spot, .int q_place, .int q_token, .int q_value, .ref m_ends, .ref m_letters, .ref m_actOf, .ref m_whom, .ref m_actMany, .ref m_tokens, .ref m_afters, .ref m_afterOf, .int q_counted, .ref m_pile, .ref m_caseMany, .ref m_happen, .ref m_hasIf, .ref m_becomes, .ref m_goneOf, .ref m_heard, .ref m_pairs, .ref m_heaps, .int q_rounds, .int q_heapMany, .ref m_led, .ref m_newAt, .ref m_knowing, .ref m_firsts, .int (nI q_people), .ref m_secrets, .ref m_tried, .ref m_lanes, .ref m_lengths, .ref m_cells])), (m_manys, .inl (E.2.1 1, 18, .inl f_manys)), (m_reals, .inl (E.2.1 1, 18, .inl f_reals)), (m_factsOf, .inl (E.2.1 1, 432, .inl f_factsOf)), (m_possible, .inl (E.2.1 1, 1728, .inl f_possible))]) ?_ rfl rfl rfl
    refine ww_if_ne_f (tgt := 14) C dX12_world_9 (by decide) (rfl) ?_
    refine ww_iconst (v := (-1)) C dX12_world_12 rfl ?_
    exact ww_iret (u := [(hm, .inr (12, [.ref m_manys, .ref m_reals, .ref m_factsOf, .ref m_possible, .int (nI q_undos), .int (nI q_models), .ref m_tape, .int (nI q_taped), .int q_fault, .int q_wrong, .int q_wrongAt, .int q_spot, .int q_place, .int q_token, .int q_value, .ref m_ends, .ref m_letters, .ref m_actOf, .ref m_whom, .ref m_actMany, .ref m_tokens, .ref m_afters, .ref m_afterOf, .int q_counted, .ref m_pile, .ref m_caseMany, .ref m_happen, .ref m_hasIf, .ref m_becomes, .ref m_goneOf, .ref m_heard, .ref m_pairs, .ref m_heaps, .int q_rounds, .int q_heapMany, .ref m_led, .ref m_newAt, .ref m_knowing, .ref m_firsts, .int (nI q_people), .ref m_secrets, .ref m_tried, .ref m_lanes, .ref m_lengths, .ref m_cells])), (m_manys, .inl (E.2.1 1, 18, .inl f_manys)), (m_reals, .inl (E.2.1 1, 18, .inl f_reals)), (m_factsOf, .inl (E.2.1 1, 432, .inl f_factsOf)), (m_possible, .inl (E.2.1 1, 1728, .inl f_possible))]) C hT [0, 1, 2, 3, 4] rfl rfl rfl rfl dX12_world_13 (⟨q_undos, f_manys, f_reals, f_factsOf, f_possible, rfl, hb_manys, hb_reals, hpg, hwf, (by omega), (by show _ = if v0.toInt < 0 ∨ 15 < v0.toInt then ((asM q_undos (pgs f_manys f_reals f_factsOf f_possible)), -1) else if 24 ≤ (cN f_manys 0) then ((asM q_undos (pgs f_manys f_reals f_factsOf f_possible)), -3) else (aRem (asM q_undos (pgs f_manys f_reals f_factsOf f_possible)) (aAdd (pgs f_manys f_reals f_factsOf f_possible 0) v0), nI (cN f_manys 0)); rw [if_pos (show v0.toInt < 0 ∨ 15 < v0.toInt by omega)]), KP6.rf⟩)
theorem dX12_see_0 : decode cX12_see 0 = .ok (.bipush 24, 2) := dl_16 (by decide +kernel)
theorem dX12_see_2 : decode cX12_see 2 = .ok (.iload_n 1, 1) := dl_27 (by decide +kernel)
theorem dX12_see_3 : decode cX12_see 3 = .ok (.imul, 1) := dl_104 (by decide +kernel)
theorem dX12_see_4 : decode cX12_see 4 = .ok (.iload_n 2, 1) := dl_28 (by decide +kernel)
theorem dX12_see_5 : decode cX12_see 5 = .ok (.iadd, 1) := dl_96 (by decide +kernel)
theorem dX12_see_6 : decode cX12_see 6 = .ok (.istore 5, 2) := dl_54 (by decide +kernel)
theorem dX12_see_8 : decode cX12_see 8 = .ok (.aload_n 0, 1) := dl_42 (by decide +kernel)
theorem dX12_see_9 : decode cX12_see 9 = .ok (.getfield 19, 3) := dl_180 (by decide +kernel)
theorem dX12_see_12 : decode cX12_see 12 = .ok (.iload 5, 2) := dl_21 (by decide +kernel)
theorem dX12_see_14 : decode cX12_see 14 = .ok (.iload 4, 2) := dl_21 (by decide +kernel)
theorem dX12_see_16 : decode cX12_see 16 = .ok (.ifCond .eq 17, 3) := dl_153 (by decide +kernel)
theorem dX12_see_33 : decode cX12_see 33 = .ok (.aload_n 0, 1) := dl_42 (by decide +kernel)
theorem dX12_see_34 : decode cX12_see 34 = .ok (.getfield 19, 3) := dl_180 (by decide +kernel)
theorem dX12_see_37 : decode cX12_see 37 = .ok (.iload 5, 2) := dl_21 (by decide +kernel)
theorem dX12_see_39 : decode cX12_see 39 = .ok (.iaload, 1) := dl_46 (by decide +kernel)
theorem dX12_see_40 : decode cX12_see 40 = .ok (.iconst 1, 1) := dl_4 (by decide +kernel)
theorem dX12_see_41 : decode cX12_see 41 = .ok (.iload_n 3, 1) := dl_29 (by decide +kernel)
theorem dX12_see_42 : decode cX12_see 42 = .ok (.ishl, 1) := dl_120 (by decide +kernel)
theorem dX12_see_43 : decode cX12_see 43 = .ok (.iconst (-1), 1) := dl_2 (by decide +kernel)
theorem dX12_see_44 : decode cX12_see 44 = .ok (.ixor, 1) := dl_130 (by decide +kernel)
theorem dX12_see_45 : decode cX12_see 45 = .ok (.iand, 1) := dl_126 (by decide +kernel)
theorem dX12_see_46 : decode cX12_see 46 = .ok (.iastore, 1) := dl_79 (by decide +kernel)
theorem dX12_see_47 : decode cX12_see 47 = .ok (.return_, 1) := dl_177 (by decide +kernel)
theorem dX12_see_19 : decode cX12_see 19 = .ok (.aload_n 0, 1) := dl_42 (by decide +kernel)
theorem dX12_see_20 : decode cX12_see 20 = .ok (.getfield 19, 3) := dl_180 (by decide +kernel)
theorem dX12_see_23 : decode cX12_see 23 = .ok (.iload 5, 2) := dl_21 (by decide +kernel)
theorem dX12_see_25 : decode cX12_see 25 = .ok (.iaload, 1) := dl_46 (by decide +kernel)
theorem dX12_see_26 : decode cX12_see 26 = .ok (.iconst 1, 1) := dl_4 (by decide +kernel)
theorem dX12_see_27 : decode cX12_see 27 = .ok (.iload_n 3, 1) := dl_29 (by decide +kernel)
theorem dX12_see_28 : decode cX12_see 28 = .ok (.ishl, 1) := dl_120 (by decide +kernel)
theorem dX12_see_29 : decode cX12_see 29 = .ok (.ior, 1) := dl_128 (by decide +kernel)
theorem dX12_see_30 : decode cX12_see 30 = .ok (.goto 16, 3) := dl_167 (by decide +kernel)
set_option maxRecDepth 100000 in
set_option maxHeartbeats 4000000 in
theorem r_see (l : Launch) (E : EV) (ro : va_W) (hm : Nat) (k : Nat) (u : Nat) (v : Int32) (is : Int32) (m_manys : Nat) (m_reals : Nat) (m_factsOf : Nat) (m_possible : Nat) (q_undos : Nat) (q_models : Nat) (m_tape : Nat) (q_taped : Nat) (q_fault : Int32) (q_wrong : Int32) (q_wrongAt : Int32) (q_spot : Int32) (q_place : Int32) (q_token : Int32) (q_value : Int32) (m_ends : Nat) (m_letters : Nat) (m_actOf : Nat) (m_whom : Nat) (m_actMany : Nat) (m_tokens : Nat) (m_afters : Nat) (m_afterOf : Nat) (q_counted : Int32) (m_pile : Nat) (m_caseMany : Nat) (m_happen : Nat) (m_hasIf : Nat) (m_becomes : Nat) (m_goneOf : Nat) (m_heard : Nat) (m_pairs : Nat) (m_heaps : Nat) (q_rounds : Int32) (q_heapMany : Int32) (m_led : Nat) (m_newAt : Nat) (m_knowing : Nat) (m_firsts : Nat) (q_people : Nat) (m_secrets : Nat) (m_tried : Nat) (m_lanes : Nat) (m_lengths : Nat) (m_cells : Nat) (f_possible : Nat → Int32) (hk : k < 4) (hu : u < 24) : CT l yX12_see (Cond.code yX12_see cX12_see 6 none :: TB) ({ frames := 0, cells := 0, slots := 0, locals := 0 }) E ro [.ref hm, .int (nI k), .int (nI u), .int v, .int is] [(hm, .inr (12, [.ref m_manys, .ref m_reals, .ref m_factsOf, .ref m_possible, .int (nI q_undos), .int (nI q_models), .ref m_tape, .int (nI q_taped), .int q_fault, .int q_wrong, .int q_wrongAt, .int q_spot, .int q_place, .int q_token, .int q_value, .ref m_ends, .ref m_letters, .ref m_actOf, .ref m_whom, .ref m_actMany, .ref m_tokens, .ref m_afters, .ref m_afterOf, .int q_counted, .ref m_pile, .ref m_caseMany, .ref m_happen, .ref m_hasIf, .ref m_becomes, .ref m_goneOf, .ref m_heard, .ref m_pairs, .ref m_heaps, .int q_rounds, .int q_heapMany, .ref m_led, .ref m_newAt, .ref m_knowing, .ref m_firsts, .int (nI q_people), .ref m_secrets, .ref m_tried, .ref m_lanes, .ref m_lengths, .ref m_cells])), (m_possible, .inl (E.2.1 1, 1728, .inl f_possible))] (Qv E (fun uz => (∃ (f_possiblez : Nat → Int32), uz = [(hm, .inr (12, [.ref m_manys, .ref m_reals, .ref m_factsOf, .ref m_possible, .int (nI q_undos), .int (nI q_models), .ref m_tape, .int (nI q_taped), .int q_fault, .int q_wrong, .int q_wrongAt, .int q_spot, .int q_place, .int q_token, .int q_value, .ref m_ends, .ref m_letters, .ref m_actOf, .ref m_whom, .ref m_actMany, .ref m_tokens, .ref m_afters, .ref m_afterOf, .int q_counted, .ref m_pile, .ref m_caseMany, .ref m_happen, .ref m_hasIf, .ref m_becomes, .ref m_goneOf, .ref m_heard, .ref m_pairs, .ref m_heaps, .int q_rounds, .int q_heapMany, .ref m_led, .ref m_newAt, .ref m_knowing, .ref m_firsts, .int (nI q_people), .ref m_secrets, .ref m_tried, .ref m_lanes, .ref m_lengths, .ref m_cells])), (m_possible, .inl (E.2.1 1, 1728, .inl f_possiblez))] ∧ (upd f_possible (24 * k + u) (hbt (f_possible (24 * k + u)) v is) = f_possiblez)))) 0 0 := by
  refine ct_of rfl rfl ?_
  intro X C hT hin hro
  show WW X 6 E 0 [(0, .ref hm), (1, .int (nI k)), (2, .int (nI u)), (3, .int v), (4, .int is)] [] [(hm, .inr (12, [.ref m_manys, .ref m_reals, .ref m_factsOf, .ref m_possible, .int (nI q_undos), .int (nI q_models), .ref m_tape, .int (nI q_taped), .int q_fault, .int q_wrong, .int q_wrongAt, .int q_spot, .int q_place, .int q_token, .int q_value, .ref m_ends, .ref m_letters, .ref m_actOf, .ref m_whom, .ref m_actMany, .ref m_tokens, .ref m_afters, .ref m_afterOf, .int q_counted, .ref m_pile, .ref m_caseMany, .ref m_happen, .ref m_hasIf, .ref m_becomes, .ref m_goneOf, .ref m_heard, .ref m_pairs, .ref m_heaps, .int q_rounds, .int q_heapMany, .ref m_led, .ref m_newAt, .ref m_knowing, .ref m_firsts, .int (nI q_people), .ref m_secrets, .ref m_tried, .ref m_lanes, .ref m_lengths, .ref m_cells])), (m_possible, .inl (E.2.1 1, 1728, .inl f_possible))] 0 0
  refine ww_bipush (v := 24) C dX12_see_0 rfl ?_
  refine ww_iload_n C dX12_see_2 1 rfl rfl ?_
  refine ww_imul (v := (nI (24 * k))) C dX12_see_3 (pk_mul 24 k) ?_
  refine ww_iload_n C dX12_see_4 2 rfl rfl ?_
  refine ww_iadd (v := (nI ((24 * k) + u))) C dX12_see_5 (nI_add (24 * k) u) ?_
  refine ww_istore (lv' := [(5, .int (nI ((24 * k) + u))), (0, .ref hm), (1, .int (nI k)), (2, .int (nI u)), (3, .int v), (4, .int is)]) C dX12_see_6 rfl rfl ?_
  refine ww_aload_n C dX12_see_8 1 rfl rfl ?_
  refine ww_get C fg_X12_19 0 rfl rfl dX12_see_9 ?_
  refine ww_iload C dX12_see_12 0 rfl ?_
  refine ww_iload C dX12_see_14 5 rfl ?_
  refine ww_if_eq (tgt := 33) C dX12_see_16 (by decide) (fun c_1 => ?_) (fun c_1 => ?_)
  · have zc_1 : is.toInt = 0 := i_eq rfl rfl c_1
    refine ww_aload_n C dX12_see_33 1 rfl rfl ?_
    refine ww_get C fg_X12_19 0 rfl rfl dX12_see_34 ?_
    refine ww_iload C dX12_see_37 0 rfl ?_
    obtain ⟨x_2, ex_2⟩ : ∃ z : Int32, f_possible ((24 * k) + u) = z := ⟨_, rfl⟩
    refine ww_iald (v := x_2) C 1 rfl (vp_in_nI (by omega) (by omega)) (ldn (by omega) ex_2) dX12_see_39 ?_
    refine ww_iconst (v := 1) C dX12_see_40 rfl ?_
    refine ww_iload_n C dX12_see_41 4 rfl rfl ?_
    obtain ⟨x_3, ex_3⟩ : ∃ z : Int32, (1 : Int32) <<< (v &&& 31) = z := ⟨_, rfl⟩
    refine ww_ishl (v := x_3) C dX12_see_42 ex_3 ?_
    refine ww_iconst (v := (-1)) C dX12_see_43 rfl ?_
    obtain ⟨x_4, ex_4⟩ : ∃ z : Int32, x_3 ^^^ ((-1) : Int32) = z := ⟨_, rfl⟩
    refine ww_ixor (v := x_4) C dX12_see_44 ex_4 ?_
    obtain ⟨x_5, ex_5⟩ : ∃ z : Int32, x_2 &&& x_4 = z := ⟨_, rfl⟩
    refine ww_iand (v := x_5) C dX12_see_45 ex_5 ?_
    obtain ⟨f_6, ef_6⟩ : ∃ z : Nat → Int32, upd f_possible ((24 * k) + u) x_5 = z := ⟨_, rfl⟩
    refine ww_iast (ws' := [(hm, .inr (12, [.ref m_manys, .ref m_reals, .ref m_factsOf, .ref m_possible, .int (nI q_undos), .int (nI q_models), .ref m_tape, .int (nI q_taped), .int q_fault, .int q_wrong, .int q_wrongAt, .int q_spot, .int q_place, .int q_token, .int q_value, .ref m_ends, .ref m_letters, .ref m_actOf, .ref m_whom, .ref m_actMany, .ref m_tokens, .ref m_afters, .ref m_afterOf, .int q_counted, .ref m_pile, .ref m_caseMany, .ref m_happen, .ref m_hasIf, .ref m_becomes, .ref m_goneOf, .ref m_heard, .ref m_pairs, .ref m_heaps, .int q_rounds, .int q_heapMany, .ref m_led, .ref m_newAt, .ref m_knowing, .ref m_firsts, .int (nI q_people), .ref m_secrets, .ref m_tried, .ref m_lanes, .ref m_lengths, .ref m_cells])), (m_possible, .inl (E.2.1 1, 1728, .inl f_6))]) C 1 rfl (vp_in_nI (by omega) (by omega)) (ldn2 (by omega) ef_6) rfl dX12_see_46 ?_
    exact ww_vret (u := [(hm, .inr (12, [.ref m_manys, .ref m_reals, .ref m_factsOf, .ref m_possible, .int (nI q_undos), .int (nI q_models), .ref m_tape, .int (nI q_taped), .int q_fault, .int q_wrong, .int q_wrongAt, .int q_spot, .int q_place, .int q_token, .int q_value, .ref m_ends, .ref m_letters, .ref m_actOf, .ref m_whom, .ref m_actMany, .ref m_tokens, .ref m_afters, .ref m_afterOf, .int q_counted, .ref m_pile, .ref m_caseMany, .ref m_happen, .ref m_hasIf, .ref m_becomes, .ref m_goneOf, .ref m_heard, .ref m_pairs, .ref m_heaps, .int q_rounds, .int q_heapMany, .ref m_led, .ref m_newAt, .ref m_knowing, .ref m_firsts, .int (nI q_people), .ref m_secrets, .ref m_tried, .ref m_lanes, .ref m_lengths, .ref m_cells])), (m_possible, .inl (E.2.1 1, 1728, .inl f_6))]) C hT [0, 1] rfl rfl rfl rfl dX12_see_47 (⟨f_6, rfl, (by unfold hbt; rw [if_neg (fun h9 => h9 (by assumption)), ex_2, ex_3, ex_4, ex_5]; exact ef_6)⟩)
  · have zc_1 : is.toInt ≠ 0 := i_ne rfl rfl c_1
    refine ww_aload_n C dX12_see_19 1 rfl rfl ?_
    refine ww_get C fg_X12_19 0 rfl rfl dX12_see_20 ?_
    refine ww_iload C dX12_see_23 0 rfl ?_
    obtain ⟨x_7, ex_7⟩ : ∃ z : Int32, f_possible ((24 * k) + u) = z := ⟨_, rfl⟩
    refine ww_iald (v := x_7) C 1 rfl (vp_in_nI (by omega) (by omega)) (ldn (by omega) ex_7) dX12_see_25 ?_
    refine ww_iconst (v := 1) C dX12_see_26 rfl ?_
    refine ww_iload_n C dX12_see_27 4 rfl rfl ?_
    obtain ⟨x_8, ex_8⟩ : ∃ z : Int32, (1 : Int32) <<< (v &&& 31) = z := ⟨_, rfl⟩
    refine ww_ishl (v := x_8) C dX12_see_28 ex_8 ?_
    obtain ⟨x_9, ex_9⟩ : ∃ z : Int32, x_7 ||| x_8 = z := ⟨_, rfl⟩
    refine ww_ior (v := x_9) C dX12_see_29 ex_9 ?_
    refine ww_goto (tgt := 46) C dX12_see_30 (by decide) ?_
    obtain ⟨f_10, ef_10⟩ : ∃ z : Nat → Int32, upd f_possible ((24 * k) + u) x_9 = z := ⟨_, rfl⟩
    refine ww_iast (ws' := [(hm, .inr (12, [.ref m_manys, .ref m_reals, .ref m_factsOf, .ref m_possible, .int (nI q_undos), .int (nI q_models), .ref m_tape, .int (nI q_taped), .int q_fault, .int q_wrong, .int q_wrongAt, .int q_spot, .int q_place, .int q_token, .int q_value, .ref m_ends, .ref m_letters, .ref m_actOf, .ref m_whom, .ref m_actMany, .ref m_tokens, .ref m_afters, .ref m_afterOf, .int q_counted, .ref m_pile, .ref m_caseMany, .ref m_happen, .ref m_hasIf, .ref m_becomes, .ref m_goneOf, .ref m_heard, .ref m_pairs, .ref m_heaps, .int q_rounds, .int q_heapMany, .ref m_led, .ref m_newAt, .ref m_knowing, .ref m_firsts, .int (nI q_people), .ref m_secrets, .ref m_tried, .ref m_lanes, .ref m_lengths, .ref m_cells])), (m_possible, .inl (E.2.1 1, 1728, .inl f_10))]) C 1 rfl (vp_in_nI (by omega) (by omega)) (ldn2 (by omega) ef_10) rfl dX12_see_46 ?_
    exact ww_vret (u := [(hm, .inr (12, [.ref m_manys, .ref m_reals, .ref m_factsOf, .ref m_possible, .int (nI q_undos), .int (nI q_models), .ref m_tape, .int (nI q_taped), .int q_fault, .int q_wrong, .int q_wrongAt, .int q_spot, .int q_place, .int q_token, .int q_value, .ref m_ends, .ref m_letters, .ref m_actOf, .ref m_whom, .ref m_actMany, .ref m_tokens, .ref m_afters, .ref m_afterOf, .int q_counted, .ref m_pile, .ref m_caseMany, .ref m_happen, .ref m_hasIf, .ref m_becomes, .ref m_goneOf, .ref m_heard, .ref m_pairs, .ref m_heaps, .int q_rounds, .int q_heapMany, .ref m_led, .ref m_newAt, .ref m_knowing, .ref m_firsts, .int (nI q_people), .ref m_secrets, .ref m_tried, .ref m_lanes, .ref m_lengths, .ref m_cells])), (m_possible, .inl (E.2.1 1, 1728, .inl f_10))]) C hT [0, 1] rfl rfl rfl rfl dX12_see_47 (⟨f_10, rfl, (by unfold hbt; rw [if_pos (by assumption), ex_7, ex_8, ex_9]; exact ef_10)⟩)
theorem dX12_sees_0 : decode cX12_sees 0 = .ok (.iload_n 1, 1) := dl_27 (by decide +kernel)
theorem dX12_sees_1 : decode cX12_sees 1 = .ok (.invokestatic 128, 3) := dl_184 (by decide +kernel)
theorem wl_X12_128 : Cond.methodLink RX12 128 yX12_isKnower ∈ TB := tbm (tq5 (List.mem_of_getElem? (i := 239) (by decide +kernel))) (by decide +kernel)
theorem wc_X12_isKnower : Cond.code yX12_isKnower cX12_isKnower 1 (some .boolean) ∈ TB := tbm (tq6 (List.mem_of_getElem? (i := 1) (rfl))) (by decide +kernel)
theorem wt_X12_isKnower : Cond.static yX12_isKnower ∈ TB := tbm (tq6 (List.mem_of_getElem? (i := 0) (by decide +kernel))) (by decide +kernel)
theorem ms_X12_isKnower : MS yX12_isKnower cX12_isKnower 1 (some .boolean) 1 := ⟨wc_X12_isKnower, wn_X12, ⟨by decide +kernel, by decide +kernel, by decide +kernel⟩, wt_X12_isKnower⟩
theorem dX12_sees_4 : decode cX12_sees 4 = .ok (.ifCond .eq 19, 3) := dl_153 (by decide +kernel)
theorem dX12_sees_7 : decode cX12_sees 7 = .ok (.aload_n 0, 1) := dl_42 (by decide +kernel)
theorem dX12_sees_8 : decode cX12_sees 8 = .ok (.iload_n 2, 1) := dl_28 (by decide +kernel)
theorem dX12_sees_9 : decode cX12_sees 9 = .ok (.invokevirtual 132, 3) := dl_182 (by decide +kernel)
theorem wl_X12_132 : Cond.methodLink RX12 132 yX12_isWorld ∈ TB := tbm (tq6 (List.mem_of_getElem? (i := 3) (by decide +kernel))) (by decide +kernel)
theorem wc_X12_isWorld : Cond.code yX12_isWorld cX12_isWorld 2 (some .boolean) ∈ TB := tbm (tq6 (List.mem_of_getElem? (i := 6) (rfl))) (by decide +kernel)
theorem wi_X12_isWorld : Cond.instanceMethod yX12_isWorld ∈ TB := tbm (tq6 (List.mem_of_getElem? (i := 5) (by decide +kernel))) (by decide +kernel)
theorem ws_X12_isWorld : Cond.selects RX12 yX12_isWorld yX12_isWorld ∈ TB := tbm (tq0 (List.mem_of_getElem? (i := 39) (by decide +kernel))) (by decide +kernel)
theorem mi_X12_isWorld : MI yX12_isWorld cX12_isWorld 2 (some .boolean) 1 := ⟨wc_X12_isWorld, wn_X12, ⟨by decide +kernel, by decide +kernel, by decide +kernel⟩, wi_X12_isWorld, ws_X12_isWorld⟩
theorem dX12_sees_12 : decode cX12_sees 12 = .ok (.ifCond .eq 11, 3) := dl_153 (by decide +kernel)
theorem dX12_sees_15 : decode cX12_sees 15 = .ok (.aload_n 0, 1) := dl_42 (by decide +kernel)
theorem dX12_sees_16 : decode cX12_sees 16 = .ok (.iload_n 3, 1) := dl_29 (by decide +kernel)
theorem dX12_sees_17 : decode cX12_sees 17 = .ok (.invokevirtual 132, 3) := dl_182 (by decide +kernel)
theorem dX12_sees_20 : decode cX12_sees 20 = .ok (.ifCond .ne 5, 3) := dl_154 (by decide +kernel)
theorem dX12_sees_25 : decode cX12_sees 25 = .ok (.aload_n 0, 1) := dl_42 (by decide +kernel)
theorem dX12_sees_26 : decode cX12_sees 26 = .ok (.invokevirtual 121, 3) := dl_182 (by decide +kernel)
theorem dX12_sees_29 : decode cX12_sees 29 = .ok (.aload_n 0, 1) := dl_42 (by decide +kernel)
theorem dX12_sees_30 : decode cX12_sees 30 = .ok (.iconst 0, 1) := dl_3 (by decide +kernel)
theorem dX12_sees_31 : decode cX12_sees 31 = .ok (.iload_n 1, 1) := dl_27 (by decide +kernel)
theorem dX12_sees_32 : decode cX12_sees 32 = .ok (.iload_n 2, 1) := dl_28 (by decide +kernel)
theorem dX12_sees_33 : decode cX12_sees 33 = .ok (.invokevirtual 135, 3) := dl_182 (by decide +kernel)
theorem wl_X12_135 : Cond.methodLink RX12 135 yX12_seen ∈ TB := tbm (tq6 (List.mem_of_getElem? (i := 7) (by decide +kernel))) (by decide +kernel)
theorem wc_X12_seen : Cond.code yX12_seen cX12_seen 4 (some .int) ∈ TB := tbm (tq6 (List.mem_of_getElem? (i := 10) (rfl))) (by decide +kernel)
theorem wi_X12_seen : Cond.instanceMethod yX12_seen ∈ TB := tbm (tq6 (List.mem_of_getElem? (i := 9) (by decide +kernel))) (by decide +kernel)
theorem ws_X12_seen : Cond.selects RX12 yX12_seen yX12_seen ∈ TB := tbm (tq0 (List.mem_of_getElem? (i := 40) (by decide +kernel))) (by decide +kernel)
theorem mi_X12_seen : MI yX12_seen cX12_seen 4 (some .int) 3 := ⟨wc_X12_seen, wn_X12, ⟨by decide +kernel, by decide +kernel, by decide +kernel⟩, wi_X12_seen, ws_X12_seen⟩
theorem dX12_sees_36 : decode cX12_sees 36 = .ok (.iload_n 3, 1) := dl_29 (by decide +kernel)
theorem dX12_sees_37 : decode cX12_sees 37 = .ok (.ishr, 1) := dl_122 (by decide +kernel)
theorem dX12_sees_38 : decode cX12_sees 38 = .ok (.iconst 1, 1) := dl_4 (by decide +kernel)
theorem dX12_sees_39 : decode cX12_sees 39 = .ok (.iand, 1) := dl_126 (by decide +kernel)
theorem dX12_sees_40 : decode cX12_sees 40 = .ok (.istore 6, 2) := dl_54 (by decide +kernel)
theorem dX12_sees_42 : decode cX12_sees 42 = .ok (.aload_n 0, 1) := dl_42 (by decide +kernel)
theorem dX12_sees_43 : decode cX12_sees 43 = .ok (.iload_n 1, 1) := dl_27 (by decide +kernel)
theorem dX12_sees_44 : decode cX12_sees 44 = .ok (.iload_n 2, 1) := dl_28 (by decide +kernel)
theorem dX12_sees_45 : decode cX12_sees 45 = .ok (.iload_n 3, 1) := dl_29 (by decide +kernel)
theorem dX12_sees_46 : decode cX12_sees 46 = .ok (.iload 4, 2) := dl_21 (by decide +kernel)
theorem dX12_sees_48 : decode cX12_sees 48 = .ok (.invokevirtual 139, 3) := dl_182 (by decide +kernel)
theorem wl_X12_139 : Cond.methodLink RX12 139 yX12_see ∈ TB := tbm (tq6 (List.mem_of_getElem? (i := 11) (by decide +kernel))) (by decide +kernel)
theorem wc_X12_see : Cond.code yX12_see cX12_see 6 none ∈ TB := tbm (tq6 (List.mem_of_getElem? (i := 14) (rfl))) (by decide +kernel)
theorem wi_X12_see : Cond.instanceMethod yX12_see ∈ TB := tbm (tq6 (List.mem_of_getElem? (i := 13) (by decide +kernel))) (by decide +kernel)
theorem ws_X12_see : Cond.selects RX12 yX12_see yX12_see ∈ TB := tbm (tq0 (List.mem_of_getElem? (i := 41) (by decide +kernel))) (by decide +kernel)
theorem mi_X12_see : MI yX12_see cX12_see 6 none 4 := ⟨wc_X12_see, wn_X12, ⟨by decide +kernel, by decide +kernel, by decide +kernel⟩, wi_X12_see, ws_X12_see⟩
theorem dX12_sees_51 : decode cX12_sees 51 = .ok (.iload 5, 2) := dl_21 (by decide +kernel)
theorem dX12_sees_53 : decode cX12_sees 53 = .ok (.ifCond .eq 12, 3) := dl_153 (by decide +kernel)
theorem dX12_sees_65 : decode cX12_sees 65 = .ok (.iload 6, 2) := dl_21 (by decide +kernel)
theorem dX12_sees_67 : decode cX12_sees 67 = .ok (.ireturn, 1) := dl_172 (by decide +kernel)
theorem dX12_sees_56 : decode cX12_sees 56 = .ok (.aload_n 0, 1) := dl_42 (by decide +kernel)
theorem dX12_sees_57 : decode cX12_sees 57 = .ok (.iload_n 1, 1) := dl_27 (by decide +kernel)
theorem dX12_sees_58 : decode cX12_sees 58 = .ok (.iload_n 3, 1) := dl_29 (by decide +kernel)
theorem dX12_sees_59 : decode cX12_sees 59 = .ok (.iload_n 2, 1) := dl_28 (by decide +kernel)
theorem dX12_sees_60 : decode cX12_sees 60 = .ok (.iload 4, 2) := dl_21 (by decide +kernel)
theorem dX12_sees_62 : decode cX12_sees 62 = .ok (.invokevirtual 139, 3) := dl_182 (by decide +kernel)
theorem dX12_sees_23 : decode cX12_sees 23 = .ok (.iconst (-1), 1) := dl_2 (by decide +kernel)
theorem dX12_sees_24 : decode cX12_sees 24 = .ok (.ireturn, 1) := dl_172 (by decide +kernel)
set_option maxRecDepth 100000 in
set_option maxHeartbeats 4000000 in
theorem y_sees (l : Launch) (E : EV) (ro : va_W) (hm : Nat) (v0 : Int32) (v1 : Int32) (v2 : Int32) (v3 : Int32) (v4 : Int32) (m_manys : Nat) (m_reals : Nat) (m_factsOf : Nat) (m_possible : Nat) (q_undos : Nat) (q_models : Nat) (m_tape : Nat) (q_taped : Nat) (q_fault : Int32) (q_wrong : Int32) (q_wrongAt : Int32) (q_spot : Int32) (q_place : Int32) (q_token : Int32) (q_value : Int32) (m_ends : Nat) (m_letters : Nat) (m_actOf : Nat) (m_whom : Nat) (m_actMany : Nat) (m_tokens : Nat) (m_afters : Nat) (m_afterOf : Nat) (q_counted : Int32) (m_pile : Nat) (m_caseMany : Nat) (m_happen : Nat) (m_hasIf : Nat) (m_becomes : Nat) (m_goneOf : Nat) (m_heard : Nat) (m_pairs : Nat) (m_heaps : Nat) (q_rounds : Int32) (q_heapMany : Int32) (m_led : Nat) (m_newAt : Nat) (m_knowing : Nat) (m_firsts : Nat) (q_people : Nat) (m_secrets : Nat) (m_tried : Nat) (m_lanes : Nat) (m_lengths : Nat) (m_cells : Nat) (f_manys : Nat → Int32) (f_reals : Nat → Int32) (f_factsOf : Nat → Int32) (f_possible : Nat → Int32) (hb_manys : NB 18 24 f_manys) (hb_reals : NB 18 23 f_reals) (hpg : PG f_manys f_reals) (hwf : WFP (pgs f_manys f_reals f_factsOf f_possible)) (hq_undos : q_undos ≤ 8) : CT l yX12_sees (Cond.code yX12_sees cX12_sees 7 (some .int) :: TB) ({ frames := 2, cells := 0, slots := 0, locals := 46 }) E ro [.ref hm, .int v0, .int v1, .int v2, .int v3, .int v4] [(hm, .inr (12, [.ref m_manys, .ref m_reals, .ref m_factsOf, .ref m_possible, .int (nI q_undos), .int (nI q_models), .ref m_tape, .int (nI q_taped), .int q_fault, .int q_wrong, .int q_wrongAt, .int q_spot, .int q_place, .int q_token, .int q_value, .ref m_ends, .ref m_letters, .ref m_actOf, .ref m_whom, .ref m_actMany, .ref m_tokens, .ref m_afters, .ref m_afterOf, .int q_counted, .ref m_pile, .ref m_caseMany, .ref m_happen, .ref m_hasIf, .ref m_becomes, .ref m_goneOf, .ref m_heard, .ref m_pairs, .ref m_heaps, .int q_rounds, .int q_heapMany, .ref m_led, .ref m_newAt, .ref m_knowing, .ref m_firsts, .int (nI q_people), .ref m_secrets, .ref m_tried, .ref m_lanes, .ref m_lengths, .ref m_cells])), (m_manys, .inl (E.2.1 1, 18, .inl f_manys)), (m_reals, .inl (E.2.1 1, 18, .inl f_reals)), (m_factsOf, .inl (E.2.1 1, 432, .inl f_factsOf)), (m_possible, .inl (E.2.1 1, 1728, .inl f_possible))] (Qi E (fun (rz : Int32) uz => (∃ (uz_ : Nat) (f_manysz : Nat → Int32) (f_realsz : Nat → Int32) (f_factsOfz : Nat → Int32) (f_possiblez : Nat → Int32), uz = [(hm, .inr (12, [.ref m_manys, .ref m_reals, .ref m_factsOf, .ref m_possible, .int (nI uz_), .int (nI q_models), .ref m_tape, .int (nI q_taped), .int q_fault, .int q_wrong, .int q_wrongAt, .int q_spot, .int q_place, .int q_token, .int q_value, .ref m_ends, .ref m_letters, .ref m_actOf, .ref m_whom, .ref m_actMany, .ref m_tokens, .ref m_afters, .ref m_afterOf, .int q_counted, .ref m_pile, .ref m_caseMany, .ref m_happen, .ref m_hasIf, .ref m_becomes, .ref m_goneOf, .ref m_heard, .ref m_pairs, .ref m_heaps, .int q_rounds, .int q_heapMany, .ref m_led, .ref m_newAt, .ref m_knowing, .ref m_firsts, .int (nI q_people), .ref m_secrets, .ref m_tried, .ref m_lanes, .ref m_lengths, .ref m_cells])), (m_manys, .inl (E.2.1 1, 18, .inl f_manysz)), (m_reals, .inl (E.2.1 1, 18, .inl f_realsz)), (m_factsOf, .inl (E.2.1 1, 432, .inl f_factsOfz)), (m_possible, .inl (E.2.1 1, 1728, .inl f_possiblez))] ∧ (NB 18 24 f_manysz) ∧ (NB 18 23 f_realsz) ∧ (PG f_manysz f_realsz) ∧ (WFP (pgs f_manysz f_realsz f_factsOfz f_possiblez)) ∧ (uz_ ≤ 8) ∧ ((asM uz_ (pgs f_manysz f_realsz f_factsOfz f_possiblez), rz) = opSees (asM q_undos (pgs f_manys f_reals f_factsOf f_possible)) v0 v1 v2 v3 v4) ∧ (KP6 (pgs f_manys f_reals f_factsOf f_possible) (pgs f_manysz f_realsz f_factsOfz f_possiblez))))) 0 0 := by
  refine ct_of rfl rfl ?_
  intro X C hT hin hro
  show WW X 7 E 0 [(0, .ref hm), (1, .int v0), (2, .int v1), (3, .int v2), (4, .int v3), (5, .int v4)] [] [(hm, .inr (12, [.ref m_manys, .ref m_reals, .ref m_factsOf, .ref m_possible, .int (nI q_undos), .int (nI q_models), .ref m_tape, .int (nI q_taped), .int q_fault, .int q_wrong, .int q_wrongAt, .int q_spot, .int q_place, .int q_token, .int q_value, .ref m_ends, .ref m_letters, .ref m_actOf, .ref m_whom, .ref m_actMany, .ref m_tokens, .ref m_afters, .ref m_afterOf, .int q_counted, .ref m_pile, .ref m_caseMany, .ref m_happen, .ref m_hasIf, .ref m_becomes, .ref m_goneOf, .ref m_heard, .ref m_pairs, .ref m_heaps, .int q_rounds, .int q_heapMany, .ref m_led, .ref m_newAt, .ref m_knowing, .ref m_firsts, .int (nI q_people), .ref m_secrets, .ref m_tried, .ref m_lanes, .ref m_lengths, .ref m_cells])), (m_manys, .inl (E.2.1 1, 18, .inl f_manys)), (m_reals, .inl (E.2.1 1, 18, .inl f_reals)), (m_factsOf, .inl (E.2.1 1, 432, .inl f_factsOf)), (m_possible, .inl (E.2.1 1, 1728, .inl f_possible))] 0 0
  have hmn0 := (hb_manys 0 (by omega)).2
  refine ww_iload_n C dX12_sees_0 1 rfl rfl ?_
  refine ww_ci (wr := [(hm, .inr (12, [.ref m_manys, .ref m_reals, .ref m_factsOf, .ref m_possible, .int (nI q_undos), .int (nI q_models), .ref m_tape, .int (nI q_taped), .int q_fault, .int q_wrong, .int q_wrongAt, .int q_spot, .int q_place, .int q_token, .int q_value, .ref m_ends, .ref m_letters, .ref m_actOf, .ref m_whom, .ref m_actMany, .ref m_tokens, .ref m_afters, .ref m_afterOf, .int q_counted, .ref m_pile, .ref m_caseMany, .ref m_happen, .ref m_hasIf, .ref m_becomes, .ref m_goneOf, .ref m_heard, .ref m_pairs, .ref m_heaps, .int q_rounds, .int q_heapMany, .ref m_led, .ref m_newAt, .ref m_knowing, .ref m_firsts, .int (nI q_people), .ref m_secrets, .ref m_tried, .ref m_lanes, .ref m_lengths, .ref m_cells])), (m_manys, .inl (E.2.1 1, 18, .inl f_manys)), (m_reals, .inl (E.2.1 1, 18, .inl f_reals)), (m_factsOf, .inl (E.2.1 1, 432, .inl f_factsOf)), (m_possible, .inl (E.2.1 1, 1728, .inl f_possible))]) (k' := 0) (n' := 0) C (run_S (As := [.int v0]) (rest := []) C (r_isKnower X.2.1 E ro v0) ms_X12_isKnower wl_X12_128 rfl rfl rfl rfl dX12_sees_1) (roK hro) [] [0, 1, 2, 3, 4] rfl rfl rfl rfl (fun r_1 uz hw => ?_)
  rcases hw with hw | hw
  · refine an3 hw ?_
    clear hw
    intro he_4 he_5 h_2 hw
    have h_3 := hw
    clear hw
    have he_4 := he_4.symm
    subst he_4
    subst he_5
    refine ww_eq (ws' := [(hm, .inr (12, [.ref m_manys, .ref m_reals, .ref m_factsOf, .ref m_possible, .int (nI q_undos), .int (nI q_models), .ref m_tape, .int (nI q_taped), .int q_fault, .int q_wrong, .int q_wrongAt, .int q_spot, .int q_place, .int q_token, .int q_value, .ref m_ends, .ref m_letters, .ref m_actOf, .ref m_whom, .ref m_actMany, .ref m_tokens, .ref m_afters, .ref m_afterOf, .int q_counted, .ref m_pile, .ref m_caseMany, .ref m_happen, .ref m_hasIf, .ref m_becomes, .ref m_goneOf, .ref m_heard, .ref m_pairs, .ref m_heaps, .int q_rounds, .int q_heapMany, .ref m_led, .ref m_newAt, .ref m_knowing, .ref m_firsts, .int (nI q_people), .ref m_secrets, .ref m_tried, .ref m_lanes, .ref m_lengths, .ref m_cells])), (m_manys, .inl (E.2.1 1, 18, .inl f_manys)), (m_reals, .inl (E.2.1 1, 18, .inl f_reals)), (m_factsOf, .inl (E.2.1 1, 432, .inl f_factsOf)), (m_possible, .inl (E.2.1 1, 1728, .inl f_possible))]) ?_ rfl rfl rfl
    refine ww_if_eq_f (tgt := 23) C dX12_sees_4 (by decide) (by decide) ?_
    refine ww_aload_n C dX12_sees_7 0 rfl rfl ?_
    refine ww_iload_n C dX12_sees_8 2 rfl rfl ?_
    refine ww_ci (wr := [(m_reals, .inl (E.2.1 1, 18, .inl f_reals)), (m_factsOf, .inl (E.2.1 1, 432, .inl f_factsOf)), (m_possible, .inl (E.2.1 1, 1728, .inl f_possible))]) (k' := 0) (n' := 0) C (run_V (As := [.int v1]) (rest := []) C (r_isWorld X.2.1 E ro hm v1 m_manys m_reals m_factsOf m_possible q_undos q_models m_tape q_taped q_fault q_wrong q_wrongAt q_spot q_place q_token q_value m_ends m_letters m_actOf m_whom m_actMany m_tokens m_afters m_afterOf q_counted m_pile m_caseMany m_happen m_hasIf m_becomes m_goneOf m_heard m_pairs m_heaps q_rounds q_heapMany m_led m_newAt m_knowing m_firsts q_people m_secrets m_tried m_lanes m_lengths m_cells f_manys hb_manys) mi_X12_isWorld wl_X12_132 rfl 0 12 rfl rfl rfl rfl rfl dX12_sees_9) (roK hro) [0, 1] [2, 3, 4] rfl rfl rfl rfl (fun r_9 uz hw => ?_)
    rcases hw with hw | hw
    · refine an3 hw ?_
      clear hw
      intro he_12 he_13 h_10 hw
      have h_11 := hw
      clear hw
      have he_12 := he_12.symm
      subst he_12
      subst he_13
      refine ww_eq (ws' := [(m_reals, .inl (E.2.1 1, 18, .inl f_reals)), (m_factsOf, .inl (E.2.1 1, 432, .inl f_factsOf)), (m_possible, .inl (E.2.1 1, 1728, .inl f_possible)), (hm, .inr (12, [.ref m_manys, .ref m_reals, .ref m_factsOf, .ref m_possible, .int (nI q_undos), .int (nI q_models), .ref m_tape, .int (nI q_taped), .int q_fault, .int q_wrong, .int q_wrongAt, .int q_spot, .int q_place, .int q_token, .int q_value, .ref m_ends, .ref m_letters, .ref m_actOf, .ref m_whom, .ref m_actMany, .ref m_tokens, .ref m_afters, .ref m_afterOf, .int q_counted, .ref m_pile, .ref m_caseMany, .ref m_happen, .ref m_hasIf, .ref m_becomes, .ref m_goneOf, .ref m_heard, .ref m_pairs, .ref m_heaps, .int q_rounds, .int q_heapMany, .ref m_led, .ref m_newAt, .ref m_knowing, .ref m_firsts, .int (nI q_people), .ref m_secrets, .ref m_tried, .ref m_lanes, .ref m_lengths, .ref m_cells])), (m_manys, .inl (E.2.1 1, 18, .inl f_manys))]) ?_ rfl rfl rfl
      refine ww_if_eq_f (tgt := 23) C dX12_sees_12 (by decide) (by decide) ?_
      refine ww_aload_n C dX12_sees_15 0 rfl rfl ?_
      refine ww_iload_n C dX12_sees_16 3 rfl rfl ?_
      refine ww_ci (wr := [(m_reals, .inl (E.2.1 1, 18, .inl f_reals)), (m_factsOf, .inl (E.2.1 1, 432, .inl f_factsOf)), (m_possible, .inl (E.2.1 1, 1728, .inl f_possible))]) (k' := 0) (n' := 0) C (run_V (As := [.int v2]) (rest := []) C (r_isWorld X.2.1 E ro hm v2 m_manys m_reals m_factsOf m_possible q_undos q_models m_tape q_taped q_fault q_wrong q_wrongAt q_spot q_place q_token q_value m_ends m_letters m_actOf m_whom m_actMany m_tokens m_afters m_afterOf q_counted m_pile m_caseMany m_happen m_hasIf m_becomes m_goneOf m_heard m_pairs m_heaps q_rounds q_heapMany m_led m_newAt m_knowing m_firsts q_people m_secrets m_tried m_lanes m_lengths m_cells f_manys hb_manys) mi_X12_isWorld wl_X12_132 rfl 0 12 rfl rfl rfl rfl rfl dX12_sees_17) (roK hro) [3, 4] [0, 1, 2] rfl rfl rfl rfl (fun r_17 uz hw => ?_)
      rcases hw with hw | hw
      · refine an3 hw ?_
        clear hw
        intro he_20 he_21 h_18 hw
        have h_19 := hw
        clear hw
        have he_20 := he_20.symm
        subst he_20
        subst he_21
        refine ww_eq (ws' := [(m_reals, .inl (E.2.1 1, 18, .inl f_reals)), (m_factsOf, .inl (E.2.1 1, 432, .inl f_factsOf)), (m_possible, .inl (E.2.1 1, 1728, .inl f_possible)), (hm, .inr (12, [.ref m_manys, .ref m_reals, .ref m_factsOf, .ref m_possible, .int (nI q_undos), .int (nI q_models), .ref m_tape, .int (nI q_taped), .int q_fault, .int q_wrong, .int q_wrongAt, .int q_spot, .int q_place, .int q_token, .int q_value, .ref m_ends, .ref m_letters, .ref m_actOf, .ref m_whom, .ref m_actMany, .ref m_tokens, .ref m_afters, .ref m_afterOf, .int q_counted, .ref m_pile, .ref m_caseMany, .ref m_happen, .ref m_hasIf, .ref m_becomes, .ref m_goneOf, .ref m_heard, .ref m_pairs, .ref m_heaps, .int q_rounds, .int q_heapMany, .ref m_led, .ref m_newAt, .ref m_knowing, .ref m_firsts, .int (nI q_people), .ref m_secrets, .ref m_tried, .ref m_lanes, .ref m_lengths, .ref m_cells])), (m_manys, .inl (E.2.1 1, 18, .inl f_manys))]) ?_ rfl rfl rfl
        refine ww_if_ne_t (tgt := 25) C dX12_sees_20 (by decide) (by decide) ?_
        obtain ⟨j_25, hj_25, rfl⟩ := i_nat (x := v0) (N := 3) (by omega) (by omega)
        have hzj_25 := nI_toInt (n := j_25) (by omega)
        obtain ⟨j_26, hj_26, rfl⟩ := i_nat (x := v1) (N := 24) (by omega) (by omega)
        have hzj_26 := nI_toInt (n := j_26) (by omega)
        obtain ⟨j_27, hj_27, rfl⟩ := i_nat (x := v2) (N := 24) (by omega) (by omega)
        have hzj_27 := nI_toInt (n := j_27) (by omega)
        refine ww_aload_n C dX12_sees_25 0 rfl rfl ?_
        refine ww_cv (wr := []) (k' := 0) (n' := 0) C (run_V (As := []) (rest := []) C (r_acts X.2.1 E ro hm m_manys m_reals m_factsOf m_possible q_undos q_models m_tape q_taped q_fault q_wrong q_wrongAt q_spot q_place q_token q_value m_ends m_letters m_actOf m_whom m_actMany m_tokens m_afters m_afterOf q_counted m_pile m_caseMany m_happen m_hasIf m_becomes m_goneOf m_heard m_pairs m_heaps q_rounds q_heapMany m_led m_newAt m_knowing m_firsts q_people m_secrets m_tried m_lanes m_lengths m_cells f_manys f_reals f_factsOf f_possible hb_manys hb_reals hpg hwf (by omega)) mi_X12_acts wl_X12_121 rfl 0 12 rfl rfl rfl rfl rfl dX12_sees_26) (roK hro) [3, 4, 0, 1, 2] [] rfl rfl rfl rfl (fun uz hw => ?_)
        refine ex5 hw ?_
        clear hw
        intro uz__29 f_manysz_30 f_realsz_31 f_factsOfz_32 f_possiblez_33 hw
        refine an8 hw ?_
        clear hw
        intro he_44 h_34 h_35 h_36 h_37 h_38 h_39 h_40 hw
        refine an2 hw ?_
        clear hw
        intro h_41 h_42 hw
        have h_43 := hw
        clear hw
        subst he_44
        refine ww_eq (ws' := [(hm, .inr (12, [.ref m_manys, .ref m_reals, .ref m_factsOf, .ref m_possible, .int (nI uz__29), .int (nI q_models), .ref m_tape, .int (nI q_taped), .int q_fault, .int q_wrong, .int q_wrongAt, .int q_spot, .int q_place, .int q_token, .int q_value, .ref m_ends, .ref m_letters, .ref m_actOf, .ref m_whom, .ref m_actMany, .ref m_tokens, .ref m_afters, .ref m_afterOf, .int q_counted, .ref m_pile, .ref m_caseMany, .ref m_happen, .ref m_hasIf, .ref m_becomes, .ref m_goneOf, .ref m_heard, .ref m_pairs, .ref m_heaps, .int q_rounds, .int q_heapMany, .ref m_led, .ref m_newAt, .ref m_knowing, .ref m_firsts, .int (nI q_people), .ref m_secrets, .ref m_tried, .ref m_lanes, .ref m_lengths, .ref m_cells])), (m_manys, .inl (E.2.1 1, 18, .inl f_manysz_30)), (m_reals, .inl (E.2.1 1, 18, .inl f_realsz_31)), (m_factsOf, .inl (E.2.1 1, 432, .inl f_factsOfz_32)), (m_possible, .inl (E.2.1 1, 1728, .inl f_possiblez_33))]) ?_ rfl rfl rfl
        have hk0_k_45 := KP.at h_39 (p := 0) (by omega)
        refine ww_aload_n C dX12_sees_29 0 rfl rfl ?_
        refine ww_iconst (v := 0) C dX12_sees_30 rfl ?_
        refine ww_iload_n C dX12_sees_31 1 rfl rfl ?_
        refine ww_iload_n C dX12_sees_32 2 rfl rfl ?_
        refine ww_ci (wr := [(m_manys, .inl (E.2.1 1, 18, .inl f_manysz_30)), (m_reals, .inl (E.2.1 1, 18, .inl f_realsz_31)), (m_factsOf, .inl (E.2.1 1, 432, .inl f_factsOfz_32))]) (k' := 0) (n' := 0) C (run_V (As := [.int 0, .int (nI j_25), .int (nI j_26)]) (rest := []) C (r_seen X.2.1 E ro hm 0 j_25 j_26 m_manys m_reals m_factsOf m_possible uz__29 q_models m_tape q_taped q_fault q_wrong q_wrongAt q_spot q_place q_token q_value m_ends m_letters m_actOf m_whom m_actMany m_tokens m_afters m_afterOf q_counted m_pile m_caseMany m_happen m_hasIf m_becomes m_goneOf m_heard m_pairs m_heaps q_rounds q_heapMany m_led m_newAt m_knowing m_firsts q_people m_secrets m_tried m_lanes m_lengths m_cells f_possiblez_33 (by omega) (by omega) (by omega)) mi_X12_seen wl_X12_135 rfl 0 12 rfl rfl rfl rfl rfl dX12_sees_33) (roK hro) [0, 4] [1, 2, 3] rfl rfl rfl rfl (fun r_46 uz hw => ?_)
        refine an1 hw ?_
        clear hw
        intro he_47 hw
        have he_48 := hw
        clear hw
        have he_47 := he_47.symm
        subst he_47
        subst he_48
        refine ww_eq (ws' := [(m_manys, .inl (E.2.1 1, 18, .inl f_manysz_30)), (m_reals, .inl (E.2.1 1, 18, .inl f_realsz_31)), (m_factsOf, .inl (E.2.1 1, 432, .inl f_factsOfz_32)), (hm, .inr (12, [.ref m_manys, .ref m_reals, .ref m_factsOf, .ref m_possible, .int (nI uz__29), .int (nI q_models), .ref m_tape, .int (nI q_taped), .int q_fault, .int q_wrong, .int q_wrongAt, .int q_spot, .int q_place, .int q_token, .int q_value, .ref m_ends, .ref m_letters, .ref m_actOf, .ref m_whom, .ref m_actMany, .ref m_tokens, .ref m_afters, .ref m_afterOf, .int q_counted, .ref m_pile, .ref m_caseMany, .ref m_happen, .ref m_hasIf, .ref m_becomes, .ref m_goneOf, .ref m_heard, .ref m_pairs, .ref m_heaps, .int q_rounds, .int q_heapMany, .ref m_led, .ref m_newAt, .ref m_knowing, .ref m_firsts, .int (nI q_people), .ref m_secrets, .ref m_tried, .ref m_lanes, .ref m_lengths, .ref m_cells])), (m_possible, .inl (E.2.1 1, 1728, .inl f_possiblez_33))]) ?_ rfl rfl rfl
        refine ww_iload_n C dX12_sees_36 3 rfl rfl ?_
        obtain ⟨x_49, ex_49⟩ : ∃ z : Int32, (f_possiblez_33 (96 * 0 + 24 * j_25 + j_26)) >>> ((nI j_27) &&& 31) = z := ⟨_, rfl⟩
        refine ww_ishr (v := x_49) C dX12_sees_37 ex_49 ?_
        refine ww_iconst (v := 1) C dX12_sees_38 rfl ?_
        obtain ⟨j_50, hj_50, ej_50⟩ := pk_andE x_49 (m := 1) 1 rfl
        refine ww_iand (v := (nI j_50)) C dX12_sees_39 ej_50 ?_
        refine ww_istore (lv' := [(6, .int (nI j_50)), (0, .ref hm), (1, .int (nI j_25)), (2, .int (nI j_26)), (3, .int (nI j_27)), (4, .int v3), (5, .int v4)]) C dX12_sees_40 rfl rfl ?_
        refine ww_aload_n C dX12_sees_42 1 rfl rfl ?_
        refine ww_iload_n C dX12_sees_43 2 rfl rfl ?_
        refine ww_iload_n C dX12_sees_44 3 rfl rfl ?_
        refine ww_iload_n C dX12_sees_45 4 rfl rfl ?_
        refine ww_iload C dX12_sees_46 5 rfl ?_
        refine ww_cv (wr := [(m_manys, .inl (E.2.1 1, 18, .inl f_manysz_30)), (m_reals, .inl (E.2.1 1, 18, .inl f_realsz_31)), (m_factsOf, .inl (E.2.1 1, 432, .inl f_factsOfz_32))]) (k' := 0) (n' := 0) C (run_V (As := [.int (nI j_25), .int (nI j_26), .int (nI j_27), .int v3]) (rest := []) C (r_see X.2.1 E ro hm j_25 j_26 (nI j_27) v3 m_manys m_reals m_factsOf m_possible uz__29 q_models m_tape q_taped q_fault q_wrong q_wrongAt q_spot q_place q_token q_value m_ends m_letters m_actOf m_whom m_actMany m_tokens m_afters m_afterOf q_counted m_pile m_caseMany m_happen m_hasIf m_becomes m_goneOf m_heard m_pairs m_heaps q_rounds q_heapMany m_led m_newAt m_knowing m_firsts q_people m_secrets m_tried m_lanes m_lengths m_cells f_possiblez_33 (by omega) (by omega)) mi_X12_see wl_X12_139 rfl 0 12 rfl rfl rfl rfl rfl dX12_sees_48) (roK hro) [3, 4] [0, 1, 2] rfl rfl rfl rfl (fun uz hw => ?_)
        refine ex1 hw ?_
        clear hw
        intro f_possiblez_52 hw
        refine an1 hw ?_
        clear hw
        intro he_54 hw
        have h_53 := hw
        clear hw
        subst he_54
        refine ww_eq (ws' := [(m_manys, .inl (E.2.1 1, 18, .inl f_manysz_30)), (m_reals, .inl (E.2.1 1, 18, .inl f_realsz_31)), (m_factsOf, .inl (E.2.1 1, 432, .inl f_factsOfz_32)), (hm, .inr (12, [.ref m_manys, .ref m_reals, .ref m_factsOf, .ref m_possible, .int (nI uz__29), .int (nI q_models), .ref m_tape, .int (nI q_taped), .int q_fault, .int q_wrong, .int q_wrongAt, .int q_spot, .int q_place, .int q_token, .int q_value, .ref m_ends, .ref m_letters, .ref m_actOf, .ref m_whom, .ref m_actMany, .ref m_tokens, .ref m_afters, .ref m_afterOf, .int q_counted, .ref m_pile, .ref m_caseMany, .ref m_happen, .ref m_hasIf, .ref m_becomes, .ref m_goneOf, .ref m_heard, .ref m_pairs, .ref m_heaps, .int q_rounds, .int q_heapMany, .ref m_led, .ref m_newAt, .ref m_knowing, .ref m_firsts, .int (nI q_people), .ref m_secrets, .ref m_tried, .ref m_lanes, .ref m_lengths, .ref m_cells])), (m_possible, .inl (E.2.1 1, 1728, .inl f_possiblez_52))]) ?_ rfl rfl rfl
        refine ww_iload C dX12_sees_51 6 rfl ?_
        refine ww_if_eq (tgt := 65) C dX12_sees_53 (by decide) (fun c_55 => ?_) (fun c_55 => ?_)
        · have zc_55 : v4.toInt = 0 := i_eq rfl rfl c_55
          refine ww_iload C dX12_sees_65 0 rfl ?_
          exact ww_iret (u := [(hm, .inr (12, [.ref m_manys, .ref m_reals, .ref m_factsOf, .ref m_possible, .int (nI uz__29), .int (nI q_models), .ref m_tape, .int (nI q_taped), .int q_fault, .int q_wrong, .int q_wrongAt, .int q_spot, .int q_place, .int q_token, .int q_value, .ref m_ends, .ref m_letters, .ref m_actOf, .ref m_whom, .ref m_actMany, .ref m_tokens, .ref m_afters, .ref m_afterOf, .int q_counted, .ref m_pile, .ref m_caseMany, .ref m_happen, .ref m_hasIf, .ref m_becomes, .ref m_goneOf, .ref m_heard, .ref m_pairs, .ref m_heaps, .int q_rounds, .int q_heapMany, .ref m_led, .ref m_newAt, .ref m_knowing, .ref m_firsts, .int (nI q_people), .ref m_secrets, .ref m_tried, .ref m_lanes, .ref m_lengths, .ref m_cells])), (m_manys, .inl (E.2.1 1, 18, .inl f_manysz_30)), (m_reals, .inl (E.2.1 1, 18, .inl f_realsz_31)), (m_factsOf, .inl (E.2.1 1, 432, .inl f_factsOfz_32)), (m_possible, .inl (E.2.1 1, 1728, .inl f_possiblez_52))]) C hT [3, 0, 1, 2, 4] rfl rfl rfl rfl dX12_sees_67 (⟨uz__29, f_manysz_30, f_realsz_31, f_factsOfz_32, f_possiblez_52, rfl, h_34, h_35, h_36, (WFP.at (REMS.wf h_43 hwf) (pg_see h_34 (by omega) (by omega) (by omega) h_53).2 (by rw [((pg_see h_34 (by omega) (by omega) (by omega) h_53).1.trans (congrArg (fun z => aSee z j_25 j_26 j_27 (decide (v3.toInt ≠ 0))) (REMS.p0 h_43)))]; exact (aSee_wf (hwf 0 (by omega)) (by show j_27 < cN f_manys 0; omega)))), (by omega), (by show _ = if (nI j_25).toInt < 0 ∨ 3 < (nI j_25).toInt ∨ (nI j_26).toInt < 0 ∨ ((cN f_manys 0) : Int) ≤ (nI j_26).toInt ∨ (nI j_27).toInt < 0 ∨ ((cN f_manys 0) : Int) ≤ (nI j_27).toInt then ((asM q_undos (pgs f_manys f_reals f_factsOf f_possible)), -1) else (aRem (asM q_undos (pgs f_manys f_reals f_factsOf f_possible)) (if v4.toInt ≠ 0 then aSee (aSee (pgs f_manys f_reals f_factsOf f_possible 0) (tN (nI j_25)) (tN (nI j_26)) (tN (nI j_27)) (decide (v3.toInt ≠ 0))) (tN (nI j_25)) (tN (nI j_27)) (tN (nI j_26)) (decide (v3.toInt ≠ 0)) else aSee (pgs f_manys f_reals f_factsOf f_possible 0) (tN (nI j_25)) (tN (nI j_26)) (tN (nI j_27)) (decide (v3.toInt ≠ 0))), if (pgs f_manys f_reals f_factsOf f_possible 0).2.2.2 (tN (nI j_25)) (tN (nI j_26)) (tN (nI j_27)) = true then 1 else 0); rw [if_neg (show ¬ ((nI j_25).toInt < 0 ∨ 3 < (nI j_25).toInt ∨ (nI j_26).toInt < 0 ∨ ((cN f_manys 0) : Int) ≤ (nI j_26).toInt ∨ (nI j_27).toInt < 0 ∨ ((cN f_manys 0) : Int) ≤ (nI j_27).toInt) by omega)]; exact Prod.ext (rm_end hq_undos h_43 (OTH.hi (pg_see h_34 (by omega) (by omega) (by omega) h_53).2 (by omega)) (by rw [if_neg (show ¬ v4.toInt ≠ 0 by omega), tN_n (n := j_25) (by omega), tN_n (n := j_26) (by omega), tN_n (n := j_27) (by omega)]; exact ((pg_see h_34 (by omega) (by omega) (by omega) h_53).1.trans (congrArg (fun z => aSee z j_25 j_26 j_27 (decide (v3.toInt ≠ 0))) (REMS.p0 h_43))))) (by rw [tN_n (n := j_25) (by omega), tN_n (n := j_26) (by omega), tN_n (n := j_27) (by omega), ← REMS.p0 h_43, pg_S (by omega) (by omega)]; exact bit1 (by omega) ex_49 ej_50 (by omega))), (KP6.rem h_43 (OTH.hi (pg_see h_34 (by omega) (by omega) (by omega) h_53).2 (by omega)))⟩)
        · have zc_55 : v4.toInt ≠ 0 := i_ne rfl rfl c_55
          refine ww_aload_n C dX12_sees_56 1 rfl rfl ?_
          refine ww_iload_n C dX12_sees_57 2 rfl rfl ?_
          refine ww_iload_n C dX12_sees_58 4 rfl rfl ?_
          refine ww_iload_n C dX12_sees_59 3 rfl rfl ?_
          refine ww_iload C dX12_sees_60 5 rfl ?_
          refine ww_cv (wr := [(m_manys, .inl (E.2.1 1, 18, .inl f_manysz_30)), (m_reals, .inl (E.2.1 1, 18, .inl f_realsz_31)), (m_factsOf, .inl (E.2.1 1, 432, .inl f_factsOfz_32))]) (k' := 0) (n' := 0) C (run_V (As := [.int (nI j_25), .int (nI j_27), .int (nI j_26), .int v3]) (rest := []) C (r_see X.2.1 E ro hm j_25 j_27 (nI j_26) v3 m_manys m_reals m_factsOf m_possible uz__29 q_models m_tape q_taped q_fault q_wrong q_wrongAt q_spot q_place q_token q_value m_ends m_letters m_actOf m_whom m_actMany m_tokens m_afters m_afterOf q_counted m_pile m_caseMany m_happen m_hasIf m_becomes m_goneOf m_heard m_pairs m_heaps q_rounds q_heapMany m_led m_newAt m_knowing m_firsts q_people m_secrets m_tried m_lanes m_lengths m_cells f_possiblez_52 (by omega) (by omega)) mi_X12_see wl_X12_139 rfl 0 12 rfl rfl rfl rfl rfl dX12_sees_62) (roK hro) [3, 4] [0, 1, 2] rfl rfl rfl rfl (fun uz hw => ?_)
          refine ex1 hw ?_
          clear hw
          intro f_possiblez_57 hw
          refine an1 hw ?_
          clear hw
          intro he_59 hw
          have h_58 := hw
          clear hw
          subst he_59
          refine ww_eq (ws' := [(m_manys, .inl (E.2.1 1, 18, .inl f_manysz_30)), (m_reals, .inl (E.2.1 1, 18, .inl f_realsz_31)), (m_factsOf, .inl (E.2.1 1, 432, .inl f_factsOfz_32)), (hm, .inr (12, [.ref m_manys, .ref m_reals, .ref m_factsOf, .ref m_possible, .int (nI uz__29), .int (nI q_models), .ref m_tape, .int (nI q_taped), .int q_fault, .int q_wrong, .int q_wrongAt, .int q_spot, .int q_place, .int q_token, .int q_value, .ref m_ends, .ref m_letters, .ref m_actOf, .ref m_whom, .ref m_actMany, .ref m_tokens, .ref m_afters, .ref m_afterOf, .int q_counted, .ref m_pile, .ref m_caseMany, .ref m_happen, .ref m_hasIf, .ref m_becomes, .ref m_goneOf, .ref m_heard, .ref m_pairs, .ref m_heaps, .int q_rounds, .int q_heapMany, .ref m_led, .ref m_newAt, .ref m_knowing, .ref m_firsts, .int (nI q_people), .ref m_secrets, .ref m_tried, .ref m_lanes, .ref m_lengths, .ref m_cells])), (m_possible, .inl (E.2.1 1, 1728, .inl f_possiblez_57))]) ?_ rfl rfl rfl
          refine ww_iload C dX12_sees_65 0 rfl ?_
          exact ww_iret (u := [(hm, .inr (12, [.ref m_manys, .ref m_reals, .ref m_factsOf, .ref m_possible, .int (nI uz__29), .int (nI q_models), .ref m_tape, .int (nI q_taped), .int q_fault, .int q_wrong, .int q_wrongAt, .int q_spot, .int q_place, .int q_token, .int q_value, .ref m_ends, .ref m_letters, .ref m_actOf, .ref m_whom, .ref m_actMany, .ref m_tokens, .ref m_afters, .ref m_afterOf, .int q_counted, .ref m_pile, .ref m_caseMany, .ref m_happen, .ref m_hasIf, .ref m_becomes, .ref m_goneOf, .ref m_heard, .ref m_pairs, .ref m_heaps, .int q_rounds, .int q_heapMany, .ref m_led, .ref m_newAt, .ref m_knowing, .ref m_firsts, .int (nI q_people), .ref m_secrets, .ref m_tried, .ref m_lanes, .ref m_lengths, .ref m_cells])), (m_manys, .inl (E.2.1 1, 18, .inl f_manysz_30)), (m_reals, .inl (E.2.1 1, 18, .inl f_realsz_31)), (m_factsOf, .inl (E.2.1 1, 432, .inl f_factsOfz_32)), (m_possible, .inl (E.2.1 1, 1728, .inl f_possiblez_57))]) C hT [3, 0, 1, 2, 4] rfl rfl rfl rfl dX12_sees_67 (⟨uz__29, f_manysz_30, f_realsz_31, f_factsOfz_32, f_possiblez_57, rfl, h_34, h_35, h_36, (WFP.at (REMS.wf h_43 hwf) (OTH.tr (pg_see h_34 (by omega) (by omega) (by omega) h_53).2 (pg_see h_34 (by omega) (by omega) (by omega) h_58).2) (by rw [((pg_see h_34 (by omega) (by omega) (by omega) h_58).1.trans (congrArg (fun z => aSee z j_25 j_27 j_26 (decide (v3.toInt ≠ 0))) ((pg_see h_34 (by omega) (by omega) (by omega) h_53).1.trans (congrArg (fun z => aSee z j_25 j_26 j_27 (decide (v3.toInt ≠ 0))) (REMS.p0 h_43)))))]; exact (aSee_wf (aSee_wf (hwf 0 (by omega)) (by show j_27 < cN f_manys 0; omega)) (by show j_26 < cN f_manys 0; omega)))), (by omega), (by show _ = if (nI j_25).toInt < 0 ∨ 3 < (nI j_25).toInt ∨ (nI j_26).toInt < 0 ∨ ((cN f_manys 0) : Int) ≤ (nI j_26).toInt ∨ (nI j_27).toInt < 0 ∨ ((cN f_manys 0) : Int) ≤ (nI j_27).toInt then ((asM q_undos (pgs f_manys f_reals f_factsOf f_possible)), -1) else (aRem (asM q_undos (pgs f_manys f_reals f_factsOf f_possible)) (if v4.toInt ≠ 0 then aSee (aSee (pgs f_manys f_reals f_factsOf f_possible 0) (tN (nI j_25)) (tN (nI j_26)) (tN (nI j_27)) (decide (v3.toInt ≠ 0))) (tN (nI j_25)) (tN (nI j_27)) (tN (nI j_26)) (decide (v3.toInt ≠ 0)) else aSee (pgs f_manys f_reals f_factsOf f_possible 0) (tN (nI j_25)) (tN (nI j_26)) (tN (nI j_27)) (decide (v3.toInt ≠ 0))), if (pgs f_manys f_reals f_factsOf f_possible 0).2.2.2 (tN (nI j_25)) (tN (nI j_26)) (tN (nI j_27)) = true then 1 else 0); rw [if_neg (show ¬ ((nI j_25).toInt < 0 ∨ 3 < (nI j_25).toInt ∨ (nI j_26).toInt < 0 ∨ ((cN f_manys 0) : Int) ≤ (nI j_26).toInt ∨ (nI j_27).toInt < 0 ∨ ((cN f_manys 0) : Int) ≤ (nI j_27).toInt) by omega)]; exact Prod.ext (rm_end hq_undos h_43 (OTH.hi (OTH.tr (pg_see h_34 (by omega) (by omega) (by omega) h_53).2 (pg_see h_34 (by omega) (by omega) (by omega) h_58).2) (by omega)) (by rw [if_pos (show v4.toInt ≠ 0 by omega), tN_n (n := j_25) (by omega), tN_n (n := j_26) (by omega), tN_n (n := j_27) (by omega)]; exact ((pg_see h_34 (by omega) (by omega) (by omega) h_58).1.trans (congrArg (fun z => aSee z j_25 j_27 j_26 (decide (v3.toInt ≠ 0))) ((pg_see h_34 (by omega) (by omega) (by omega) h_53).1.trans (congrArg (fun z => aSee z j_25 j_26 j_27 (decide (v3.toInt ≠ 0))) (REMS.p0 h_43))))))) (by rw [tN_n (n := j_25) (by omega), tN_n (n := j_26) (by omega), tN_n (n := j_27) (by omega), ← REMS.p0 h_43, pg_S (by omega) (by omega)]; exact bit1 (by omega) ex_49 ej_50 (by omega))), (KP6.rem h_43 (OTH.hi (OTH.tr (pg_see h_34 (by omega) (by omega) (by omega) h_53).2 (pg_see h_34 (by omega) (by omega) (by omega) h_58).2) (by omega)))⟩)
      · refine an2 hw ?_
        clear hw
        intro he_23 he_24 hw
        have h_22 := hw
        clear hw
        have he_23 := he_23.symm
        subst he_23
        subst he_24
        refine ww_eq (ws' := [(m_reals, .inl (E.2.1 1, 18, .inl f_reals)), (m_factsOf, .inl (E.2.1 1, 432, .inl f_factsOf)), (m_possible, .inl (E.2.1 1, 1728, .inl f_possible)), (hm, .inr (12, [.ref m_manys, .ref m_reals, .ref m_factsOf, .ref m_possible, .int (nI q_undos), .int (nI q_models), .ref m_tape, .int (nI q_taped), .int q_fault, .int q_wrong, .int q_wrongAt, .int q_spot, .int q_place, .int q_token, .int q_value, .ref m_ends, .ref m_letters, .ref m_actOf, .ref m_whom, .ref m_actMany, .ref m_tokens, .ref m_afters, .ref m_afterOf, .int q_counted, .ref m_pile, .ref m_caseMany, .ref m_happen, .ref m_hasIf, .ref m_becomes, .ref m_goneOf, .ref m_heard, .ref m_pairs, .ref m_heaps, .int q_rounds, .int q_heapMany, .ref m_led, .ref m_newAt, .ref m_knowing, .ref m_firsts, .int (nI q_people), .ref m_secrets, .ref m_tried, .ref m_lanes, .ref m_lengths, .ref m_cells])), (m_manys, .inl (E.2.1 1, 18, .inl f_manys))]) ?_ rfl rfl rfl
        refine ww_if_ne_f (tgt := 25) C dX12_sees_20 (by decide) (rfl) ?_
        refine ww_iconst (v := (-1)) C dX12_sees_23 rfl ?_
        exact ww_iret (u := [(hm, .inr (12, [.ref m_manys, .ref m_reals, .ref m_factsOf, .ref m_possible, .int (nI q_undos), .int (nI q_models), .ref m_tape, .int (nI q_taped), .int q_fault, .int q_wrong, .int q_wrongAt, .int q_spot, .int q_place, .int q_token, .int q_value, .ref m_ends, .ref m_letters, .ref m_actOf, .ref m_whom, .ref m_actMany, .ref m_tokens, .ref m_afters, .ref m_afterOf, .int q_counted, .ref m_pile, .ref m_caseMany, .ref m_happen, .ref m_hasIf, .ref m_becomes, .ref m_goneOf, .ref m_heard, .ref m_pairs, .ref m_heaps, .int q_rounds, .int q_heapMany, .ref m_led, .ref m_newAt, .ref m_knowing, .ref m_firsts, .int (nI q_people), .ref m_secrets, .ref m_tried, .ref m_lanes, .ref m_lengths, .ref m_cells])), (m_manys, .inl (E.2.1 1, 18, .inl f_manys)), (m_reals, .inl (E.2.1 1, 18, .inl f_reals)), (m_factsOf, .inl (E.2.1 1, 432, .inl f_factsOf)), (m_possible, .inl (E.2.1 1, 1728, .inl f_possible))]) C hT [3, 4, 0, 1, 2] rfl rfl rfl rfl dX12_sees_24 (⟨q_undos, f_manys, f_reals, f_factsOf, f_possible, rfl, hb_manys, hb_reals, hpg, hwf, (by omega), (by show _ = if v0.toInt < 0 ∨ 3 < v0.toInt ∨ v1.toInt < 0 ∨ ((cN f_manys 0) : Int) ≤ v1.toInt ∨ v2.toInt < 0 ∨ ((cN f_manys 0) : Int) ≤ v2.toInt then ((asM q_undos (pgs f_manys f_reals f_factsOf f_possible)), -1) else (aRem (asM q_undos (pgs f_manys f_reals f_factsOf f_possible)) (if v4.toInt ≠ 0 then aSee (aSee (pgs f_manys f_reals f_factsOf f_possible 0) (tN v0) (tN v1) (tN v2) (decide (v3.toInt ≠ 0))) (tN v0) (tN v2) (tN v1) (decide (v3.toInt ≠ 0)) else aSee (pgs f_manys f_reals f_factsOf f_possible 0) (tN v0) (tN v1) (tN v2) (decide (v3.toInt ≠ 0))), if (pgs f_manys f_reals f_factsOf f_possible 0).2.2.2 (tN v0) (tN v1) (tN v2) = true then 1 else 0); rw [if_pos (show v0.toInt < 0 ∨ 3 < v0.toInt ∨ v1.toInt < 0 ∨ ((cN f_manys 0) : Int) ≤ v1.toInt ∨ v2.toInt < 0 ∨ ((cN f_manys 0) : Int) ≤ v2.toInt by omega)]), KP6.rf⟩)
    · refine an2 hw ?_
      clear hw
      intro he_15 he_16 hw
      have h_14 := hw
      clear hw
      have he_15 := he_15.symm
      subst he_15
      subst he_16
      refine ww_eq (ws' := [(m_reals, .inl (E.2.1 1, 18, .inl f_reals)), (m_factsOf, .inl (E.2.1 1, 432, .inl f_factsOf)), (m_possible, .inl (E.2.1 1, 1728, .inl f_possible)), (hm, .inr (12, [.ref m_manys, .ref m_reals, .ref m_factsOf, .ref m_possible, .int (nI q_undos), .int (nI q_models), .ref m_tape, .int (nI q_taped), .int q_fault, .int q_wrong, .int q_wrongAt, .int q_spot, .int q_place, .int q_token, .int q_value, .ref m_ends, .ref m_letters, .ref m_actOf, .ref m_whom, .ref m_actMany, .ref m_tokens, .ref m_afters, .ref m_afterOf, .int q_counted, .ref m_pile, .ref m_caseMany, .ref m_happen, .ref m_hasIf, .ref m_becomes, .ref m_goneOf, .ref m_heard, .ref m_pairs, .ref m_heaps, .int q_rounds, .int q_heapMany, .ref m_led, .ref m_newAt, .ref m_knowing, .ref m_firsts, .int (nI q_people), .ref m_secrets, .ref m_tried, .ref m_lanes, .ref m_lengths, .ref m_cells])), (m_manys, .inl (E.2.1 1, 18, .inl f_manys))]) ?_ rfl rfl rfl
      refine ww_if_eq_t (tgt := 23) C dX12_sees_12 (by decide) (rfl) ?_
      refine ww_iconst (v := (-1)) C dX12_sees_23 rfl ?_
      exact ww_iret (u := [(hm, .inr (12, [.ref m_manys, .ref m_reals, .ref m_factsOf, .ref m_possible, .int (nI q_undos), .int (nI q_models), .ref m_tape, .int (nI q_taped), .int q_fault, .int q_wrong, .int q_wrongAt, .int q_spot, .int q_place, .int q_token, .int q_value, .ref m_ends, .ref m_letters, .ref m_actOf, .ref m_whom, .ref m_actMany, .ref m_tokens, .ref m_afters, .ref m_afterOf, .int q_counted, .ref m_pile, .ref m_caseMany, .ref m_happen, .ref m_hasIf, .ref m_becomes, .ref m_goneOf, .ref m_heard, .ref m_pairs, .ref m_heaps, .int q_rounds, .int q_heapMany, .ref m_led, .ref m_newAt, .ref m_knowing, .ref m_firsts, .int (nI q_people), .ref m_secrets, .ref m_tried, .ref m_lanes, .ref m_lengths, .ref m_cells])), (m_manys, .inl (E.2.1 1, 18, .inl f_manys)), (m_reals, .inl (E.2.1 1, 18, .inl f_reals)), (m_factsOf, .inl (E.2.1 1, 432, .inl f_factsOf)), (m_possible, .inl (E.2.1 1, 1728, .inl f_possible))]) C hT [3, 4, 0, 1, 2] rfl rfl rfl rfl dX12_sees_24 (⟨q_undos, f_manys, f_reals, f_factsOf, f_possible, rfl, hb_manys, hb_reals, hpg, hwf, (by omega), (by show _ = if v0.toInt < 0 ∨ 3 < v0.toInt ∨ v1.toInt < 0 ∨ ((cN f_manys 0) : Int) ≤ v1.toInt ∨ v2.toInt < 0 ∨ ((cN f_manys 0) : Int) ≤ v2.toInt then ((asM q_undos (pgs f_manys f_reals f_factsOf f_possible)), -1) else (aRem (asM q_undos (pgs f_manys f_reals f_factsOf f_possible)) (if v4.toInt ≠ 0 then aSee (aSee (pgs f_manys f_reals f_factsOf f_possible 0) (tN v0) (tN v1) (tN v2) (decide (v3.toInt ≠ 0))) (tN v0) (tN v2) (tN v1) (decide (v3.toInt ≠ 0)) else aSee (pgs f_manys f_reals f_factsOf f_possible 0) (tN v0) (tN v1) (tN v2) (decide (v3.toInt ≠ 0))), if (pgs f_manys f_reals f_factsOf f_possible 0).2.2.2 (tN v0) (tN v1) (tN v2) = true then 1 else 0); rw [if_pos (show v0.toInt < 0 ∨ 3 < v0.toInt ∨ v1.toInt < 0 ∨ ((cN f_manys 0) : Int) ≤ v1.toInt ∨ v2.toInt < 0 ∨ ((cN f_manys 0) : Int) ≤ v2.toInt by omega)]), KP6.rf⟩)
  · refine an2 hw ?_
    clear hw
    intro he_7 he_8 hw
    have h_6 := hw
    clear hw
    have he_7 := he_7.symm
    subst he_7
    subst he_8
    refine ww_eq (ws' := [(hm, .inr (12, [.ref m_manys, .ref m_reals, .ref m_factsOf, .ref m_possible, .int (nI q_undos), .int (nI q_models), .ref m_tape, .int (nI q_taped), .int q_fault, .int q_wrong, .int q_wrongAt, .int q_spot, .int q_place, .int q_token, .int q_value, .ref m_ends, .ref m_letters, .ref m_actOf, .ref m_whom, .ref m_actMany, .ref m_tokens, .ref m_afters, .ref m_afterOf, .int q_counted, .ref m_pile, .ref m_caseMany, .ref m_happen, .ref m_hasIf, .ref m_becomes, .ref m_goneOf, .ref m_heard, .ref m_pairs, .ref m_heaps, .int q_rounds, .int q_heapMany, .ref m_led, .ref m_newAt, .ref m_knowing, .ref m_firsts, .int (nI q_people), .ref m_secrets, .ref m_tried, .ref m_lanes, .ref m_lengths, .ref m_cells])), (m_manys, .inl (E.2.1 1, 18, .inl f_manys)), (m_reals, .inl (E.2.1 1, 18, .inl f_reals)), (m_factsOf, .inl (E.2.1 1, 432, .inl f_factsOf)), (m_possible, .inl (E.2.1 1, 1728, .inl f_possible))]) ?_ rfl rfl rfl
    refine ww_if_eq_t (tgt := 23) C dX12_sees_4 (by decide) (rfl) ?_
    refine ww_iconst (v := (-1)) C dX12_sees_23 rfl ?_
    exact ww_iret (u := [(hm, .inr (12, [.ref m_manys, .ref m_reals, .ref m_factsOf, .ref m_possible, .int (nI q_undos), .int (nI q_models), .ref m_tape, .int (nI q_taped), .int q_fault, .int q_wrong, .int q_wrongAt, .int q_spot, .int q_place, .int q_token, .int q_value, .ref m_ends, .ref m_letters, .ref m_actOf, .ref m_whom, .ref m_actMany, .ref m_tokens, .ref m_afters, .ref m_afterOf, .int q_counted, .ref m_pile, .ref m_caseMany, .ref m_happen, .ref m_hasIf, .ref m_becomes, .ref m_goneOf, .ref m_heard, .ref m_pairs, .ref m_heaps, .int q_rounds, .int q_heapMany, .ref m_led, .ref m_newAt, .ref m_knowing, .ref m_firsts, .int (nI q_people), .ref m_secrets, .ref m_tried, .ref m_lanes, .ref m_lengths, .ref m_cells])), (m_manys, .inl (E.2.1 1, 18, .inl f_manys)), (m_reals, .inl (E.2.1 1, 18, .inl f_reals)), (m_factsOf, .inl (E.2.1 1, 432, .inl f_factsOf)), (m_possible, .inl (E.2.1 1, 1728, .inl f_possible))]) C hT [0, 1, 2, 3, 4] rfl rfl rfl rfl dX12_sees_24 (⟨q_undos, f_manys, f_reals, f_factsOf, f_possible, rfl, hb_manys, hb_reals, hpg, hwf, (by omega), (by show _ = if v0.toInt < 0 ∨ 3 < v0.toInt ∨ v1.toInt < 0 ∨ ((cN f_manys 0) : Int) ≤ v1.toInt ∨ v2.toInt < 0 ∨ ((cN f_manys 0) : Int) ≤ v2.toInt then ((asM q_undos (pgs f_manys f_reals f_factsOf f_possible)), -1) else (aRem (asM q_undos (pgs f_manys f_reals f_factsOf f_possible)) (if v4.toInt ≠ 0 then aSee (aSee (pgs f_manys f_reals f_factsOf f_possible 0) (tN v0) (tN v1) (tN v2) (decide (v3.toInt ≠ 0))) (tN v0) (tN v2) (tN v1) (decide (v3.toInt ≠ 0)) else aSee (pgs f_manys f_reals f_factsOf f_possible 0) (tN v0) (tN v1) (tN v2) (decide (v3.toInt ≠ 0))), if (pgs f_manys f_reals f_factsOf f_possible 0).2.2.2 (tN v0) (tN v1) (tN v2) = true then 1 else 0); rw [if_pos (show v0.toInt < 0 ∨ 3 < v0.toInt ∨ v1.toInt < 0 ∨ ((cN f_manys 0) : Int) ≤ v1.toInt ∨ v2.toInt < 0 ∨ ((cN f_manys 0) : Int) ≤ v2.toInt by omega)]), KP6.rf⟩)
theorem dX12_blind_0 : decode cX12_blind 0 = .ok (.iload_n 1, 1) := dl_27 (by decide +kernel)
theorem dX12_blind_1 : decode cX12_blind 1 = .ok (.i2l, 1) := dl_133 (by decide +kernel)
theorem dX12_blind_2 : decode cX12_blind 2 = .ok (.lconst 0, 1) := dl_9 (by decide +kernel)
theorem dX12_blind_3 : decode cX12_blind 3 = .ok (.ldc2_w 143, 3) := dl_20 (by decide +kernel)
theorem wv_X12_143 : Cond.constantLong RX12 143 65535 ∈ TB := tbm (tq6 (List.mem_of_getElem? (i := 19) (by decide +kernel))) (by decide +kernel)
theorem dX12_blind_6 : decode cX12_blind 6 = .ok (.invokestatic 115, 3) := dl_184 (by decide +kernel)
theorem dX12_blind_9 : decode cX12_blind 9 = .ok (.ifCond .ne 5, 3) := dl_154 (by decide +kernel)
theorem dX12_blind_14 : decode cX12_blind 14 = .ok (.aload_n 0, 1) := dl_42 (by decide +kernel)
theorem dX12_blind_15 : decode cX12_blind 15 = .ok (.invokevirtual 121, 3) := dl_182 (by decide +kernel)
theorem dX12_blind_18 : decode cX12_blind 18 = .ok (.iconst 0, 1) := dl_3 (by decide +kernel)
theorem dX12_blind_19 : decode cX12_blind 19 = .ok (.istore_n 2, 1) := dl_61 (by decide +kernel)
theorem dX12_blind_20 : decode cX12_blind 20 = .ok (.iconst 0, 1) := dl_3 (by decide +kernel)
theorem dX12_blind_21 : decode cX12_blind 21 = .ok (.istore_n 3, 1) := dl_62 (by decide +kernel)
theorem dX12_blind_22 : decode cX12_blind 22 = .ok (.iload_n 3, 1) := dl_29 (by decide +kernel)
theorem dX12_blind_23 : decode cX12_blind 23 = .ok (.iconst 4, 1) := dl_7 (by decide +kernel)
theorem dX12_blind_24 : decode cX12_blind 24 = .ok (.if_icmp .ge 110, 3) := dl_162 (by decide +kernel)
theorem dX12_blind_134 : decode cX12_blind 134 = .ok (.iload_n 2, 1) := dl_28 (by decide +kernel)
theorem dX12_blind_135 : decode cX12_blind 135 = .ok (.ireturn, 1) := dl_172 (by decide +kernel)
theorem dX12_blind_27 : decode cX12_blind 27 = .ok (.iload_n 1, 1) := dl_27 (by decide +kernel)
theorem dX12_blind_28 : decode cX12_blind 28 = .ok (.iconst 4, 1) := dl_7 (by decide +kernel)
theorem dX12_blind_29 : decode cX12_blind 29 = .ok (.iload_n 3, 1) := dl_29 (by decide +kernel)
theorem dX12_blind_30 : decode cX12_blind 30 = .ok (.imul, 1) := dl_104 (by decide +kernel)
theorem dX12_blind_31 : decode cX12_blind 31 = .ok (.ishr, 1) := dl_122 (by decide +kernel)
theorem dX12_blind_32 : decode cX12_blind 32 = .ok (.bipush 15, 2) := dl_16 (by decide +kernel)
theorem dX12_blind_34 : decode cX12_blind 34 = .ok (.iand, 1) := dl_126 (by decide +kernel)
theorem dX12_blind_35 : decode cX12_blind 35 = .ok (.istore 4, 2) := dl_54 (by decide +kernel)
theorem dX12_blind_37 : decode cX12_blind 37 = .ok (.iconst 0, 1) := dl_3 (by decide +kernel)
theorem dX12_blind_38 : decode cX12_blind 38 = .ok (.istore 5, 2) := dl_54 (by decide +kernel)
theorem dX12_blind_40 : decode cX12_blind 40 = .ok (.iload 5, 2) := dl_21 (by decide +kernel)
theorem dX12_blind_42 : decode cX12_blind 42 = .ok (.aload_n 0, 1) := dl_42 (by decide +kernel)
theorem dX12_blind_43 : decode cX12_blind 43 = .ok (.getfield 7, 3) := dl_180 (by decide +kernel)
theorem dX12_blind_46 : decode cX12_blind 46 = .ok (.iconst 0, 1) := dl_3 (by decide +kernel)
theorem dX12_blind_47 : decode cX12_blind 47 = .ok (.iaload, 1) := dl_46 (by decide +kernel)
theorem dX12_blind_48 : decode cX12_blind 48 = .ok (.if_icmp .ge 80, 3) := dl_162 (by decide +kernel)
theorem dX12_blind_128 : decode cX12_blind 128 = .ok (.iinc 3 1, 3) := dl_132 (by decide +kernel)
theorem dX12_blind_131 : decode cX12_blind 131 = .ok (.goto (-109), 3) := dl_167 (by decide +kernel)
theorem dX12_blind_51 : decode cX12_blind 51 = .ok (.iconst 0, 1) := dl_3 (by decide +kernel)
theorem dX12_blind_52 : decode cX12_blind 52 = .ok (.istore 6, 2) := dl_54 (by decide +kernel)
theorem dX12_blind_54 : decode cX12_blind 54 = .ok (.iload 6, 2) := dl_21 (by decide +kernel)
theorem dX12_blind_56 : decode cX12_blind 56 = .ok (.aload_n 0, 1) := dl_42 (by decide +kernel)
theorem dX12_blind_57 : decode cX12_blind 57 = .ok (.getfield 7, 3) := dl_180 (by decide +kernel)
theorem dX12_blind_60 : decode cX12_blind 60 = .ok (.iconst 0, 1) := dl_3 (by decide +kernel)
theorem dX12_blind_61 : decode cX12_blind 61 = .ok (.iaload, 1) := dl_46 (by decide +kernel)
theorem dX12_blind_62 : decode cX12_blind 62 = .ok (.if_icmp .ge 46, 3) := dl_162 (by decide +kernel)
theorem dX12_blind_108 : decode cX12_blind 108 = .ok (.iload_n 2, 1) := dl_28 (by decide +kernel)
theorem dX12_blind_109 : decode cX12_blind 109 = .ok (.aload_n 0, 1) := dl_42 (by decide +kernel)
theorem dX12_blind_110 : decode cX12_blind 110 = .ok (.iconst 0, 1) := dl_3 (by decide +kernel)
theorem dX12_blind_111 : decode cX12_blind 111 = .ok (.iload_n 3, 1) := dl_29 (by decide +kernel)
theorem dX12_blind_112 : decode cX12_blind 112 = .ok (.iload 5, 2) := dl_21 (by decide +kernel)
theorem dX12_blind_114 : decode cX12_blind 114 = .ok (.invokevirtual 135, 3) := dl_182 (by decide +kernel)
theorem dX12_blind_117 : decode cX12_blind 117 = .ok (.invokestatic 145, 3) := dl_184 (by decide +kernel)
theorem wl_X12_145 : Cond.methodLink RX12 145 yX12_size ∈ TB := tbm (tq6 (List.mem_of_getElem? (i := 20) (by decide +kernel))) (by decide +kernel)
theorem wc_X12_size : Cond.code yX12_size cX12_size 3 (some .int) ∈ TB := tbm (tq6 (List.mem_of_getElem? (i := 22) (rfl))) (by decide +kernel)
theorem wt_X12_size : Cond.static yX12_size ∈ TB := tbm (tq6 (List.mem_of_getElem? (i := 21) (by decide +kernel))) (by decide +kernel)
theorem ms_X12_size : MS yX12_size cX12_size 3 (some .int) 1 := ⟨wc_X12_size, wn_X12, ⟨by decide +kernel, by decide +kernel, by decide +kernel⟩, wt_X12_size⟩
theorem dX12_blind_120 : decode cX12_blind 120 = .ok (.iadd, 1) := dl_96 (by decide +kernel)
theorem dX12_blind_121 : decode cX12_blind 121 = .ok (.istore_n 2, 1) := dl_61 (by decide +kernel)
theorem dX12_blind_122 : decode cX12_blind 122 = .ok (.iinc 5 1, 3) := dl_132 (by decide +kernel)
theorem dX12_blind_125 : decode cX12_blind 125 = .ok (.goto (-85), 3) := dl_167 (by decide +kernel)
theorem dX12_blind_65 : decode cX12_blind 65 = .ok (.aload_n 0, 1) := dl_42 (by decide +kernel)
theorem dX12_blind_66 : decode cX12_blind 66 = .ok (.iload_n 3, 1) := dl_29 (by decide +kernel)
theorem dX12_blind_67 : decode cX12_blind 67 = .ok (.iload 5, 2) := dl_21 (by decide +kernel)
theorem dX12_blind_69 : decode cX12_blind 69 = .ok (.iload 6, 2) := dl_21 (by decide +kernel)
theorem dX12_blind_71 : decode cX12_blind 71 = .ok (.aload_n 0, 1) := dl_42 (by decide +kernel)
theorem dX12_blind_72 : decode cX12_blind 72 = .ok (.getfield 16, 3) := dl_180 (by decide +kernel)
theorem dX12_blind_75 : decode cX12_blind 75 = .ok (.iload 5, 2) := dl_21 (by decide +kernel)
theorem dX12_blind_77 : decode cX12_blind 77 = .ok (.iaload, 1) := dl_46 (by decide +kernel)
theorem dX12_blind_78 : decode cX12_blind 78 = .ok (.aload_n 0, 1) := dl_42 (by decide +kernel)
theorem dX12_blind_79 : decode cX12_blind 79 = .ok (.getfield 16, 3) := dl_180 (by decide +kernel)
theorem dX12_blind_82 : decode cX12_blind 82 = .ok (.iload 6, 2) := dl_21 (by decide +kernel)
theorem dX12_blind_84 : decode cX12_blind 84 = .ok (.iaload, 1) := dl_46 (by decide +kernel)
theorem dX12_blind_85 : decode cX12_blind 85 = .ok (.ixor, 1) := dl_130 (by decide +kernel)
theorem dX12_blind_86 : decode cX12_blind 86 = .ok (.iload 4, 2) := dl_21 (by decide +kernel)
theorem dX12_blind_88 : decode cX12_blind 88 = .ok (.iconst (-1), 1) := dl_2 (by decide +kernel)
theorem dX12_blind_89 : decode cX12_blind 89 = .ok (.ixor, 1) := dl_130 (by decide +kernel)
theorem dX12_blind_90 : decode cX12_blind 90 = .ok (.iand, 1) := dl_126 (by decide +kernel)
theorem dX12_blind_91 : decode cX12_blind 91 = .ok (.ifCond .ne 7, 3) := dl_154 (by decide +kernel)
theorem dX12_blind_98 : decode cX12_blind 98 = .ok (.iconst 0, 1) := dl_3 (by decide +kernel)
theorem dX12_blind_99 : decode cX12_blind 99 = .ok (.invokevirtual 139, 3) := dl_182 (by decide +kernel)
theorem dX12_blind_102 : decode cX12_blind 102 = .ok (.iinc 6 1, 3) := dl_132 (by decide +kernel)
theorem dX12_blind_105 : decode cX12_blind 105 = .ok (.goto (-51), 3) := dl_167 (by decide +kernel)
theorem dX12_blind_94 : decode cX12_blind 94 = .ok (.iconst 1, 1) := dl_4 (by decide +kernel)
theorem dX12_blind_95 : decode cX12_blind 95 = .ok (.goto 4, 3) := dl_167 (by decide +kernel)
theorem dX12_blind_12 : decode cX12_blind 12 = .ok (.iconst (-1), 1) := dl_2 (by decide +kernel)
theorem dX12_blind_13 : decode cX12_blind 13 = .ok (.ireturn, 1) := dl_172 (by decide +kernel)
set_option maxRecDepth 100000 in
set_option maxHeartbeats 4000000 in
theorem y_blind (l : Launch) (E : EV) (ro : va_W) (hm : Nat) (v0 : Int32) (m_manys : Nat) (m_reals : Nat) (m_factsOf : Nat) (m_possible : Nat) (q_undos : Nat) (q_models : Nat) (m_tape : Nat) (q_taped : Nat) (q_fault : Int32) (q_wrong : Int32) (q_wrongAt : Int32) (q_spot : Int32) (q_place : Int32) (q_token : Int32) (q_value : Int32) (m_ends : Nat) (m_letters : Nat) (m_actOf : Nat) (m_whom : Nat) (m_actMany : Nat) (m_tokens : Nat) (m_afters : Nat) (m_afterOf : Nat) (q_counted : Int32) (m_pile : Nat) (m_caseMany : Nat) (m_happen : Nat) (m_hasIf : Nat) (m_becomes : Nat) (m_goneOf : Nat) (m_heard : Nat) (m_pairs : Nat) (m_heaps : Nat) (q_rounds : Int32) (q_heapMany : Int32) (m_led : Nat) (m_newAt : Nat) (m_knowing : Nat) (m_firsts : Nat) (q_people : Nat) (m_secrets : Nat) (m_tried : Nat) (m_lanes : Nat) (m_lengths : Nat) (m_cells : Nat) (f_manys : Nat → Int32) (f_reals : Nat → Int32) (f_factsOf : Nat → Int32) (f_possible : Nat → Int32) (hb_manys : NB 18 24 f_manys) (hb_reals : NB 18 23 f_reals) (hpg : PG f_manys f_reals) (hwf : WFP (pgs f_manys f_reals f_factsOf f_possible)) (hq_undos : q_undos ≤ 8) : CT l yX12_blind (Cond.code yX12_blind cX12_blind 7 (some .int) :: TB) ({ frames := 2, cells := 0, slots := 0, locals := 44 }) E ro [.ref hm, .int v0] [(hm, .inr (12, [.ref m_manys, .ref m_reals, .ref m_factsOf, .ref m_possible, .int (nI q_undos), .int (nI q_models), .ref m_tape, .int (nI q_taped), .int q_fault, .int q_wrong, .int q_wrongAt, .int q_spot, .int q_place, .int q_token, .int q_value, .ref m_ends, .ref m_letters, .ref m_actOf, .ref m_whom, .ref m_actMany, .ref m_tokens, .ref m_afters, .ref m_afterOf, .int q_counted, .ref m_pile, .ref m_caseMany, .ref m_happen, .ref m_hasIf, .ref m_becomes, .ref m_goneOf, .ref m_heard, .ref m_pairs, .ref m_heaps, .int q_rounds, .int q_heapMany, .ref m_led, .ref m_newAt, .ref m_knowing, .ref m_firsts, .int (nI q_people), .ref m_secrets, .ref m_tried, .ref m_lanes, .ref m_lengths, .ref m_cells])), (m_manys, .inl (E.2.1 1, 18, .inl f_manys)), (m_reals, .inl (E.2.1 1, 18, .inl f_reals)), (m_factsOf, .inl (E.2.1 1, 432, .inl f_factsOf)), (m_possible, .inl (E.2.1 1, 1728, .inl f_possible))] (Qi E (fun (rz : Int32) uz => (∃ (uz_ : Nat) (f_manysz : Nat → Int32) (f_realsz : Nat → Int32) (f_factsOfz : Nat → Int32) (f_possiblez : Nat → Int32), uz = [(hm, .inr (12, [.ref m_manys, .ref m_reals, .ref m_factsOf, .ref m_possible, .int (nI uz_), .int (nI q_models), .ref m_tape, .int (nI q_taped), .int q_fault, .int q_wrong, .int q_wrongAt, .int q_spot, .int q_place, .int q_token, .int q_value, .ref m_ends, .ref m_letters, .ref m_actOf, .ref m_whom, .ref m_actMany, .ref m_tokens, .ref m_afters, .ref m_afterOf, .int q_counted, .ref m_pile, .ref m_caseMany, .ref m_happen, .ref m_hasIf, .ref m_becomes, .ref m_goneOf, .ref m_heard, .ref m_pairs, .ref m_heaps, .int q_rounds, .int q_heapMany, .ref m_led, .ref m_newAt, .ref m_knowing, .ref m_firsts, .int (nI q_people), .ref m_secrets, .ref m_tried, .ref m_lanes, .ref m_lengths, .ref m_cells])), (m_manys, .inl (E.2.1 1, 18, .inl f_manysz)), (m_reals, .inl (E.2.1 1, 18, .inl f_realsz)), (m_factsOf, .inl (E.2.1 1, 432, .inl f_factsOfz)), (m_possible, .inl (E.2.1 1, 1728, .inl f_possiblez))] ∧ (NB 18 24 f_manysz) ∧ (NB 18 23 f_realsz) ∧ (PG f_manysz f_realsz) ∧ (WFP (pgs f_manysz f_realsz f_factsOfz f_possiblez)) ∧ (uz_ ≤ 8) ∧ ((asM uz_ (pgs f_manysz f_realsz f_factsOfz f_possiblez), rz) = opBlind (asM q_undos (pgs f_manys f_reals f_factsOf f_possible)) v0) ∧ (KP6 (pgs f_manys f_reals f_factsOf f_possible) (pgs f_manysz f_realsz f_factsOfz f_possiblez))))) 0 0 := by
  refine ct_of rfl rfl ?_
  intro X C hT hin hro
  show WW X 7 E 0 [(0, .ref hm), (1, .int v0)] [] [(hm, .inr (12, [.ref m_manys, .ref m_reals, .ref m_factsOf, .ref m_possible, .int (nI q_undos), .int (nI q_models), .ref m_tape, .int (nI q_taped), .int q_fault, .int q_wrong, .int q_wrongAt, .int q_spot, .int q_place, .int q_token, .int q_value, .ref m_ends, .ref m_letters, .ref m_actOf, .ref m_whom, .ref m_actMany, .ref m_tokens, .ref m_afters, .ref m_afterOf, .int q_counted, .ref m_pile, .ref m_caseMany, .ref m_happen, .ref m_hasIf, .ref m_becomes, .ref m_goneOf, .ref m_heard, .ref m_pairs, .ref m_heaps, .int q_rounds, .int q_heapMany, .ref m_led, .ref m_newAt, .ref m_knowing, .ref m_firsts, .int (nI q_people), .ref m_secrets, .ref m_tried, .ref m_lanes, .ref m_lengths, .ref m_cells])), (m_manys, .inl (E.2.1 1, 18, .inl f_manys)), (m_reals, .inl (E.2.1 1, 18, .inl f_reals)), (m_factsOf, .inl (E.2.1 1, 432, .inl f_factsOf)), (m_possible, .inl (E.2.1 1, 1728, .inl f_possible))] 0 0
  have hmn0 := (hb_manys 0 (by omega)).2
  refine ww_iload_n C dX12_blind_0 1 rfl rfl ?_
  refine ww_i2l (v := v0.toInt64) C dX12_blind_1 rfl ?_
  refine ww_lconst (v := 0) C dX12_blind_2 rfl ?_
  refine ww_ldc2 C wv_X12_143 dX12_blind_3 ?_
  refine ww_ci (wr := [(hm, .inr (12, [.ref m_manys, .ref m_reals, .ref m_factsOf, .ref m_possible, .int (nI q_undos), .int (nI q_models), .ref m_tape, .int (nI q_taped), .int q_fault, .int q_wrong, .int q_wrongAt, .int q_spot, .int q_place, .int q_token, .int q_value, .ref m_ends, .ref m_letters, .ref m_actOf, .ref m_whom, .ref m_actMany, .ref m_tokens, .ref m_afters, .ref m_afterOf, .int q_counted, .ref m_pile, .ref m_caseMany, .ref m_happen, .ref m_hasIf, .ref m_becomes, .ref m_goneOf, .ref m_heard, .ref m_pairs, .ref m_heaps, .int q_rounds, .int q_heapMany, .ref m_led, .ref m_newAt, .ref m_knowing, .ref m_firsts, .int (nI q_people), .ref m_secrets, .ref m_tried, .ref m_lanes, .ref m_lengths, .ref m_cells])), (m_manys, .inl (E.2.1 1, 18, .inl f_manys)), (m_reals, .inl (E.2.1 1, 18, .inl f_reals)), (m_factsOf, .inl (E.2.1 1, 432, .inl f_factsOf)), (m_possible, .inl (E.2.1 1, 1728, .inl f_possible))]) (k' := 0) (n' := 0) C (run_S (As := [.long v0.toInt64, .long 0, .long 65535]) (rest := []) C (r_in X.2.1 E ro v0.toInt64 0 65535 v0.toInt 0 65535 (Int32.toInt_toInt64 _) rfl rfl) ms_X12_in wl_X12_115 rfl rfl rfl rfl dX12_blind_6) (roK hro) [] [0, 1, 2, 3, 4] rfl rfl rfl rfl (fun r_1 uz hw => ?_)
  rcases hw with hw | hw
  · refine an3 hw ?_
    clear hw
    intro he_4 he_5 h_2 hw
    have h_3 := hw
    clear hw
    have he_4 := he_4.symm
    subst he_4
    subst he_5
    refine ww_eq (ws' := [(hm, .inr (12, [.ref m_manys, .ref m_reals, .ref m_factsOf, .ref m_possible, .int (nI q_undos), .int (nI q_models), .ref m_tape, .int (nI q_taped), .int q_fault, .int q_wrong, .int q_wrongAt, .int q_spot, .int q_place, .int q_token, .int q_value, .ref m_ends, .ref m_letters, .ref m_actOf, .ref m_whom, .ref m_actMany, .ref m_tokens, .ref m_afters, .ref m_afterOf, .int q_counted, .ref m_pile, .ref m_caseMany, .ref m_happen, .ref m_hasIf, .ref m_becomes, .ref m_goneOf, .ref m_heard, .ref m_pairs, .ref m_heaps, .int q_rounds, .int q_heapMany, .ref m_led, .ref m_newAt, .ref m_knowing, .ref m_firsts, .int (nI q_people), .ref m_secrets, .ref m_tried, .ref m_lanes, .ref m_lengths, .ref m_cells])), (m_manys, .inl (E.2.1 1, 18, .inl f_manys)), (m_reals, .inl (E.2.1 1, 18, .inl f_reals)), (m_factsOf, .inl (E.2.1 1, 432, .inl f_factsOf)), (m_possible, .inl (E.2.1 1, 1728, .inl f_possible))]) ?_ rfl rfl rfl
    refine ww_if_ne_t (tgt := 14) C dX12_blind_9 (by decide) (by decide) ?_
    refine ww_aload_n C dX12_blind_14 0 rfl rfl ?_
    refine ww_cv (wr := []) (k' := 0) (n' := 0) C (run_V (As := []) (rest := []) C (r_acts X.2.1 E ro hm m_manys m_reals m_factsOf m_possible q_undos q_models m_tape q_taped q_fault q_wrong q_wrongAt q_spot q_place q_token q_value m_ends m_letters m_actOf m_whom m_actMany m_tokens m_afters m_afterOf q_counted m_pile m_caseMany m_happen m_hasIf m_becomes m_goneOf m_heard m_pairs m_heaps q_rounds q_heapMany m_led m_newAt m_knowing m_firsts q_people m_secrets m_tried m_lanes m_lengths m_cells f_manys f_reals f_factsOf f_possible hb_manys hb_reals hpg hwf (by omega)) mi_X12_acts wl_X12_121 rfl 0 12 rfl rfl rfl rfl rfl dX12_blind_15) (roK hro) [0, 1, 2, 3, 4] [] rfl rfl rfl rfl (fun uz hw => ?_)
    refine ex5 hw ?_
    clear hw
    intro uz__10 f_manysz_11 f_realsz_12 f_factsOfz_13 f_possiblez_14 hw
    refine an8 hw ?_
    clear hw
    intro he_25 h_15 h_16 h_17 h_18 h_19 h_20 h_21 hw
    refine an2 hw ?_
    clear hw
    intro h_22 h_23 hw
    have h_24 := hw
    clear hw
    subst he_25
    refine ww_eq (ws' := [(hm, .inr (12, [.ref m_manys, .ref m_reals, .ref m_factsOf, .ref m_possible, .int (nI uz__10), .int (nI q_models), .ref m_tape, .int (nI q_taped), .int q_fault, .int q_wrong, .int q_wrongAt, .int q_spot, .int q_place, .int q_token, .int q_value, .ref m_ends, .ref m_letters, .ref m_actOf, .ref m_whom, .ref m_actMany, .ref m_tokens, .ref m_afters, .ref m_afterOf, .int q_counted, .ref m_pile, .ref m_caseMany, .ref m_happen, .ref m_hasIf, .ref m_becomes, .ref m_goneOf, .ref m_heard, .ref m_pairs, .ref m_heaps, .int q_rounds, .int q_heapMany, .ref m_led, .ref m_newAt, .ref m_knowing, .ref m_firsts, .int (nI q_people), .ref m_secrets, .ref m_tried, .ref m_lanes, .ref m_lengths, .ref m_cells])), (m_manys, .inl (E.2.1 1, 18, .inl f_manysz_11)), (m_reals, .inl (E.2.1 1, 18, .inl f_realsz_12)), (m_factsOf, .inl (E.2.1 1, 432, .inl f_factsOfz_13)), (m_possible, .inl (E.2.1 1, 1728, .inl f_possiblez_14))]) ?_ rfl rfl rfl
    have hm0_b := (h_15 0 (by omega)).2
    have hk0_k_26 := KP.at h_20 (p := 0) (by omega)
    have hwf1 := REMS.wf h_24 hwf
    have hk0_b := KP.at h_20 (p := 0) (by omega)
    refine ww_iconst (v := 0) C dX12_blind_18 rfl ?_
    refine ww_istore_n (lv' := [(2, .int 0), (0, .ref hm), (1, .int v0)]) C dX12_blind_19 rfl rfl rfl ?_
    refine ww_iconst (v := 0) C dX12_blind_20 rfl ?_
    refine ww_istore_n (lv' := [(3, .int 0), (2, .int 0), (0, .ref hm), (1, .int v0)]) C dX12_blind_21 rfl rfl rfl ?_
    have loop_22 : ∀ (fu : Nat) (i1 : Nat) (s1 : Nat) (g1 : Nat → Int32), (i1 ≤ 4) → (s1 ≤ 576 * i1) → (BLQ (cN f_manysz_11 0) f_factsOfz_13 v0 i1 0 f_possiblez_14 g1) → (OFF 96 0 f_possiblez_14 g1) → (s1 = sumN (fun k => sumN (fun u => cRow (cN f_manysz_11 0) f_factsOfz_13 (ow v0 k) u) (cN f_manysz_11 0)) i1) → 4 - i1 < fu → WW X 7 E 22 [(3, .int (nI i1)), (2, .int (nI s1)), (0, .ref hm), (1, .int v0)] [] [(hm, .inr (12, [.ref m_manys, .ref m_reals, .ref m_factsOf, .ref m_possible, .int (nI uz__10), .int (nI q_models), .ref m_tape, .int (nI q_taped), .int q_fault, .int q_wrong, .int q_wrongAt, .int q_spot, .int q_place, .int q_token, .int q_value, .ref m_ends, .ref m_letters, .ref m_actOf, .ref m_whom, .ref m_actMany, .ref m_tokens, .ref m_afters, .ref m_afterOf, .int q_counted, .ref m_pile, .ref m_caseMany, .ref m_happen, .ref m_hasIf, .ref m_becomes, .ref m_goneOf, .ref m_heard, .ref m_pairs, .ref m_heaps, .int q_rounds, .int q_heapMany, .ref m_led, .ref m_newAt, .ref m_knowing, .ref m_firsts, .int (nI q_people), .ref m_secrets, .ref m_tried, .ref m_lanes, .ref m_lengths, .ref m_cells])), (m_manys, .inl (E.2.1 1, 18, .inl f_manysz_11)), (m_reals, .inl (E.2.1 1, 18, .inl f_realsz_12)), (m_factsOf, .inl (E.2.1 1, 432, .inl f_factsOfz_13)), (m_possible, .inl (E.2.1 1, 1728, .inl g1))] 0 0 := by
      intro fu
      induction fu with
      | zero => intro i1 s1 g1 hi1 hs1 hbq hop hsu hmeas; exact absurd hmeas (Nat.not_lt_zero _)
      | succ fu ih_22 =>
        intro i1 s1 g1 hi1 hs1 hbq hop hsu hmeas
        refine ww_iload_n C dX12_blind_22 0 rfl rfl ?_
        refine ww_iconst (v := 4) C dX12_blind_23 rfl ?_
        refine ww_icmp_ge (tgt := 134) C dX12_blind_24 (by decide) (fun c_27 => ?_) (fun c_27 => ?_)
        · have zc_27 : ((i1 : Nat) : Int) ≥ 4 := i_le rfl (nI_toInt (n := i1) (by omega)) c_27
          refine ww_iload_n C dX12_blind_134 1 rfl rfl ?_
          exact ww_iret (u := [(hm, .inr (12, [.ref m_manys, .ref m_reals, .ref m_factsOf, .ref m_possible, .int (nI uz__10), .int (nI q_models), .ref m_tape, .int (nI q_taped), .int q_fault, .int q_wrong, .int q_wrongAt, .int q_spot, .int q_place, .int q_token, .int q_value, .ref m_ends, .ref m_letters, .ref m_actOf, .ref m_whom, .ref m_actMany, .ref m_tokens, .ref m_afters, .ref m_afterOf, .int q_counted, .ref m_pile, .ref m_caseMany, .ref m_happen, .ref m_hasIf, .ref m_becomes, .ref m_goneOf, .ref m_heard, .ref m_pairs, .ref m_heaps, .int q_rounds, .int q_heapMany, .ref m_led, .ref m_newAt, .ref m_knowing, .ref m_firsts, .int (nI q_people), .ref m_secrets, .ref m_tried, .ref m_lanes, .ref m_lengths, .ref m_cells])), (m_manys, .inl (E.2.1 1, 18, .inl f_manysz_11)), (m_reals, .inl (E.2.1 1, 18, .inl f_realsz_12)), (m_factsOf, .inl (E.2.1 1, 432, .inl f_factsOfz_13)), (m_possible, .inl (E.2.1 1, 1728, .inl g1))]) C hT [0, 1, 2, 3, 4] rfl rfl rfl rfl dX12_blind_135 (⟨uz__10, f_manysz_11, f_realsz_12, f_factsOfz_13, g1, rfl, h_15, h_16, h_17, (WFP.at (REMS.wf h_24 hwf) (pgs_oth h_15 OFF.rf OFF.rf OFF.rf hop) (by rw [((pg_blind h_15 (by have h9 : i1 = 4 := (by omega); rw [h9] at hbq; exact hbq) rfl).trans (congrArg (fun z => aBlind z v0) (REMS.p0 h_24)))]; exact nmz_wf)), (by omega), (by show _ = if v0.toInt < 0 ∨ 65535 < v0.toInt then ((asM q_undos (pgs f_manys f_reals f_factsOf f_possible)), -1) else (aRem (asM q_undos (pgs f_manys f_reals f_factsOf f_possible)) (aBlind (pgs f_manys f_reals f_factsOf f_possible 0) v0), nI (cBl (cN f_manys 0) (pgs f_manys f_reals f_factsOf f_possible 0).2.2.1 v0)); rw [if_neg (show ¬ (v0.toInt < 0 ∨ 65535 < v0.toInt) by omega)]; exact Prod.ext (rm_end hq_undos h_24 (OTH.hi (pgs_oth h_15 OFF.rf OFF.rf OFF.rf hop) (by omega)) ((pg_blind h_15 (by have h9 : i1 = 4 := (by omega); rw [h9] at hbq; exact hbq) rfl).trans (congrArg (fun z => aBlind z v0) (REMS.p0 h_24)))) (congrArg nI (hsu.trans (by rw [show i1 = 4 by omega]; show cBl (cN f_manysz_11 0) f_factsOfz_13 v0 = cBl (cN f_manys 0) (pgs f_manys f_reals f_factsOf f_possible 0).2.2.1 v0; rw [hk0_b]; exact cBl_cg (fun w hw => by rw [← REMS.p0 h_24, pg_F (by omega), Nat.mul_zero, Nat.zero_add]))))), (KP6.rem h_24 (OTH.hi (pgs_oth h_15 OFF.rf OFF.rf OFF.rf hop) (by omega)))⟩)
        · have zc_27 : ((i1 : Nat) : Int) < 4 := i_nle rfl (nI_toInt (n := i1) (by omega)) c_27
          refine ww_iload_n C dX12_blind_27 3 rfl rfl ?_
          refine ww_iconst (v := 4) C dX12_blind_28 rfl ?_
          refine ww_iload_n C dX12_blind_29 0 rfl rfl ?_
          refine ww_imul (v := (nI (4 * i1))) C dX12_blind_30 (pk_mul 4 i1) ?_
          obtain ⟨x_28, ex_28⟩ : ∃ z : Int32, v0 >>> ((nI (4 * i1)) &&& 31) = z := ⟨_, rfl⟩
          refine ww_ishr (v := x_28) C dX12_blind_31 ex_28 ?_
          refine ww_bipush (v := 15) C dX12_blind_32 rfl ?_
          obtain ⟨j_29, hj_29, ej_29⟩ := pk_andE x_28 (m := 15) 4 rfl
          refine ww_iand (v := (nI j_29)) C dX12_blind_34 ej_29 ?_
          refine ww_istore (lv' := [(4, .int (nI j_29)), (3, .int (nI i1)), (2, .int (nI s1)), (0, .ref hm), (1, .int v0)]) C dX12_blind_35 rfl rfl ?_
          have how : nI j_29 = ow v0 i1 := by unfold ow; rw [ex_28, ej_29]
          refine ww_iconst (v := 0) C dX12_blind_37 rfl ?_
          refine ww_istore (lv' := [(5, .int 0), (4, .int (nI j_29)), (3, .int (nI i1)), (2, .int (nI s1)), (0, .ref hm), (1, .int v0)]) C dX12_blind_38 rfl rfl ?_
          have loop_40 : ∀ (fu : Nat) (i2 : Nat) (s2 : Nat) (g2 : Nat → Int32), (i2 ≤ cN f_manysz_11 0) → (s2 ≤ 576 * i1 + 24 * i2) → (BLQ (cN f_manysz_11 0) f_factsOfz_13 v0 i1 i2 f_possiblez_14 g2) → (OFF 96 0 f_possiblez_14 g2) → (s2 = sumN (fun k => sumN (fun u => cRow (cN f_manysz_11 0) f_factsOfz_13 (ow v0 k) u) (cN f_manysz_11 0)) i1 + sumN (fun u => cRow (cN f_manysz_11 0) f_factsOfz_13 (ow v0 i1) u) i2) → cN f_manysz_11 0 - i2 < fu → WW X 7 E 40 [(5, .int (nI i2)), (4, .int (nI j_29)), (3, .int (nI i1)), (2, .int (nI s2)), (0, .ref hm), (1, .int v0)] [] [(hm, .inr (12, [.ref m_manys, .ref m_reals, .ref m_factsOf, .ref m_possible, .int (nI uz__10), .int (nI q_models), .ref m_tape, .int (nI q_taped), .int q_fault, .int q_wrong, .int q_wrongAt, .int q_spot, .int q_place, .int q_token, .int q_value, .ref m_ends, .ref m_letters, .ref m_actOf, .ref m_whom, .ref m_actMany, .ref m_tokens, .ref m_afters, .ref m_afterOf, .int q_counted, .ref m_pile, .ref m_caseMany, .ref m_happen, .ref m_hasIf, .ref m_becomes, .ref m_goneOf, .ref m_heard, .ref m_pairs, .ref m_heaps, .int q_rounds, .int q_heapMany, .ref m_led, .ref m_newAt, .ref m_knowing, .ref m_firsts, .int (nI q_people), .ref m_secrets, .ref m_tried, .ref m_lanes, .ref m_lengths, .ref m_cells])), (m_manys, .inl (E.2.1 1, 18, .inl f_manysz_11)), (m_reals, .inl (E.2.1 1, 18, .inl f_realsz_12)), (m_factsOf, .inl (E.2.1 1, 432, .inl f_factsOfz_13)), (m_possible, .inl (E.2.1 1, 1728, .inl g2))] 0 0 := by
            intro fu
            induction fu with
            | zero => intro i2 s2 g2 hi2 hs2 hbq2 hop2 hsu2 hmeas; exact absurd hmeas (Nat.not_lt_zero _)
            | succ fu ih_40 =>
              intro i2 s2 g2 hi2 hs2 hbq2 hop2 hsu2 hmeas
              refine ww_iload C dX12_blind_40 0 rfl ?_
              refine ww_aload_n C dX12_blind_42 4 rfl rfl ?_
              refine ww_get C fg_X12_7 0 rfl rfl dX12_blind_43 ?_
              refine ww_iconst (v := 0) C dX12_blind_46 rfl ?_
              have hbx_30 := (h_15 0 (by omega)).2
              refine ww_iald (v := (nI (cN f_manysz_11 0))) C 1 rfl (vin rfl) (h_15 0 (by omega)).1 dX12_blind_47 ?_
              refine ww_icmp_ge (tgt := 128) C dX12_blind_48 (by decide) (fun c_31 => ?_) (fun c_31 => ?_)
              · have zc_31 : ((i2 : Nat) : Int) ≥ ((cN f_manysz_11 0 : Nat) : Int) := i_le (nI_toInt (n := cN f_manysz_11 0) (by omega)) (nI_toInt (n := i2) (by omega)) c_31
                refine ww_iinc (j := 2) (v := (nI (i1 + 1))) (lv' := [(3, .int (nI (i1 + 1))), (5, .int (nI i2)), (4, .int (nI j_29)), (2, .int (nI s2)), (0, .ref hm), (1, .int v0)]) C dX12_blind_128 rfl (nI_add i1 1) rfl rfl ?_
                refine ww_goto (tgt := 22) C dX12_blind_131 (by decide) ?_
                exact ww_lv [0, 3, 4, 5] rfl (ww_sub [0, 1, 2, 3, 4] rfl rfl (ih_22 (i1 + 1) s2 g2 (by omega) (by omega) (BLQ.up hbq2 (by omega)) hop2 (hsu2.trans (by rw [show i2 = cN f_manysz_11 0 by omega]; rfl)) (by omega)))
              · have zc_31 : ((i2 : Nat) : Int) < ((cN f_manysz_11 0 : Nat) : Int) := i_nle (nI_toInt (n := cN f_manysz_11 0) (by omega)) (nI_toInt (n := i2) (by omega)) c_31
                refine ww_iconst (v := 0) C dX12_blind_51 rfl ?_
                refine ww_istore (lv' := [(6, .int 0), (5, .int (nI i2)), (4, .int (nI j_29)), (3, .int (nI i1)), (2, .int (nI s2)), (0, .ref hm), (1, .int v0)]) C dX12_blind_52 rfl rfl ?_
                have loop_54 : ∀ (fu : Nat) (i3 : Nat) (g3 : Nat → Int32), (i3 ≤ cN f_manysz_11 0) → (RWx f_factsOfz_13 (ow v0 i1) i1 i2 i3 g2 g3) → (OFF 96 0 f_possiblez_14 g3) → cN f_manysz_11 0 - i3 < fu → WW X 7 E 54 [(6, .int (nI i3)), (5, .int (nI i2)), (4, .int (nI j_29)), (3, .int (nI i1)), (2, .int (nI s2)), (0, .ref hm), (1, .int v0)] [] [(hm, .inr (12, [.ref m_manys, .ref m_reals, .ref m_factsOf, .ref m_possible, .int (nI uz__10), .int (nI q_models), .ref m_tape, .int (nI q_taped), .int q_fault, .int q_wrong, .int q_wrongAt, .int q_spot, .int q_place, .int q_token, .int q_value, .ref m_ends, .ref m_letters, .ref m_actOf, .ref m_whom, .ref m_actMany, .ref m_tokens, .ref m_afters, .ref m_afterOf, .int q_counted, .ref m_pile, .ref m_caseMany, .ref m_happen, .ref m_hasIf, .ref m_becomes, .ref m_goneOf, .ref m_heard, .ref m_pairs, .ref m_heaps, .int q_rounds, .int q_heapMany, .ref m_led, .ref m_newAt, .ref m_knowing, .ref m_firsts, .int (nI q_people), .ref m_secrets, .ref m_tried, .ref m_lanes, .ref m_lengths, .ref m_cells])), (m_manys, .inl (E.2.1 1, 18, .inl f_manysz_11)), (m_reals, .inl (E.2.1 1, 18, .inl f_realsz_12)), (m_factsOf, .inl (E.2.1 1, 432, .inl f_factsOfz_13)), (m_possible, .inl (E.2.1 1, 1728, .inl g3))] 0 0 := by
                  intro fu
                  induction fu with
                  | zero => intro i3 g3 hi3 hrw hop3 hmeas; exact absurd hmeas (Nat.not_lt_zero _)
                  | succ fu ih_54 =>
                    intro i3 g3 hi3 hrw hop3 hmeas
                    refine ww_iload C dX12_blind_54 0 rfl ?_
                    refine ww_aload_n C dX12_blind_56 5 rfl rfl ?_
                    refine ww_get C fg_X12_7 0 rfl rfl dX12_blind_57 ?_
                    refine ww_iconst (v := 0) C dX12_blind_60 rfl ?_
                    have hbx_32 := (h_15 0 (by omega)).2
                    refine ww_iald (v := (nI (cN f_manysz_11 0))) C 1 rfl (vin rfl) (h_15 0 (by omega)).1 dX12_blind_61 ?_
                    refine ww_icmp_ge (tgt := 108) C dX12_blind_62 (by decide) (fun c_33 => ?_) (fun c_33 => ?_)
                    · have zc_33 : ((i3 : Nat) : Int) ≥ ((cN f_manysz_11 0 : Nat) : Int) := i_le (nI_toInt (n := cN f_manysz_11 0) (by omega)) (nI_toInt (n := i3) (by omega)) c_33
                      refine ww_iload_n C dX12_blind_108 4 rfl rfl ?_
                      refine ww_aload_n C dX12_blind_109 5 rfl rfl ?_
                      refine ww_iconst (v := 0) C dX12_blind_110 rfl ?_
                      refine ww_iload_n C dX12_blind_111 3 rfl rfl ?_
                      refine ww_iload C dX12_blind_112 1 rfl ?_
                      refine ww_ci (wr := [(m_manys, .inl (E.2.1 1, 18, .inl f_manysz_11)), (m_reals, .inl (E.2.1 1, 18, .inl f_realsz_12)), (m_factsOf, .inl (E.2.1 1, 432, .inl f_factsOfz_13))]) (k' := 0) (n' := 0) C (run_V (As := [.int 0, .int (nI i1), .int (nI i2)]) (rest := [.int (nI s2)]) C (r_seen X.2.1 E ro hm 0 i1 i2 m_manys m_reals m_factsOf m_possible uz__10 q_models m_tape q_taped q_fault q_wrong q_wrongAt q_spot q_place q_token q_value m_ends m_letters m_actOf m_whom m_actMany m_tokens m_afters m_afterOf q_counted m_pile m_caseMany m_happen m_hasIf m_becomes m_goneOf m_heard m_pairs m_heaps q_rounds q_heapMany m_led m_newAt m_knowing m_firsts q_people m_secrets m_tried m_lanes m_lengths m_cells g3 (by omega) (by omega) (by omega)) mi_X12_seen wl_X12_135 rfl 0 12 rfl rfl rfl rfl rfl dX12_blind_114) (roK hro) [0, 4] [1, 2, 3] rfl rfl rfl rfl (fun r_34 uz hw => ?_)
                      refine an1 hw ?_
                      clear hw
                      intro he_35 hw
                      have he_36 := hw
                      clear hw
                      have he_35 := he_35.symm
                      subst he_35
                      subst he_36
                      refine ww_eq (ws' := [(m_manys, .inl (E.2.1 1, 18, .inl f_manysz_11)), (m_reals, .inl (E.2.1 1, 18, .inl f_realsz_12)), (m_factsOf, .inl (E.2.1 1, 432, .inl f_factsOfz_13)), (hm, .inr (12, [.ref m_manys, .ref m_reals, .ref m_factsOf, .ref m_possible, .int (nI uz__10), .int (nI q_models), .ref m_tape, .int (nI q_taped), .int q_fault, .int q_wrong, .int q_wrongAt, .int q_spot, .int q_place, .int q_token, .int q_value, .ref m_ends, .ref m_letters, .ref m_actOf, .ref m_whom, .ref m_actMany, .ref m_tokens, .ref m_afters, .ref m_afterOf, .int q_counted, .ref m_pile, .ref m_caseMany, .ref m_happen, .ref m_hasIf, .ref m_becomes, .ref m_goneOf, .ref m_heard, .ref m_pairs, .ref m_heaps, .int q_rounds, .int q_heapMany, .ref m_led, .ref m_newAt, .ref m_knowing, .ref m_firsts, .int (nI q_people), .ref m_secrets, .ref m_tried, .ref m_lanes, .ref m_lengths, .ref m_cells])), (m_possible, .inl (E.2.1 1, 1728, .inl g3))]) ?_ rfl rfl rfl
                      refine ww_ci (wr := [(m_manys, .inl (E.2.1 1, 18, .inl f_manysz_11)), (m_reals, .inl (E.2.1 1, 18, .inl f_realsz_12)), (m_factsOf, .inl (E.2.1 1, 432, .inl f_factsOfz_13)), (hm, .inr (12, [.ref m_manys, .ref m_reals, .ref m_factsOf, .ref m_possible, .int (nI uz__10), .int (nI q_models), .ref m_tape, .int (nI q_taped), .int q_fault, .int q_wrong, .int q_wrongAt, .int q_spot, .int q_place, .int q_token, .int q_value, .ref m_ends, .ref m_letters, .ref m_actOf, .ref m_whom, .ref m_actMany, .ref m_tokens, .ref m_afters, .ref m_afterOf, .int q_counted, .ref m_pile, .ref m_caseMany, .ref m_happen, .ref m_hasIf, .ref m_becomes, .ref m_goneOf, .ref m_heard, .ref m_pairs, .ref m_heaps, .int q_rounds, .int q_heapMany, .ref m_led, .ref m_newAt, .ref m_knowing, .ref m_firsts, .int (nI q_people), .ref m_secrets, .ref m_tried, .ref m_lanes, .ref m_lengths, .ref m_cells])), (m_possible, .inl (E.2.1 1, 1728, .inl g3))]) (k' := 0) (n' := 0) C (run_S (As := [.int (g3 (96 * 0 + 24 * i1 + i2))]) (rest := [.int (nI s2)]) C (r_size X.2.1 E ro (g3 (96 * 0 + 24 * i1 + i2))) ms_X12_size wl_X12_145 rfl rfl rfl rfl dX12_blind_117) (roK hro) [] [0, 1, 2, 3, 4] rfl rfl rfl rfl (fun r_37 uz hw => ?_)
                      refine an2 hw ?_
                      clear hw
                      intro he_39 he_40 hw
                      have h_38 := hw
                      clear hw
                      have he_39 := he_39.symm
                      subst he_39
                      subst he_40
                      refine ww_eq (ws' := [(m_manys, .inl (E.2.1 1, 18, .inl f_manysz_11)), (m_reals, .inl (E.2.1 1, 18, .inl f_realsz_12)), (m_factsOf, .inl (E.2.1 1, 432, .inl f_factsOfz_13)), (hm, .inr (12, [.ref m_manys, .ref m_reals, .ref m_factsOf, .ref m_possible, .int (nI uz__10), .int (nI q_models), .ref m_tape, .int (nI q_taped), .int q_fault, .int q_wrong, .int q_wrongAt, .int q_spot, .int q_place, .int q_token, .int q_value, .ref m_ends, .ref m_letters, .ref m_actOf, .ref m_whom, .ref m_actMany, .ref m_tokens, .ref m_afters, .ref m_afterOf, .int q_counted, .ref m_pile, .ref m_caseMany, .ref m_happen, .ref m_hasIf, .ref m_becomes, .ref m_goneOf, .ref m_heard, .ref m_pairs, .ref m_heaps, .int q_rounds, .int q_heapMany, .ref m_led, .ref m_newAt, .ref m_knowing, .ref m_firsts, .int (nI q_people), .ref m_secrets, .ref m_tried, .ref m_lanes, .ref m_lengths, .ref m_cells])), (m_possible, .inl (E.2.1 1, 1728, .inl g3))]) ?_ rfl rfl rfl
                      refine ww_iadd (v := (nI (s2 + (cb (bt (g3 (96 * 0 + 24 * i1 + i2))) 24)))) C dX12_blind_120 (nI_add s2 (cb (bt (g3 (96 * 0 + 24 * i1 + i2))) 24)) ?_
                      refine ww_istore_n (lv' := [(2, .int (nI (s2 + (cb (bt (g3 (96 * 0 + 24 * i1 + i2))) 24)))), (6, .int (nI i3)), (5, .int (nI i2)), (4, .int (nI j_29)), (3, .int (nI i1)), (0, .ref hm), (1, .int v0)]) C dX12_blind_121 rfl rfl rfl ?_
                      refine ww_iinc (j := 2) (v := (nI (i2 + 1))) (lv' := [(5, .int (nI (i2 + 1))), (2, .int (nI (s2 + (cb (bt (g3 (96 * 0 + 24 * i1 + i2))) 24)))), (6, .int (nI i3)), (4, .int (nI j_29)), (3, .int (nI i1)), (0, .ref hm), (1, .int v0)]) C dX12_blind_122 rfl (nI_add i2 1) rfl rfl ?_
                      refine ww_goto (tgt := 40) C dX12_blind_125 (by decide) ?_
                      exact ww_lv [0, 3, 4, 1, 5, 6] rfl (ww_sub [3, 0, 1, 2, 4] rfl rfl (ih_40 (i2 + 1) (s2 + (cb (bt (g3 (96 * 0 + 24 * i1 + i2))) 24)) g3 (by omega) (by omega) (BLQ.ext hbq2 hm0_b (by omega) (by omega) (by have h9 : i3 = cN f_manysz_11 0 := (by omega); rw [h9] at hrw; exact hrw) (wfp_hi hwf1 (by omega) (by omega))) hop3 (by show _ = sumN (fun k => sumN (fun u => cRow (cN f_manysz_11 0) f_factsOfz_13 (ow v0 k) u) (cN f_manysz_11 0)) i1 + (sumN (fun u => cRow (cN f_manysz_11 0) f_factsOfz_13 (ow v0 i1) u) i2 + cRow (cN f_manysz_11 0) f_factsOfz_13 (ow v0 i1) i2); rw [← Nat.add_assoc, ← hsu2]; congr 1; exact cb24 (by rw [show 96 * 0 + 24 * i1 + i2 = 24 * i1 + i2 by omega]; exact rw_bs hbq2 hm0_b (by omega) (by omega) (by have h9 : i3 = cN f_manysz_11 0 := (by omega); rw [h9] at hrw; exact hrw) (wfp_hi hwf1 (by omega) (by omega))) (fun v hv => by rw [decide_eq_false (show ¬ v < cN f_manysz_11 0 by omega), Bool.false_and])) (by omega)))
                    · have zc_33 : ((i3 : Nat) : Int) < ((cN f_manysz_11 0 : Nat) : Int) := i_nle (nI_toInt (n := cN f_manysz_11 0) (by omega)) (nI_toInt (n := i3) (by omega)) c_33
                      refine ww_aload_n C dX12_blind_65 5 rfl rfl ?_
                      refine ww_iload_n C dX12_blind_66 3 rfl rfl ?_
                      refine ww_iload C dX12_blind_67 1 rfl ?_
                      refine ww_iload C dX12_blind_69 0 rfl ?_
                      refine ww_aload_n C dX12_blind_71 5 rfl rfl ?_
                      refine ww_get C fg_X12_16 0 rfl rfl dX12_blind_72 ?_
                      refine ww_iload C dX12_blind_75 1 rfl ?_
                      obtain ⟨x_41, ex_41⟩ : ∃ z : Int32, f_factsOfz_13 i2 = z := ⟨_, rfl⟩
                      refine ww_iald (v := x_41) C 3 rfl (vp_in_nI (by omega) (by omega)) (ldn (by omega) ex_41) dX12_blind_77 ?_
                      refine ww_aload_n C dX12_blind_78 5 rfl rfl ?_
                      refine ww_get C fg_X12_16 0 rfl rfl dX12_blind_79 ?_
                      refine ww_iload C dX12_blind_82 0 rfl ?_
                      obtain ⟨x_42, ex_42⟩ : ∃ z : Int32, f_factsOfz_13 i3 = z := ⟨_, rfl⟩
                      refine ww_iald (v := x_42) C 3 rfl (vp_in_nI (by omega) (by omega)) (ldn (by omega) ex_42) dX12_blind_84 ?_
                      obtain ⟨x_43, ex_43⟩ : ∃ z : Int32, x_41 ^^^ x_42 = z := ⟨_, rfl⟩
                      refine ww_ixor (v := x_43) C dX12_blind_85 ex_43 ?_
                      refine ww_iload C dX12_blind_86 2 rfl ?_
                      refine ww_iconst (v := (-1)) C dX12_blind_88 rfl ?_
                      obtain ⟨x_44, ex_44⟩ : ∃ z : Int32, (nI j_29) ^^^ ((-1) : Int32) = z := ⟨_, rfl⟩
                      refine ww_ixor (v := x_44) C dX12_blind_89 ex_44 ?_
                      obtain ⟨x_45, ex_45⟩ : ∃ z : Int32, x_43 &&& x_44 = z := ⟨_, rfl⟩
                      refine ww_iand (v := x_45) C dX12_blind_90 ex_45 ?_
                      refine ww_if_ne (tgt := 98) C dX12_blind_91 (by decide) (fun c_46 => ?_) (fun c_46 => ?_)
                      · have zc_46 : x_45.toInt ≠ 0 := i_ne rfl rfl c_46
                        refine ww_iconst (v := 0) C dX12_blind_98 rfl ?_
                        refine ww_cv (wr := [(m_manys, .inl (E.2.1 1, 18, .inl f_manysz_11)), (m_reals, .inl (E.2.1 1, 18, .inl f_realsz_12)), (m_factsOf, .inl (E.2.1 1, 432, .inl f_factsOfz_13))]) (k' := 0) (n' := 0) C (run_V (As := [.int (nI i1), .int (nI i2), .int (nI i3), .int 0]) (rest := []) C (r_see X.2.1 E ro hm i1 i2 (nI i3) 0 m_manys m_reals m_factsOf m_possible uz__10 q_models m_tape q_taped q_fault q_wrong q_wrongAt q_spot q_place q_token q_value m_ends m_letters m_actOf m_whom m_actMany m_tokens m_afters m_afterOf q_counted m_pile m_caseMany m_happen m_hasIf m_becomes m_goneOf m_heard m_pairs m_heaps q_rounds q_heapMany m_led m_newAt m_knowing m_firsts q_people m_secrets m_tried m_lanes m_lengths m_cells g3 (by omega) (by omega)) mi_X12_see wl_X12_139 rfl 0 12 rfl rfl rfl rfl rfl dX12_blind_99) (roK hro) [0, 4] [1, 2, 3] rfl rfl rfl rfl (fun uz hw => ?_)
                        refine ex1 hw ?_
                        clear hw
                        intro f_possiblez_48 hw
                        refine an1 hw ?_
                        clear hw
                        intro he_50 hw
                        have h_49 := hw
                        clear hw
                        subst he_50
                        refine ww_eq (ws' := [(m_manys, .inl (E.2.1 1, 18, .inl f_manysz_11)), (m_reals, .inl (E.2.1 1, 18, .inl f_realsz_12)), (m_factsOf, .inl (E.2.1 1, 432, .inl f_factsOfz_13)), (hm, .inr (12, [.ref m_manys, .ref m_reals, .ref m_factsOf, .ref m_possible, .int (nI uz__10), .int (nI q_models), .ref m_tape, .int (nI q_taped), .int q_fault, .int q_wrong, .int q_wrongAt, .int q_spot, .int q_place, .int q_token, .int q_value, .ref m_ends, .ref m_letters, .ref m_actOf, .ref m_whom, .ref m_actMany, .ref m_tokens, .ref m_afters, .ref m_afterOf, .int q_counted, .ref m_pile, .ref m_caseMany, .ref m_happen, .ref m_hasIf, .ref m_becomes, .ref m_goneOf, .ref m_heard, .ref m_pairs, .ref m_heaps, .int q_rounds, .int q_heapMany, .ref m_led, .ref m_newAt, .ref m_knowing, .ref m_firsts, .int (nI q_people), .ref m_secrets, .ref m_tried, .ref m_lanes, .ref m_lengths, .ref m_cells])), (m_possible, .inl (E.2.1 1, 1728, .inl f_possiblez_48))]) ?_ rfl rfl rfl
                        refine ww_iinc (j := 0) (v := (nI (i3 + 1))) (lv' := [(6, .int (nI (i3 + 1))), (5, .int (nI i2)), (4, .int (nI j_29)), (3, .int (nI i1)), (2, .int (nI s2)), (0, .ref hm), (1, .int v0)]) C dX12_blind_102 rfl (nI_add i3 1) rfl rfl ?_
                        refine ww_goto (tgt := 54) C dX12_blind_105 (by decide) ?_
                        exact ww_lv [0, 1, 2, 3, 4, 5, 6] rfl (ww_sub [3, 0, 1, 2, 4] rfl rfl (ih_54 (i3 + 1) f_possiblez_48 (by omega) (RWx.ext hrw (by omega) (alk_0 how (by assumption) (by assumption) (by assumption) (by assumption) (by assumption) (by assumption)) h_49) (OFF.put hop3 (by omega) (by omega) h_49) (by omega)))
                      · have zc_46 : x_45.toInt = 0 := i_eq rfl rfl c_46
                        refine ww_iconst (v := 1) C dX12_blind_94 rfl ?_
                        refine ww_goto (tgt := 99) C dX12_blind_95 (by decide) ?_
                        refine ww_cv (wr := [(m_manys, .inl (E.2.1 1, 18, .inl f_manysz_11)), (m_reals, .inl (E.2.1 1, 18, .inl f_realsz_12)), (m_factsOf, .inl (E.2.1 1, 432, .inl f_factsOfz_13))]) (k' := 0) (n' := 0) C (run_V (As := [.int (nI i1), .int (nI i2), .int (nI i3), .int 1]) (rest := []) C (r_see X.2.1 E ro hm i1 i2 (nI i3) 1 m_manys m_reals m_factsOf m_possible uz__10 q_models m_tape q_taped q_fault q_wrong q_wrongAt q_spot q_place q_token q_value m_ends m_letters m_actOf m_whom m_actMany m_tokens m_afters m_afterOf q_counted m_pile m_caseMany m_happen m_hasIf m_becomes m_goneOf m_heard m_pairs m_heaps q_rounds q_heapMany m_led m_newAt m_knowing m_firsts q_people m_secrets m_tried m_lanes m_lengths m_cells g3 (by omega) (by omega)) mi_X12_see wl_X12_139 rfl 0 12 rfl rfl rfl rfl rfl dX12_blind_99) (roK hro) [0, 4] [1, 2, 3] rfl rfl rfl rfl (fun uz hw => ?_)
                        refine ex1 hw ?_
                        clear hw
                        intro f_possiblez_52 hw
                        refine an1 hw ?_
                        clear hw
                        intro he_54 hw
                        have h_53 := hw
                        clear hw
                        subst he_54
                        refine ww_eq (ws' := [(m_manys, .inl (E.2.1 1, 18, .inl f_manysz_11)), (m_reals, .inl (E.2.1 1, 18, .inl f_realsz_12)), (m_factsOf, .inl (E.2.1 1, 432, .inl f_factsOfz_13)), (hm, .inr (12, [.ref m_manys, .ref m_reals, .ref m_factsOf, .ref m_possible, .int (nI uz__10), .int (nI q_models), .ref m_tape, .int (nI q_taped), .int q_fault, .int q_wrong, .int q_wrongAt, .int q_spot, .int q_place, .int q_token, .int q_value, .ref m_ends, .ref m_letters, .ref m_actOf, .ref m_whom, .ref m_actMany, .ref m_tokens, .ref m_afters, .ref m_afterOf, .int q_counted, .ref m_pile, .ref m_caseMany, .ref m_happen, .ref m_hasIf, .ref m_becomes, .ref m_goneOf, .ref m_heard, .ref m_pairs, .ref m_heaps, .int q_rounds, .int q_heapMany, .ref m_led, .ref m_newAt, .ref m_knowing, .ref m_firsts, .int (nI q_people), .ref m_secrets, .ref m_tried, .ref m_lanes, .ref m_lengths, .ref m_cells])), (m_possible, .inl (E.2.1 1, 1728, .inl f_possiblez_52))]) ?_ rfl rfl rfl
                        refine ww_iinc (j := 0) (v := (nI (i3 + 1))) (lv' := [(6, .int (nI (i3 + 1))), (5, .int (nI i2)), (4, .int (nI j_29)), (3, .int (nI i1)), (2, .int (nI s2)), (0, .ref hm), (1, .int v0)]) C dX12_blind_102 rfl (nI_add i3 1) rfl rfl ?_
                        refine ww_goto (tgt := 54) C dX12_blind_105 (by decide) ?_
                        exact ww_lv [0, 1, 2, 3, 4, 5, 6] rfl (ww_sub [3, 0, 1, 2, 4] rfl rfl (ih_54 (i3 + 1) f_possiblez_52 (by omega) (RWx.ext hrw (by omega) (alk_1 how (by assumption) (by assumption) (by assumption) (by assumption) (by assumption) (by assumption)) h_53) (OFF.put hop3 (by omega) (by omega) h_53) (by omega)))
                exact ww_lv [0, 1, 2, 3, 4, 5, 6] rfl (ww_sub [0, 1, 2, 3, 4] rfl rfl (loop_54 _ 0 g2 (by omega) RWx.nil hop2 (Nat.lt_succ_self _)))
          exact ww_lv [0, 1, 2, 3, 4, 5] rfl (ww_sub [0, 1, 2, 3, 4] rfl rfl (loop_40 _ 0 s1 g1 (by omega) (by omega) hbq hop (hsu.trans (Nat.add_zero _).symm) (Nat.lt_succ_self _)))
    exact ww_lv [0, 1, 2, 3] rfl (ww_sub [0, 1, 2, 3, 4] rfl rfl (loop_22 _ 0 0 f_possiblez_14 (by omega) (by omega) BLQ.nil OFF.rf rfl (Nat.lt_succ_self _)))
  · refine an2 hw ?_
    clear hw
    intro he_7 he_8 hw
    have h_6 := hw
    clear hw
    have he_7 := he_7.symm
    subst he_7
    subst he_8
    refine ww_eq (ws' := [(hm, .inr (12, [.ref m_manys, .ref m_reals, .ref m_factsOf, .ref m_possible, .int (nI q_undos), .int (nI q_models), .ref m_tape, .int (nI q_taped), .int q_fault, .int q_wrong, .int q_wrongAt, .int q_spot, .int q_place, .int q_token, .int q_value, .ref m_ends, .ref m_letters, .ref m_actOf, .ref m_whom, .ref m_actMany, .ref m_tokens, .ref m_afters, .ref m_afterOf, .int q_counted, .ref m_pile, .ref m_caseMany, .ref m_happen, .ref m_hasIf, .ref m_becomes, .ref m_goneOf, .ref m_heard, .ref m_pairs, .ref m_heaps, .int q_rounds, .int q_heapMany, .ref m_led, .ref m_newAt, .ref m_knowing, .ref m_firsts, .int (nI q_people), .ref m_secrets, .ref m_tried, .ref m_lanes, .ref m_lengths, .ref m_cells])), (m_manys, .inl (E.2.1 1, 18, .inl f_manys)), (m_reals, .inl (E.2.1 1, 18, .inl f_reals)), (m_factsOf, .inl (E.2.1 1, 432, .inl f_factsOf)), (m_possible, .inl (E.2.1 1, 1728, .inl f_possible))]) ?_ rfl rfl rfl
    refine ww_if_ne_f (tgt := 14) C dX12_blind_9 (by decide) (rfl) ?_
    refine ww_iconst (v := (-1)) C dX12_blind_12 rfl ?_
    exact ww_iret (u := [(hm, .inr (12, [.ref m_manys, .ref m_reals, .ref m_factsOf, .ref m_possible, .int (nI q_undos), .int (nI q_models), .ref m_tape, .int (nI q_taped), .int q_fault, .int q_wrong, .int q_wrongAt, .int q_spot, .int q_place, .int q_token, .int q_value, .ref m_ends, .ref m_letters, .ref m_actOf, .ref m_whom, .ref m_actMany, .ref m_tokens, .ref m_afters, .ref m_afterOf, .int q_counted, .ref m_pile, .ref m_caseMany, .ref m_happen, .ref m_hasIf, .ref m_becomes, .ref m_goneOf, .ref m_heard, .ref m_pairs, .ref m_heaps, .int q_rounds, .int q_heapMany, .ref m_led, .ref m_newAt, .ref m_knowing, .ref m_firsts, .int (nI q_people), .ref m_secrets, .ref m_tried, .ref m_lanes, .ref m_lengths, .ref m_cells])), (m_manys, .inl (E.2.1 1, 18, .inl f_manys)), (m_reals, .inl (E.2.1 1, 18, .inl f_reals)), (m_factsOf, .inl (E.2.1 1, 432, .inl f_factsOf)), (m_possible, .inl (E.2.1 1, 1728, .inl f_possible))]) C hT [0, 1, 2, 3, 4] rfl rfl rfl rfl dX12_blind_13 (⟨q_undos, f_manys, f_reals, f_factsOf, f_possible, rfl, hb_manys, hb_reals, hpg, hwf, (by omega), (by show _ = if v0.toInt < 0 ∨ 65535 < v0.toInt then ((asM q_undos (pgs f_manys f_reals f_factsOf f_possible)), -1) else (aRem (asM q_undos (pgs f_manys f_reals f_factsOf f_possible)) (aBlind (pgs f_manys f_reals f_factsOf f_possible 0) v0), nI (cBl (cN f_manys 0) (pgs f_manys f_reals f_factsOf f_possible 0).2.2.1 v0)); rw [if_pos (show v0.toInt < 0 ∨ 65535 < v0.toInt by omega)]), KP6.rf⟩)
theorem dX12_real_0 : decode cX12_real 0 = .ok (.aload_n 0, 1) := dl_42 (by decide +kernel)
theorem dX12_real_1 : decode cX12_real 1 = .ok (.iload_n 1, 1) := dl_27 (by decide +kernel)
theorem dX12_real_2 : decode cX12_real 2 = .ok (.invokevirtual 132, 3) := dl_182 (by decide +kernel)
theorem dX12_real_5 : decode cX12_real 5 = .ok (.ifCond .ne 5, 3) := dl_154 (by decide +kernel)
theorem dX12_real_10 : decode cX12_real 10 = .ok (.aload_n 0, 1) := dl_42 (by decide +kernel)
theorem dX12_real_11 : decode cX12_real 11 = .ok (.invokevirtual 121, 3) := dl_182 (by decide +kernel)
theorem dX12_real_14 : decode cX12_real 14 = .ok (.aload_n 0, 1) := dl_42 (by decide +kernel)
theorem dX12_real_15 : decode cX12_real 15 = .ok (.getfield 13, 3) := dl_180 (by decide +kernel)
theorem dX12_real_18 : decode cX12_real 18 = .ok (.iconst 0, 1) := dl_3 (by decide +kernel)
theorem dX12_real_19 : decode cX12_real 19 = .ok (.iaload, 1) := dl_46 (by decide +kernel)
theorem dX12_real_20 : decode cX12_real 20 = .ok (.istore_n 2, 1) := dl_61 (by decide +kernel)
theorem dX12_real_21 : decode cX12_real 21 = .ok (.aload_n 0, 1) := dl_42 (by decide +kernel)
theorem dX12_real_22 : decode cX12_real 22 = .ok (.getfield 13, 3) := dl_180 (by decide +kernel)
theorem dX12_real_25 : decode cX12_real 25 = .ok (.iconst 0, 1) := dl_3 (by decide +kernel)
theorem dX12_real_26 : decode cX12_real 26 = .ok (.iload_n 1, 1) := dl_27 (by decide +kernel)
theorem dX12_real_27 : decode cX12_real 27 = .ok (.iastore, 1) := dl_79 (by decide +kernel)
theorem dX12_real_28 : decode cX12_real 28 = .ok (.iload_n 2, 1) := dl_28 (by decide +kernel)
theorem dX12_real_29 : decode cX12_real 29 = .ok (.ireturn, 1) := dl_172 (by decide +kernel)
theorem dX12_real_8 : decode cX12_real 8 = .ok (.iconst (-1), 1) := dl_2 (by decide +kernel)
theorem dX12_real_9 : decode cX12_real 9 = .ok (.ireturn, 1) := dl_172 (by decide +kernel)
set_option maxRecDepth 100000 in
set_option maxHeartbeats 4000000 in
theorem y_real (l : Launch) (E : EV) (ro : va_W) (hm : Nat) (v0 : Int32) (m_manys : Nat) (m_reals : Nat) (m_factsOf : Nat) (m_possible : Nat) (q_undos : Nat) (q_models : Nat) (m_tape : Nat) (q_taped : Nat) (q_fault : Int32) (q_wrong : Int32) (q_wrongAt : Int32) (q_spot : Int32) (q_place : Int32) (q_token : Int32) (q_value : Int32) (m_ends : Nat) (m_letters : Nat) (m_actOf : Nat) (m_whom : Nat) (m_actMany : Nat) (m_tokens : Nat) (m_afters : Nat) (m_afterOf : Nat) (q_counted : Int32) (m_pile : Nat) (m_caseMany : Nat) (m_happen : Nat) (m_hasIf : Nat) (m_becomes : Nat) (m_goneOf : Nat) (m_heard : Nat) (m_pairs : Nat) (m_heaps : Nat) (q_rounds : Int32) (q_heapMany : Int32) (m_led : Nat) (m_newAt : Nat) (m_knowing : Nat) (m_firsts : Nat) (q_people : Nat) (m_secrets : Nat) (m_tried : Nat) (m_lanes : Nat) (m_lengths : Nat) (m_cells : Nat) (f_manys : Nat → Int32) (f_reals : Nat → Int32) (f_factsOf : Nat → Int32) (f_possible : Nat → Int32) (hb_manys : NB 18 24 f_manys) (hb_reals : NB 18 23 f_reals) (hpg : PG f_manys f_reals) (hwf : WFP (pgs f_manys f_reals f_factsOf f_possible)) (hq_undos : q_undos ≤ 8) : CT l yX12_real (Cond.code yX12_real cX12_real 3 (some .int) :: TB) ({ frames := 2, cells := 0, slots := 0, locals := 46 }) E ro [.ref hm, .int v0] [(hm, .inr (12, [.ref m_manys, .ref m_reals, .ref m_factsOf, .ref m_possible, .int (nI q_undos), .int (nI q_models), .ref m_tape, .int (nI q_taped), .int q_fault, .int q_wrong, .int q_wrongAt, .int q_spot, .int q_place, .int q_token, .int q_value, .ref m_ends, .ref m_letters, .ref m_actOf, .ref m_whom, .ref m_actMany, .ref m_tokens, .ref m_afters, .ref m_afterOf, .int q_counted, .ref m_pile, .ref m_caseMany, .ref m_happen, .ref m_hasIf, .ref m_becomes, .ref m_goneOf, .ref m_heard, .ref m_pairs, .ref m_heaps, .int q_rounds, .int q_heapMany, .ref m_led, .ref m_newAt, .ref m_knowing, .ref m_firsts, .int (nI q_people), .ref m_secrets, .ref m_tried, .ref m_lanes, .ref m_lengths, .ref m_cells])), (m_manys, .inl (E.2.1 1, 18, .inl f_manys)), (m_reals, .inl (E.2.1 1, 18, .inl f_reals)), (m_factsOf, .inl (E.2.1 1, 432, .inl f_factsOf)), (m_possible, .inl (E.2.1 1, 1728, .inl f_possible))] (Qi E (fun (rz : Int32) uz => (∃ (uz_ : Nat) (f_manysz : Nat → Int32) (f_realsz : Nat → Int32) (f_factsOfz : Nat → Int32) (f_possiblez : Nat → Int32), uz = [(hm, .inr (12, [.ref m_manys, .ref m_reals, .ref m_factsOf, .ref m_possible, .int (nI uz_), .int (nI q_models), .ref m_tape, .int (nI q_taped), .int q_fault, .int q_wrong, .int q_wrongAt, .int q_spot, .int q_place, .int q_token, .int q_value, .ref m_ends, .ref m_letters, .ref m_actOf, .ref m_whom, .ref m_actMany, .ref m_tokens, .ref m_afters, .ref m_afterOf, .int q_counted, .ref m_pile, .ref m_caseMany, .ref m_happen, .ref m_hasIf, .ref m_becomes, .ref m_goneOf, .ref m_heard, .ref m_pairs, .ref m_heaps, .int q_rounds, .int q_heapMany, .ref m_led, .ref m_newAt, .ref m_knowing, .ref m_firsts, .int (nI q_people), .ref m_secrets, .ref m_tried, .ref m_lanes, .ref m_lengths, .ref m_cells])), (m_manys, .inl (E.2.1 1, 18, .inl f_manysz)), (m_reals, .inl (E.2.1 1, 18, .inl f_realsz)), (m_factsOf, .inl (E.2.1 1, 432, .inl f_factsOfz)), (m_possible, .inl (E.2.1 1, 1728, .inl f_possiblez))] ∧ (NB 18 24 f_manysz) ∧ (NB 18 23 f_realsz) ∧ (PG f_manysz f_realsz) ∧ (WFP (pgs f_manysz f_realsz f_factsOfz f_possiblez)) ∧ (uz_ ≤ 8) ∧ ((asM uz_ (pgs f_manysz f_realsz f_factsOfz f_possiblez), rz) = opReal (asM q_undos (pgs f_manys f_reals f_factsOf f_possible)) v0) ∧ (KP6 (pgs f_manys f_reals f_factsOf f_possible) (pgs f_manysz f_realsz f_factsOfz f_possiblez))))) 0 0 := by
  refine ct_of rfl rfl ?_
  intro X C hT hin hro
  show WW X 3 E 0 [(0, .ref hm), (1, .int v0)] [] [(hm, .inr (12, [.ref m_manys, .ref m_reals, .ref m_factsOf, .ref m_possible, .int (nI q_undos), .int (nI q_models), .ref m_tape, .int (nI q_taped), .int q_fault, .int q_wrong, .int q_wrongAt, .int q_spot, .int q_place, .int q_token, .int q_value, .ref m_ends, .ref m_letters, .ref m_actOf, .ref m_whom, .ref m_actMany, .ref m_tokens, .ref m_afters, .ref m_afterOf, .int q_counted, .ref m_pile, .ref m_caseMany, .ref m_happen, .ref m_hasIf, .ref m_becomes, .ref m_goneOf, .ref m_heard, .ref m_pairs, .ref m_heaps, .int q_rounds, .int q_heapMany, .ref m_led, .ref m_newAt, .ref m_knowing, .ref m_firsts, .int (nI q_people), .ref m_secrets, .ref m_tried, .ref m_lanes, .ref m_lengths, .ref m_cells])), (m_manys, .inl (E.2.1 1, 18, .inl f_manys)), (m_reals, .inl (E.2.1 1, 18, .inl f_reals)), (m_factsOf, .inl (E.2.1 1, 432, .inl f_factsOf)), (m_possible, .inl (E.2.1 1, 1728, .inl f_possible))] 0 0
  have hmn0 := (hb_manys 0 (by omega)).2
  refine ww_aload_n C dX12_real_0 0 rfl rfl ?_
  refine ww_iload_n C dX12_real_1 1 rfl rfl ?_
  refine ww_ci (wr := [(m_reals, .inl (E.2.1 1, 18, .inl f_reals)), (m_factsOf, .inl (E.2.1 1, 432, .inl f_factsOf)), (m_possible, .inl (E.2.1 1, 1728, .inl f_possible))]) (k' := 0) (n' := 0) C (run_V (As := [.int v0]) (rest := []) C (r_isWorld X.2.1 E ro hm v0 m_manys m_reals m_factsOf m_possible q_undos q_models m_tape q_taped q_fault q_wrong q_wrongAt q_spot q_place q_token q_value m_ends m_letters m_actOf m_whom m_actMany m_tokens m_afters m_afterOf q_counted m_pile m_caseMany m_happen m_hasIf m_becomes m_goneOf m_heard m_pairs m_heaps q_rounds q_heapMany m_led m_newAt m_knowing m_firsts q_people m_secrets m_tried m_lanes m_lengths m_cells f_manys hb_manys) mi_X12_isWorld wl_X12_132 rfl 0 12 rfl rfl rfl rfl rfl dX12_real_2) (roK hro) [0, 1] [2, 3, 4] rfl rfl rfl rfl (fun r_1 uz hw => ?_)
  rcases hw with hw | hw
  · refine an3 hw ?_
    clear hw
    intro he_4 he_5 h_2 hw
    have h_3 := hw
    clear hw
    have he_4 := he_4.symm
    subst he_4
    subst he_5
    refine ww_eq (ws' := [(m_reals, .inl (E.2.1 1, 18, .inl f_reals)), (m_factsOf, .inl (E.2.1 1, 432, .inl f_factsOf)), (m_possible, .inl (E.2.1 1, 1728, .inl f_possible)), (hm, .inr (12, [.ref m_manys, .ref m_reals, .ref m_factsOf, .ref m_possible, .int (nI q_undos), .int (nI q_models), .ref m_tape, .int (nI q_taped), .int q_fault, .int q_wrong, .int q_wrongAt, .int q_spot, .int q_place, .int q_token, .int q_value, .ref m_ends, .ref m_letters, .ref m_actOf, .ref m_whom, .ref m_actMany, .ref m_tokens, .ref m_afters, .ref m_afterOf, .int q_counted, .ref m_pile, .ref m_caseMany, .ref m_happen, .ref m_hasIf, .ref m_becomes, .ref m_goneOf, .ref m_heard, .ref m_pairs, .ref m_heaps, .int q_rounds, .int q_heapMany, .ref m_led, .ref m_newAt, .ref m_knowing, .ref m_firsts, .int (nI q_people), .ref m_secrets, .ref m_tried, .ref m_lanes, .ref m_lengths, .ref m_cells])), (m_manys, .inl (E.2.1 1, 18, .inl f_manys))]) ?_ rfl rfl rfl
    refine ww_if_ne_t (tgt := 10) C dX12_real_5 (by decide) (by decide) ?_
    obtain ⟨j_9, hj_9, rfl⟩ := i_nat (x := v0) (N := 24) (by omega) (by omega)
    have hzj_9 := nI_toInt (n := j_9) (by omega)
    refine ww_aload_n C dX12_real_10 0 rfl rfl ?_
    refine ww_cv (wr := []) (k' := 0) (n' := 0) C (run_V (As := []) (rest := []) C (r_acts X.2.1 E ro hm m_manys m_reals m_factsOf m_possible q_undos q_models m_tape q_taped q_fault q_wrong q_wrongAt q_spot q_place q_token q_value m_ends m_letters m_actOf m_whom m_actMany m_tokens m_afters m_afterOf q_counted m_pile m_caseMany m_happen m_hasIf m_becomes m_goneOf m_heard m_pairs m_heaps q_rounds q_heapMany m_led m_newAt m_knowing m_firsts q_people m_secrets m_tried m_lanes m_lengths m_cells f_manys f_reals f_factsOf f_possible hb_manys hb_reals hpg hwf (by omega)) mi_X12_acts wl_X12_121 rfl 0 12 rfl rfl rfl rfl rfl dX12_real_11) (roK hro) [3, 4, 0, 1, 2] [] rfl rfl rfl rfl (fun uz hw => ?_)
    refine ex5 hw ?_
    clear hw
    intro uz__11 f_manysz_12 f_realsz_13 f_factsOfz_14 f_possiblez_15 hw
    refine an8 hw ?_
    clear hw
    intro he_26 h_16 h_17 h_18 h_19 h_20 h_21 h_22 hw
    refine an2 hw ?_
    clear hw
    intro h_23 h_24 hw
    have h_25 := hw
    clear hw
    subst he_26
    refine ww_eq (ws' := [(hm, .inr (12, [.ref m_manys, .ref m_reals, .ref m_factsOf, .ref m_possible, .int (nI uz__11), .int (nI q_models), .ref m_tape, .int (nI q_taped), .int q_fault, .int q_wrong, .int q_wrongAt, .int q_spot, .int q_place, .int q_token, .int q_value, .ref m_ends, .ref m_letters, .ref m_actOf, .ref m_whom, .ref m_actMany, .ref m_tokens, .ref m_afters, .ref m_afterOf, .int q_counted, .ref m_pile, .ref m_caseMany, .ref m_happen, .ref m_hasIf, .ref m_becomes, .ref m_goneOf, .ref m_heard, .ref m_pairs, .ref m_heaps, .int q_rounds, .int q_heapMany, .ref m_led, .ref m_newAt, .ref m_knowing, .ref m_firsts, .int (nI q_people), .ref m_secrets, .ref m_tried, .ref m_lanes, .ref m_lengths, .ref m_cells])), (m_manys, .inl (E.2.1 1, 18, .inl f_manysz_12)), (m_reals, .inl (E.2.1 1, 18, .inl f_realsz_13)), (m_factsOf, .inl (E.2.1 1, 432, .inl f_factsOfz_14)), (m_possible, .inl (E.2.1 1, 1728, .inl f_possiblez_15))]) ?_ rfl rfl rfl
    have hk0_k_27 := KP.at h_21 (p := 0) (by omega)
    refine ww_aload_n C dX12_real_14 0 rfl rfl ?_
    refine ww_get C fg_X12_13 0 rfl rfl dX12_real_15 ?_
    refine ww_iconst (v := 0) C dX12_real_18 rfl ?_
    have hbx_28 := (h_17 0 (by omega)).2
    refine ww_iald (v := (nI (cN f_realsz_13 0))) C 2 rfl (vin rfl) (h_17 0 (by omega)).1 dX12_real_19 ?_
    refine ww_istore_n (lv' := [(2, .int (nI (cN f_realsz_13 0))), (0, .ref hm), (1, .int (nI j_9))]) C dX12_real_20 rfl rfl rfl ?_
    refine ww_aload_n C dX12_real_21 1 rfl rfl ?_
    refine ww_get C fg_X12_13 0 rfl rfl dX12_real_22 ?_
    refine ww_iconst (v := 0) C dX12_real_25 rfl ?_
    refine ww_iload_n C dX12_real_26 2 rfl rfl ?_
    obtain ⟨f_29, ef_29⟩ : ∃ z : Nat → Int32, upd f_realsz_13 0 (nI j_9) = z := ⟨_, rfl⟩
    refine ww_iast (ws' := [(hm, .inr (12, [.ref m_manys, .ref m_reals, .ref m_factsOf, .ref m_possible, .int (nI uz__11), .int (nI q_models), .ref m_tape, .int (nI q_taped), .int q_fault, .int q_wrong, .int q_wrongAt, .int q_spot, .int q_place, .int q_token, .int q_value, .ref m_ends, .ref m_letters, .ref m_actOf, .ref m_whom, .ref m_actMany, .ref m_tokens, .ref m_afters, .ref m_afterOf, .int q_counted, .ref m_pile, .ref m_caseMany, .ref m_happen, .ref m_hasIf, .ref m_becomes, .ref m_goneOf, .ref m_heard, .ref m_pairs, .ref m_heaps, .int q_rounds, .int q_heapMany, .ref m_led, .ref m_newAt, .ref m_knowing, .ref m_firsts, .int (nI q_people), .ref m_secrets, .ref m_tried, .ref m_lanes, .ref m_lengths, .ref m_cells])), (m_manys, .inl (E.2.1 1, 18, .inl f_manysz_12)), (m_reals, .inl (E.2.1 1, 18, .inl f_29)), (m_factsOf, .inl (E.2.1 1, 432, .inl f_factsOfz_14)), (m_possible, .inl (E.2.1 1, 1728, .inl f_possiblez_15))]) C 2 rfl (vin rfl) ef_29 rfl dX12_real_27 ?_
    refine ww_iload_n C dX12_real_28 0 rfl rfl ?_
    exact ww_iret (u := [(hm, .inr (12, [.ref m_manys, .ref m_reals, .ref m_factsOf, .ref m_possible, .int (nI uz__11), .int (nI q_models), .ref m_tape, .int (nI q_taped), .int q_fault, .int q_wrong, .int q_wrongAt, .int q_spot, .int q_place, .int q_token, .int q_value, .ref m_ends, .ref m_letters, .ref m_actOf, .ref m_whom, .ref m_actMany, .ref m_tokens, .ref m_afters, .ref m_afterOf, .int q_counted, .ref m_pile, .ref m_caseMany, .ref m_happen, .ref m_hasIf, .ref m_becomes, .ref m_goneOf, .ref m_heard, .ref m_pairs, .ref m_heaps, .int q_rounds, .int q_heapMany, .ref m_led, .ref m_newAt, .ref m_knowing, .ref m_firsts, .int (nI q_people), .ref m_secrets, .ref m_tried, .ref m_lanes, .ref m_lengths, .ref m_cells])), (m_manys, .inl (E.2.1 1, 18, .inl f_manysz_12)), (m_reals, .inl (E.2.1 1, 18, .inl f_29)), (m_factsOf, .inl (E.2.1 1, 432, .inl f_factsOfz_14)), (m_possible, .inl (E.2.1 1, 1728, .inl f_possiblez_15))]) C hT [0, 1, 2, 3, 4] rfl rfl rfl rfl dX12_real_29 (⟨uz__11, f_manysz_12, f_29, f_factsOfz_14, f_possiblez_15, rfl, h_16, (NB.put h_17 (t := j_9) (by omega) (by decide) ef_29), (PG.put2 (b := j_9) h_18 ef_29 (by omega) (by omega)), (WFP.at (REMS.wf h_25 hwf) (pg_real h_16 (by omega) ef_29).2 (by rw [((pg_real h_16 (by omega) ef_29).1.trans (congrArg (fun z => aReal z j_9) (REMS.p0 h_25)))]; exact (fun k w v h => hwf 0 (by omega) k w v h))), (by omega), (by show _ = if (nI j_9).toInt < 0 ∨ ((cN f_manys 0) : Int) ≤ (nI j_9).toInt then ((asM q_undos (pgs f_manys f_reals f_factsOf f_possible)), -1) else (aRem (asM q_undos (pgs f_manys f_reals f_factsOf f_possible)) (aReal (pgs f_manys f_reals f_factsOf f_possible 0) (tN (nI j_9))), nI (cN f_reals 0)); rw [if_neg (show ¬ ((nI j_9).toInt < 0 ∨ ((cN f_manys 0) : Int) ≤ (nI j_9).toInt) by omega)]; exact Prod.ext (rm_end hq_undos h_25 (OTH.hi (pg_real h_16 (by omega) ef_29).2 (by omega)) (by rw [tN_n (n := j_9) (by omega)]; exact ((pg_real h_16 (by omega) ef_29).1.trans (congrArg (fun z => aReal z j_9) (REMS.p0 h_25))))) (by show nI (cN f_realsz_13 0) = nI (cN f_reals 0); rw [KP.at h_22 (p := 0) (by omega)])), (KP6.rem h_25 (OTH.hi (pg_real h_16 (by omega) ef_29).2 (by omega)))⟩)
  · refine an2 hw ?_
    clear hw
    intro he_7 he_8 hw
    have h_6 := hw
    clear hw
    have he_7 := he_7.symm
    subst he_7
    subst he_8
    refine ww_eq (ws' := [(m_reals, .inl (E.2.1 1, 18, .inl f_reals)), (m_factsOf, .inl (E.2.1 1, 432, .inl f_factsOf)), (m_possible, .inl (E.2.1 1, 1728, .inl f_possible)), (hm, .inr (12, [.ref m_manys, .ref m_reals, .ref m_factsOf, .ref m_possible, .int (nI q_undos), .int (nI q_models), .ref m_tape, .int (nI q_taped), .int q_fault, .int q_wrong, .int q_wrongAt, .int q_spot, .int q_place, .int q_token, .int q_value, .ref m_ends, .ref m_letters, .ref m_actOf, .ref m_whom, .ref m_actMany, .ref m_tokens, .ref m_afters, .ref m_afterOf, .int q_counted, .ref m_pile, .ref m_caseMany, .ref m_happen, .ref m_hasIf, .ref m_becomes, .ref m_goneOf, .ref m_heard, .ref m_pairs, .ref m_heaps, .int q_rounds, .int q_heapMany, .ref m_led, .ref m_newAt, .ref m_knowing, .ref m_firsts, .int (nI q_people), .ref m_secrets, .ref m_tried, .ref m_lanes, .ref m_lengths, .ref m_cells])), (m_manys, .inl (E.2.1 1, 18, .inl f_manys))]) ?_ rfl rfl rfl
    refine ww_if_ne_f (tgt := 10) C dX12_real_5 (by decide) (rfl) ?_
    refine ww_iconst (v := (-1)) C dX12_real_8 rfl ?_
    exact ww_iret (u := [(hm, .inr (12, [.ref m_manys, .ref m_reals, .ref m_factsOf, .ref m_possible, .int (nI q_undos), .int (nI q_models), .ref m_tape, .int (nI q_taped), .int q_fault, .int q_wrong, .int q_wrongAt, .int q_spot, .int q_place, .int q_token, .int q_value, .ref m_ends, .ref m_letters, .ref m_actOf, .ref m_whom, .ref m_actMany, .ref m_tokens, .ref m_afters, .ref m_afterOf, .int q_counted, .ref m_pile, .ref m_caseMany, .ref m_happen, .ref m_hasIf, .ref m_becomes, .ref m_goneOf, .ref m_heard, .ref m_pairs, .ref m_heaps, .int q_rounds, .int q_heapMany, .ref m_led, .ref m_newAt, .ref m_knowing, .ref m_firsts, .int (nI q_people), .ref m_secrets, .ref m_tried, .ref m_lanes, .ref m_lengths, .ref m_cells])), (m_manys, .inl (E.2.1 1, 18, .inl f_manys)), (m_reals, .inl (E.2.1 1, 18, .inl f_reals)), (m_factsOf, .inl (E.2.1 1, 432, .inl f_factsOf)), (m_possible, .inl (E.2.1 1, 1728, .inl f_possible))]) C hT [3, 4, 0, 1, 2] rfl rfl rfl rfl dX12_real_9 (⟨q_undos, f_manys, f_reals, f_factsOf, f_possible, rfl, hb_manys, hb_reals, hpg, hwf, (by omega), (by show _ = if v0.toInt < 0 ∨ ((cN f_manys 0) : Int) ≤ v0.toInt then ((asM q_undos (pgs f_manys f_reals f_factsOf f_possible)), -1) else (aRem (asM q_undos (pgs f_manys f_reals f_factsOf f_possible)) (aReal (pgs f_manys f_reals f_factsOf f_possible 0) (tN v0)), nI (cN f_reals 0)); rw [if_pos (show v0.toInt < 0 ∨ ((cN f_manys 0) : Int) ≤ v0.toInt by omega)]), KP6.rf⟩)
theorem of_r {fm fr ff fp : Nat → Int32} {w k : Nat} (hw : w < cN fm 0) : (decide (k < 4) && decide (fp (96 * 0 + 24 * k + w) = 0)) = (decide (k < 4) && !anyN ((pgs fm fr ff fp 0).2.2.2 k w) 32) := by
  by_cases hk : k < 4
  · rw [decide_eq_true hk, Bool.true_and, Bool.true_and, row_z]
    congr 1
    exact anyN_cg (fun i _ => (pg_S hk hw).symm)
  · rw [decide_eq_false hk, Bool.false_and, Bool.false_and]
theorem dX12_of_0 : decode cX12_of 0 = .ok (.aload_n 0, 1) := dl_42 (by decide +kernel)
theorem dX12_of_1 : decode cX12_of 1 = .ok (.iload_n 1, 1) := dl_27 (by decide +kernel)
theorem dX12_of_2 : decode cX12_of 2 = .ok (.invokevirtual 132, 3) := dl_182 (by decide +kernel)
theorem dX12_of_5 : decode cX12_of 5 = .ok (.ifCond .ne 5, 3) := dl_154 (by decide +kernel)
theorem dX12_of_10 : decode cX12_of 10 = .ok (.iload_n 2, 1) := dl_28 (by decide +kernel)
theorem dX12_of_11 : decode cX12_of 11 = .ok (.i2l, 1) := dl_133 (by decide +kernel)
theorem dX12_of_12 : decode cX12_of 12 = .ok (.lconst 1, 1) := dl_10 (by decide +kernel)
theorem dX12_of_13 : decode cX12_of 13 = .ok (.ldc2_w 149, 3) := dl_20 (by decide +kernel)
theorem wv_X12_149 : Cond.constantLong RX12 149 4 ∈ TB := tbm (tq6 (List.mem_of_getElem? (i := 31) (by decide +kernel))) (by decide +kernel)
theorem dX12_of_16 : decode cX12_of 16 = .ok (.invokestatic 115, 3) := dl_184 (by decide +kernel)
theorem dX12_of_19 : decode cX12_of 19 = .ok (.ifCond .eq 13, 3) := dl_153 (by decide +kernel)
theorem dX12_of_22 : decode cX12_of 22 = .ok (.aload_n 0, 1) := dl_42 (by decide +kernel)
theorem dX12_of_23 : decode cX12_of 23 = .ok (.iconst 0, 1) := dl_3 (by decide +kernel)
theorem dX12_of_24 : decode cX12_of 24 = .ok (.iload_n 2, 1) := dl_28 (by decide +kernel)
theorem dX12_of_25 : decode cX12_of 25 = .ok (.iconst 1, 1) := dl_4 (by decide +kernel)
theorem dX12_of_26 : decode cX12_of 26 = .ok (.isub, 1) := dl_100 (by decide +kernel)
theorem dX12_of_27 : decode cX12_of 27 = .ok (.iload_n 1, 1) := dl_27 (by decide +kernel)
theorem dX12_of_28 : decode cX12_of 28 = .ok (.invokevirtual 135, 3) := dl_182 (by decide +kernel)
theorem dX12_of_31 : decode cX12_of 31 = .ok (.ireturn, 1) := dl_172 (by decide +kernel)
theorem dX12_of_32 : decode cX12_of 32 = .ok (.iconst 0, 1) := dl_3 (by decide +kernel)
theorem dX12_of_33 : decode cX12_of 33 = .ok (.istore_n 3, 1) := dl_62 (by decide +kernel)
theorem dX12_of_34 : decode cX12_of 34 = .ok (.iconst 0, 1) := dl_3 (by decide +kernel)
theorem dX12_of_35 : decode cX12_of 35 = .ok (.istore 4, 2) := dl_54 (by decide +kernel)
theorem dX12_of_37 : decode cX12_of 37 = .ok (.iload 4, 2) := dl_21 (by decide +kernel)
theorem dX12_of_39 : decode cX12_of 39 = .ok (.iconst 4, 1) := dl_7 (by decide +kernel)
theorem dX12_of_40 : decode cX12_of 40 = .ok (.if_icmp .ge 31, 3) := dl_162 (by decide +kernel)
theorem dX12_of_71 : decode cX12_of 71 = .ok (.iload_n 2, 1) := dl_28 (by decide +kernel)
theorem dX12_of_72 : decode cX12_of 72 = .ok (.ifCond .ne 12, 3) := dl_154 (by decide +kernel)
theorem dX12_of_84 : decode cX12_of 84 = .ok (.iload_n 2, 1) := dl_28 (by decide +kernel)
theorem dX12_of_85 : decode cX12_of 85 = .ok (.iconst 5, 1) := dl_8 (by decide +kernel)
theorem dX12_of_86 : decode cX12_of 86 = .ok (.if_icmp .ne 21, 3) := dl_160 (by decide +kernel)
theorem dX12_of_107 : decode cX12_of 107 = .ok (.iload_n 2, 1) := dl_28 (by decide +kernel)
theorem dX12_of_108 : decode cX12_of 108 = .ok (.bipush 6, 2) := dl_16 (by decide +kernel)
theorem dX12_of_110 : decode cX12_of 110 = .ok (.if_icmp .ne 7, 3) := dl_160 (by decide +kernel)
theorem dX12_of_117 : decode cX12_of 117 = .ok (.iconst (-1), 1) := dl_2 (by decide +kernel)
theorem dX12_of_118 : decode cX12_of 118 = .ok (.ireturn, 1) := dl_172 (by decide +kernel)
theorem dX12_of_113 : decode cX12_of 113 = .ok (.iload_n 3, 1) := dl_29 (by decide +kernel)
theorem dX12_of_114 : decode cX12_of 114 = .ok (.goto 4, 3) := dl_167 (by decide +kernel)
theorem dX12_of_89 : decode cX12_of 89 = .ok (.aload_n 0, 1) := dl_42 (by decide +kernel)
theorem dX12_of_90 : decode cX12_of 90 = .ok (.getfield 13, 3) := dl_180 (by decide +kernel)
theorem dX12_of_93 : decode cX12_of 93 = .ok (.iconst 0, 1) := dl_3 (by decide +kernel)
theorem dX12_of_94 : decode cX12_of 94 = .ok (.iaload, 1) := dl_46 (by decide +kernel)
theorem dX12_of_95 : decode cX12_of 95 = .ok (.iload_n 1, 1) := dl_27 (by decide +kernel)
theorem dX12_of_96 : decode cX12_of 96 = .ok (.if_icmp .ne 7, 3) := dl_160 (by decide +kernel)
theorem dX12_of_103 : decode cX12_of 103 = .ok (.iconst 0, 1) := dl_3 (by decide +kernel)
theorem dX12_of_104 : decode cX12_of 104 = .ok (.goto 14, 3) := dl_167 (by decide +kernel)
theorem dX12_of_99 : decode cX12_of 99 = .ok (.iconst 1, 1) := dl_4 (by decide +kernel)
theorem dX12_of_100 : decode cX12_of 100 = .ok (.goto 18, 3) := dl_167 (by decide +kernel)
theorem dX12_of_75 : decode cX12_of 75 = .ok (.aload_n 0, 1) := dl_42 (by decide +kernel)
theorem dX12_of_76 : decode cX12_of 76 = .ok (.getfield 16, 3) := dl_180 (by decide +kernel)
theorem dX12_of_79 : decode cX12_of 79 = .ok (.iload_n 1, 1) := dl_27 (by decide +kernel)
theorem dX12_of_80 : decode cX12_of 80 = .ok (.iaload, 1) := dl_46 (by decide +kernel)
theorem dX12_of_81 : decode cX12_of 81 = .ok (.goto 37, 3) := dl_167 (by decide +kernel)
theorem dX12_of_43 : decode cX12_of 43 = .ok (.iload_n 3, 1) := dl_29 (by decide +kernel)
theorem dX12_of_44 : decode cX12_of 44 = .ok (.aload_n 0, 1) := dl_42 (by decide +kernel)
theorem dX12_of_45 : decode cX12_of 45 = .ok (.iconst 0, 1) := dl_3 (by decide +kernel)
theorem dX12_of_46 : decode cX12_of 46 = .ok (.iload 4, 2) := dl_21 (by decide +kernel)
theorem dX12_of_48 : decode cX12_of 48 = .ok (.iload_n 1, 1) := dl_27 (by decide +kernel)
theorem dX12_of_49 : decode cX12_of 49 = .ok (.invokevirtual 135, 3) := dl_182 (by decide +kernel)
theorem dX12_of_52 : decode cX12_of 52 = .ok (.ifCond .ne 10, 3) := dl_154 (by decide +kernel)
theorem dX12_of_62 : decode cX12_of 62 = .ok (.iconst 0, 1) := dl_3 (by decide +kernel)
theorem dX12_of_63 : decode cX12_of 63 = .ok (.ior, 1) := dl_128 (by decide +kernel)
theorem dX12_of_64 : decode cX12_of 64 = .ok (.istore_n 3, 1) := dl_62 (by decide +kernel)
theorem dX12_of_65 : decode cX12_of 65 = .ok (.iinc 4 1, 3) := dl_132 (by decide +kernel)
theorem dX12_of_68 : decode cX12_of 68 = .ok (.goto (-31), 3) := dl_167 (by decide +kernel)
theorem dX12_of_55 : decode cX12_of 55 = .ok (.iconst 1, 1) := dl_4 (by decide +kernel)
theorem dX12_of_56 : decode cX12_of 56 = .ok (.iload 4, 2) := dl_21 (by decide +kernel)
theorem dX12_of_58 : decode cX12_of 58 = .ok (.ishl, 1) := dl_120 (by decide +kernel)
theorem dX12_of_59 : decode cX12_of 59 = .ok (.goto 4, 3) := dl_167 (by decide +kernel)
theorem dX12_of_8 : decode cX12_of 8 = .ok (.iconst (-1), 1) := dl_2 (by decide +kernel)
theorem dX12_of_9 : decode cX12_of 9 = .ok (.ireturn, 1) := dl_172 (by decide +kernel)
set_option maxRecDepth 100000 in
set_option maxHeartbeats 4000000 in
theorem y_of (l : Launch) (E : EV) (ro : va_W) (hm : Nat) (v0 : Int32) (v1 : Int32) (m_manys : Nat) (m_reals : Nat) (m_factsOf : Nat) (m_possible : Nat) (q_undos : Nat) (q_models : Nat) (m_tape : Nat) (q_taped : Nat) (q_fault : Int32) (q_wrong : Int32) (q_wrongAt : Int32) (q_spot : Int32) (q_place : Int32) (q_token : Int32) (q_value : Int32) (m_ends : Nat) (m_letters : Nat) (m_actOf : Nat) (m_whom : Nat) (m_actMany : Nat) (m_tokens : Nat) (m_afters : Nat) (m_afterOf : Nat) (q_counted : Int32) (m_pile : Nat) (m_caseMany : Nat) (m_happen : Nat) (m_hasIf : Nat) (m_becomes : Nat) (m_goneOf : Nat) (m_heard : Nat) (m_pairs : Nat) (m_heaps : Nat) (q_rounds : Int32) (q_heapMany : Int32) (m_led : Nat) (m_newAt : Nat) (m_knowing : Nat) (m_firsts : Nat) (q_people : Nat) (m_secrets : Nat) (m_tried : Nat) (m_lanes : Nat) (m_lengths : Nat) (m_cells : Nat) (f_manys : Nat → Int32) (f_reals : Nat → Int32) (f_factsOf : Nat → Int32) (f_possible : Nat → Int32) (hb_manys : NB 18 24 f_manys) (hb_reals : NB 18 23 f_reals) (hpg : PG f_manys f_reals) (hwf : WFP (pgs f_manys f_reals f_factsOf f_possible)) : CT l yX12_of (Cond.code yX12_of cX12_of 5 (some .int) :: TB) ({ frames := 2, cells := 0, slots := 0, locals := 46 }) E ro [.ref hm, .int v0, .int v1] [(hm, .inr (12, [.ref m_manys, .ref m_reals, .ref m_factsOf, .ref m_possible, .int (nI q_undos), .int (nI q_models), .ref m_tape, .int (nI q_taped), .int q_fault, .int q_wrong, .int q_wrongAt, .int q_spot, .int q_place, .int q_token, .int q_value, .ref m_ends, .ref m_letters, .ref m_actOf, .ref m_whom, .ref m_actMany, .ref m_tokens, .ref m_afters, .ref m_afterOf, .int q_counted, .ref m_pile, .ref m_caseMany, .ref m_happen, .ref m_hasIf, .ref m_becomes, .ref m_goneOf, .ref m_heard, .ref m_pairs, .ref m_heaps, .int q_rounds, .int q_heapMany, .ref m_led, .ref m_newAt, .ref m_knowing, .ref m_firsts, .int (nI q_people), .ref m_secrets, .ref m_tried, .ref m_lanes, .ref m_lengths, .ref m_cells])), (m_manys, .inl (E.2.1 1, 18, .inl f_manys)), (m_reals, .inl (E.2.1 1, 18, .inl f_reals)), (m_factsOf, .inl (E.2.1 1, 432, .inl f_factsOf)), (m_possible, .inl (E.2.1 1, 1728, .inl f_possible))] (Qi E (fun (rz : Int32) uz => (uz = [(hm, .inr (12, [.ref m_manys, .ref m_reals, .ref m_factsOf, .ref m_possible, .int (nI q_undos), .int (nI q_models), .ref m_tape, .int (nI q_taped), .int q_fault, .int q_wrong, .int q_wrongAt, .int q_spot, .int q_place, .int q_token, .int q_value, .ref m_ends, .ref m_letters, .ref m_actOf, .ref m_whom, .ref m_actMany, .ref m_tokens, .ref m_afters, .ref m_afterOf, .int q_counted, .ref m_pile, .ref m_caseMany, .ref m_happen, .ref m_hasIf, .ref m_becomes, .ref m_goneOf, .ref m_heard, .ref m_pairs, .ref m_heaps, .int q_rounds, .int q_heapMany, .ref m_led, .ref m_newAt, .ref m_knowing, .ref m_firsts, .int (nI q_people), .ref m_secrets, .ref m_tried, .ref m_lanes, .ref m_lengths, .ref m_cells])), (m_manys, .inl (E.2.1 1, 18, .inl f_manys)), (m_reals, .inl (E.2.1 1, 18, .inl f_reals)), (m_factsOf, .inl (E.2.1 1, 432, .inl f_factsOf)), (m_possible, .inl (E.2.1 1, 1728, .inl f_possible))] ∧ (rz = ansOf (pgs f_manys f_reals f_factsOf f_possible 0) v0 v1)))) 0 0 := by
  refine ct_of rfl rfl ?_
  intro X C hT hin hro
  show WW X 5 E 0 [(0, .ref hm), (1, .int v0), (2, .int v1)] [] [(hm, .inr (12, [.ref m_manys, .ref m_reals, .ref m_factsOf, .ref m_possible, .int (nI q_undos), .int (nI q_models), .ref m_tape, .int (nI q_taped), .int q_fault, .int q_wrong, .int q_wrongAt, .int q_spot, .int q_place, .int q_token, .int q_value, .ref m_ends, .ref m_letters, .ref m_actOf, .ref m_whom, .ref m_actMany, .ref m_tokens, .ref m_afters, .ref m_afterOf, .int q_counted, .ref m_pile, .ref m_caseMany, .ref m_happen, .ref m_hasIf, .ref m_becomes, .ref m_goneOf, .ref m_heard, .ref m_pairs, .ref m_heaps, .int q_rounds, .int q_heapMany, .ref m_led, .ref m_newAt, .ref m_knowing, .ref m_firsts, .int (nI q_people), .ref m_secrets, .ref m_tried, .ref m_lanes, .ref m_lengths, .ref m_cells])), (m_manys, .inl (E.2.1 1, 18, .inl f_manys)), (m_reals, .inl (E.2.1 1, 18, .inl f_reals)), (m_factsOf, .inl (E.2.1 1, 432, .inl f_factsOf)), (m_possible, .inl (E.2.1 1, 1728, .inl f_possible))] 0 0
  have hmn0 := (hb_manys 0 (by omega)).2
  refine ww_aload_n C dX12_of_0 0 rfl rfl ?_
  refine ww_iload_n C dX12_of_1 1 rfl rfl ?_
  refine ww_ci (wr := [(m_reals, .inl (E.2.1 1, 18, .inl f_reals)), (m_factsOf, .inl (E.2.1 1, 432, .inl f_factsOf)), (m_possible, .inl (E.2.1 1, 1728, .inl f_possible))]) (k' := 0) (n' := 0) C (run_V (As := [.int v0]) (rest := []) C (r_isWorld X.2.1 E ro hm v0 m_manys m_reals m_factsOf m_possible q_undos q_models m_tape q_taped q_fault q_wrong q_wrongAt q_spot q_place q_token q_value m_ends m_letters m_actOf m_whom m_actMany m_tokens m_afters m_afterOf q_counted m_pile m_caseMany m_happen m_hasIf m_becomes m_goneOf m_heard m_pairs m_heaps q_rounds q_heapMany m_led m_newAt m_knowing m_firsts q_people m_secrets m_tried m_lanes m_lengths m_cells f_manys hb_manys) mi_X12_isWorld wl_X12_132 rfl 0 12 rfl rfl rfl rfl rfl dX12_of_2) (roK hro) [0, 1] [2, 3, 4] rfl rfl rfl rfl (fun r_1 uz hw => ?_)
  rcases hw with hw | hw
  · refine an3 hw ?_
    clear hw
    intro he_4 he_5 h_2 hw
    have h_3 := hw
    clear hw
    have he_4 := he_4.symm
    subst he_4
    subst he_5
    refine ww_eq (ws' := [(m_reals, .inl (E.2.1 1, 18, .inl f_reals)), (m_factsOf, .inl (E.2.1 1, 432, .inl f_factsOf)), (m_possible, .inl (E.2.1 1, 1728, .inl f_possible)), (hm, .inr (12, [.ref m_manys, .ref m_reals, .ref m_factsOf, .ref m_possible, .int (nI q_undos), .int (nI q_models), .ref m_tape, .int (nI q_taped), .int q_fault, .int q_wrong, .int q_wrongAt, .int q_spot, .int q_place, .int q_token, .int q_value, .ref m_ends, .ref m_letters, .ref m_actOf, .ref m_whom, .ref m_actMany, .ref m_tokens, .ref m_afters, .ref m_afterOf, .int q_counted, .ref m_pile, .ref m_caseMany, .ref m_happen, .ref m_hasIf, .ref m_becomes, .ref m_goneOf, .ref m_heard, .ref m_pairs, .ref m_heaps, .int q_rounds, .int q_heapMany, .ref m_led, .ref m_newAt, .ref m_knowing, .ref m_firsts, .int (nI q_people), .ref m_secrets, .ref m_tried, .ref m_lanes, .ref m_lengths, .ref m_cells])), (m_manys, .inl (E.2.1 1, 18, .inl f_manys))]) ?_ rfl rfl rfl
    refine ww_if_ne_t (tgt := 10) C dX12_of_5 (by decide) (by decide) ?_
    obtain ⟨j_9, hj_9, rfl⟩ := i_nat (x := v0) (N := 24) (by omega) (by omega)
    have hzj_9 := nI_toInt (n := j_9) (by omega)
    refine ww_iload_n C dX12_of_10 2 rfl rfl ?_
    refine ww_i2l (v := v1.toInt64) C dX12_of_11 rfl ?_
    refine ww_lconst (v := 1) C dX12_of_12 rfl ?_
    refine ww_ldc2 C wv_X12_149 dX12_of_13 ?_
    refine ww_ci (wr := [(m_reals, .inl (E.2.1 1, 18, .inl f_reals)), (m_factsOf, .inl (E.2.1 1, 432, .inl f_factsOf)), (m_possible, .inl (E.2.1 1, 1728, .inl f_possible)), (hm, .inr (12, [.ref m_manys, .ref m_reals, .ref m_factsOf, .ref m_possible, .int (nI q_undos), .int (nI q_models), .ref m_tape, .int (nI q_taped), .int q_fault, .int q_wrong, .int q_wrongAt, .int q_spot, .int q_place, .int q_token, .int q_value, .ref m_ends, .ref m_letters, .ref m_actOf, .ref m_whom, .ref m_actMany, .ref m_tokens, .ref m_afters, .ref m_afterOf, .int q_counted, .ref m_pile, .ref m_caseMany, .ref m_happen, .ref m_hasIf, .ref m_becomes, .ref m_goneOf, .ref m_heard, .ref m_pairs, .ref m_heaps, .int q_rounds, .int q_heapMany, .ref m_led, .ref m_newAt, .ref m_knowing, .ref m_firsts, .int (nI q_people), .ref m_secrets, .ref m_tried, .ref m_lanes, .ref m_lengths, .ref m_cells])), (m_manys, .inl (E.2.1 1, 18, .inl f_manys))]) (k' := 0) (n' := 0) C (run_S (As := [.long v1.toInt64, .long 1, .long 4]) (rest := []) C (r_in X.2.1 E ro v1.toInt64 1 4 v1.toInt 1 4 (Int32.toInt_toInt64 _) rfl rfl) ms_X12_in wl_X12_115 rfl rfl rfl rfl dX12_of_16) (roK hro) [] [0, 1, 2, 3, 4] rfl rfl rfl rfl (fun r_10 uz hw => ?_)
    rcases hw with hw | hw
    · refine an3 hw ?_
      clear hw
      intro he_13 he_14 h_11 hw
      have h_12 := hw
      clear hw
      have he_13 := he_13.symm
      subst he_13
      subst he_14
      refine ww_eq (ws' := [(m_reals, .inl (E.2.1 1, 18, .inl f_reals)), (m_factsOf, .inl (E.2.1 1, 432, .inl f_factsOf)), (m_possible, .inl (E.2.1 1, 1728, .inl f_possible)), (hm, .inr (12, [.ref m_manys, .ref m_reals, .ref m_factsOf, .ref m_possible, .int (nI q_undos), .int (nI q_models), .ref m_tape, .int (nI q_taped), .int q_fault, .int q_wrong, .int q_wrongAt, .int q_spot, .int q_place, .int q_token, .int q_value, .ref m_ends, .ref m_letters, .ref m_actOf, .ref m_whom, .ref m_actMany, .ref m_tokens, .ref m_afters, .ref m_afterOf, .int q_counted, .ref m_pile, .ref m_caseMany, .ref m_happen, .ref m_hasIf, .ref m_becomes, .ref m_goneOf, .ref m_heard, .ref m_pairs, .ref m_heaps, .int q_rounds, .int q_heapMany, .ref m_led, .ref m_newAt, .ref m_knowing, .ref m_firsts, .int (nI q_people), .ref m_secrets, .ref m_tried, .ref m_lanes, .ref m_lengths, .ref m_cells])), (m_manys, .inl (E.2.1 1, 18, .inl f_manys))]) ?_ rfl rfl rfl
      refine ww_if_eq_f (tgt := 32) C dX12_of_19 (by decide) (by decide) ?_
      obtain ⟨j_18, hj_18, rfl⟩ := i_nat (x := v1) (N := 4) (by omega) (by omega)
      have hzj_18 := nI_toInt (n := j_18) (by omega)
      refine ww_aload_n C dX12_of_22 0 rfl rfl ?_
      refine ww_iconst (v := 0) C dX12_of_23 rfl ?_
      refine ww_iload_n C dX12_of_24 2 rfl rfl ?_
      refine ww_iconst (v := 1) C dX12_of_25 rfl ?_
      refine ww_isub (v := (nI (j_18 - 1))) C dX12_of_26 (pk_sub (a := j_18) (b := 1) (by omega)) ?_
      refine ww_iload_n C dX12_of_27 1 rfl rfl ?_
      refine ww_ci (wr := [(m_reals, .inl (E.2.1 1, 18, .inl f_reals)), (m_factsOf, .inl (E.2.1 1, 432, .inl f_factsOf)), (m_manys, .inl (E.2.1 1, 18, .inl f_manys))]) (k' := 0) (n' := 0) C (run_V (As := [.int 0, .int (nI (j_18 - 1)), .int (nI j_9)]) (rest := []) C (r_seen X.2.1 E ro hm 0 (j_18 - 1) j_9 m_manys m_reals m_factsOf m_possible q_undos q_models m_tape q_taped q_fault q_wrong q_wrongAt q_spot q_place q_token q_value m_ends m_letters m_actOf m_whom m_actMany m_tokens m_afters m_afterOf q_counted m_pile m_caseMany m_happen m_hasIf m_becomes m_goneOf m_heard m_pairs m_heaps q_rounds q_heapMany m_led m_newAt m_knowing m_firsts q_people m_secrets m_tried m_lanes m_lengths m_cells f_possible (by omega) (by omega) (by omega)) mi_X12_seen wl_X12_135 rfl 0 12 rfl rfl rfl rfl rfl dX12_of_28) (roK hro) [3, 2] [0, 1, 4] rfl rfl rfl rfl (fun r_19 uz hw => ?_)
      refine an1 hw ?_
      clear hw
      intro he_20 hw
      have he_21 := hw
      clear hw
      have he_20 := he_20.symm
      subst he_20
      subst he_21
      refine ww_eq (ws' := [(m_reals, .inl (E.2.1 1, 18, .inl f_reals)), (m_factsOf, .inl (E.2.1 1, 432, .inl f_factsOf)), (m_manys, .inl (E.2.1 1, 18, .inl f_manys)), (hm, .inr (12, [.ref m_manys, .ref m_reals, .ref m_factsOf, .ref m_possible, .int (nI q_undos), .int (nI q_models), .ref m_tape, .int (nI q_taped), .int q_fault, .int q_wrong, .int q_wrongAt, .int q_spot, .int q_place, .int q_token, .int q_value, .ref m_ends, .ref m_letters, .ref m_actOf, .ref m_whom, .ref m_actMany, .ref m_tokens, .ref m_afters, .ref m_afterOf, .int q_counted, .ref m_pile, .ref m_caseMany, .ref m_happen, .ref m_hasIf, .ref m_becomes, .ref m_goneOf, .ref m_heard, .ref m_pairs, .ref m_heaps, .int q_rounds, .int q_heapMany, .ref m_led, .ref m_newAt, .ref m_knowing, .ref m_firsts, .int (nI q_people), .ref m_secrets, .ref m_tried, .ref m_lanes, .ref m_lengths, .ref m_cells])), (m_possible, .inl (E.2.1 1, 1728, .inl f_possible))]) ?_ rfl rfl rfl
      exact ww_iret (u := [(hm, .inr (12, [.ref m_manys, .ref m_reals, .ref m_factsOf, .ref m_possible, .int (nI q_undos), .int (nI q_models), .ref m_tape, .int (nI q_taped), .int q_fault, .int q_wrong, .int q_wrongAt, .int q_spot, .int q_place, .int q_token, .int q_value, .ref m_ends, .ref m_letters, .ref m_actOf, .ref m_whom, .ref m_actMany, .ref m_tokens, .ref m_afters, .ref m_afterOf, .int q_counted, .ref m_pile, .ref m_caseMany, .ref m_happen, .ref m_hasIf, .ref m_becomes, .ref m_goneOf, .ref m_heard, .ref m_pairs, .ref m_heaps, .int q_rounds, .int q_heapMany, .ref m_led, .ref m_newAt, .ref m_knowing, .ref m_firsts, .int (nI q_people), .ref m_secrets, .ref m_tried, .ref m_lanes, .ref m_lengths, .ref m_cells])), (m_manys, .inl (E.2.1 1, 18, .inl f_manys)), (m_reals, .inl (E.2.1 1, 18, .inl f_reals)), (m_factsOf, .inl (E.2.1 1, 432, .inl f_factsOf)), (m_possible, .inl (E.2.1 1, 1728, .inl f_possible))]) C hT [3, 2, 0, 1, 4] rfl rfl rfl rfl dX12_of_31 (⟨rfl, (by show _ = if (nI j_9).toInt < 0 ∨ ((cN f_manys 0) : Int) ≤ (nI j_9).toInt ∨ (nI j_18).toInt < 0 ∨ 6 < (nI j_18).toInt then -1 else if (nI j_18).toInt = 0 then (pgs f_manys f_reals f_factsOf f_possible 0).2.2.1 (tN (nI j_9)) else if (nI j_18).toInt = 5 then if tN (nI j_9) = (cN f_reals 0) then 1 else 0 else if (nI j_18).toInt = 6 then ofB (fun k => decide (k < 4) && !anyN ((pgs f_manys f_reals f_factsOf f_possible 0).2.2.2 k (tN (nI j_9))) 32) else ofB ((pgs f_manys f_reals f_factsOf f_possible 0).2.2.2 (tN (nI j_18) - 1) (tN (nI j_9))); rw [if_neg (show ¬ ((nI j_9).toInt < 0 ∨ ((cN f_manys 0) : Int) ≤ (nI j_9).toInt ∨ (nI j_18).toInt < 0 ∨ 6 < (nI j_18).toInt) by omega), if_neg (show ¬ ((nI j_18).toInt = 0) by omega), if_neg (show ¬ ((nI j_18).toInt = 5) by omega), if_neg (show ¬ ((nI j_18).toInt = 6) by omega)]; exact (by rw [tN_n (n := j_9) (by omega), tN_n (n := j_18) (by omega)]; exact BS.of (fun i hi => (pg_S (by omega) (by omega)).symm)))⟩)
    · refine an2 hw ?_
      clear hw
      intro he_16 he_17 hw
      have h_15 := hw
      clear hw
      have he_16 := he_16.symm
      subst he_16
      subst he_17
      refine ww_eq (ws' := [(m_reals, .inl (E.2.1 1, 18, .inl f_reals)), (m_factsOf, .inl (E.2.1 1, 432, .inl f_factsOf)), (m_possible, .inl (E.2.1 1, 1728, .inl f_possible)), (hm, .inr (12, [.ref m_manys, .ref m_reals, .ref m_factsOf, .ref m_possible, .int (nI q_undos), .int (nI q_models), .ref m_tape, .int (nI q_taped), .int q_fault, .int q_wrong, .int q_wrongAt, .int q_spot, .int q_place, .int q_token, .int q_value, .ref m_ends, .ref m_letters, .ref m_actOf, .ref m_whom, .ref m_actMany, .ref m_tokens, .ref m_afters, .ref m_afterOf, .int q_counted, .ref m_pile, .ref m_caseMany, .ref m_happen, .ref m_hasIf, .ref m_becomes, .ref m_goneOf, .ref m_heard, .ref m_pairs, .ref m_heaps, .int q_rounds, .int q_heapMany, .ref m_led, .ref m_newAt, .ref m_knowing, .ref m_firsts, .int (nI q_people), .ref m_secrets, .ref m_tried, .ref m_lanes, .ref m_lengths, .ref m_cells])), (m_manys, .inl (E.2.1 1, 18, .inl f_manys))]) ?_ rfl rfl rfl
      refine ww_if_eq_t (tgt := 32) C dX12_of_19 (by decide) (rfl) ?_
      refine ww_iconst (v := 0) C dX12_of_32 rfl ?_
      refine ww_istore_n (lv' := [(3, .int 0), (0, .ref hm), (1, .int (nI j_9)), (2, .int v1)]) C dX12_of_33 rfl rfl rfl ?_
      refine ww_iconst (v := 0) C dX12_of_34 rfl ?_
      refine ww_istore (lv' := [(4, .int 0), (3, .int 0), (0, .ref hm), (1, .int (nI j_9)), (2, .int v1)]) C dX12_of_35 rfl rfl ?_
      have loop_37 : ∀ (fu : Nat) (i1 : Nat) (ac : Int32), (i1 ≤ 4) → (AC ac no_ i1 (fun k => decide (f_possible (96 * 0 + 24 * k + j_9) = 0))) → 4 - i1 < fu → WW X 5 E 37 [(4, .int (nI i1)), (3, .int ac), (0, .ref hm), (1, .int (nI j_9)), (2, .int v1)] [] [(m_reals, .inl (E.2.1 1, 18, .inl f_reals)), (m_factsOf, .inl (E.2.1 1, 432, .inl f_factsOf)), (m_possible, .inl (E.2.1 1, 1728, .inl f_possible)), (hm, .inr (12, [.ref m_manys, .ref m_reals, .ref m_factsOf, .ref m_possible, .int (nI q_undos), .int (nI q_models), .ref m_tape, .int (nI q_taped), .int q_fault, .int q_wrong, .int q_wrongAt, .int q_spot, .int q_place, .int q_token, .int q_value, .ref m_ends, .ref m_letters, .ref m_actOf, .ref m_whom, .ref m_actMany, .ref m_tokens, .ref m_afters, .ref m_afterOf, .int q_counted, .ref m_pile, .ref m_caseMany, .ref m_happen, .ref m_hasIf, .ref m_becomes, .ref m_goneOf, .ref m_heard, .ref m_pairs, .ref m_heaps, .int q_rounds, .int q_heapMany, .ref m_led, .ref m_newAt, .ref m_knowing, .ref m_firsts, .int (nI q_people), .ref m_secrets, .ref m_tried, .ref m_lanes, .ref m_lengths, .ref m_cells])), (m_manys, .inl (E.2.1 1, 18, .inl f_manys))] 0 0 := by
        intro fu
        induction fu with
        | zero => intro i1 ac hi1 hac hmeas; exact absurd hmeas (Nat.not_lt_zero _)
        | succ fu ih_37 =>
          intro i1 ac hi1 hac hmeas
          refine ww_iload C dX12_of_37 0 rfl ?_
          refine ww_iconst (v := 4) C dX12_of_39 rfl ?_
          refine ww_icmp_ge (tgt := 71) C dX12_of_40 (by decide) (fun c_22 => ?_) (fun c_22 => ?_)
          · have zc_22 : ((i1 : Nat) : Int) ≥ 4 := i_le rfl (nI_toInt (n := i1) (by omega)) c_22
            refine ww_iload_n C dX12_of_71 4 rfl rfl ?_
            refine ww_if_ne (tgt := 84) C dX12_of_72 (by decide) (fun c_23 => ?_) (fun c_23 => ?_)
            · have zc_23 : v1.toInt ≠ 0 := i_ne rfl rfl c_23
              refine ww_iload_n C dX12_of_84 4 rfl rfl ?_
              refine ww_iconst (v := 5) C dX12_of_85 rfl ?_
              refine ww_icmp_ne (tgt := 107) C dX12_of_86 (by decide) (fun c_24 => ?_) (fun c_24 => ?_)
              · have zc_24 : v1.toInt ≠ 5 := i_ne rfl rfl c_24
                refine ww_iload_n C dX12_of_107 4 rfl rfl ?_
                refine ww_bipush (v := 6) C dX12_of_108 rfl ?_
                refine ww_icmp_ne (tgt := 117) C dX12_of_110 (by decide) (fun c_25 => ?_) (fun c_25 => ?_)
                · have zc_25 : v1.toInt ≠ 6 := i_ne rfl rfl c_25
                  refine ww_iconst (v := (-1)) C dX12_of_117 rfl ?_
                  exact ww_iret (u := [(hm, .inr (12, [.ref m_manys, .ref m_reals, .ref m_factsOf, .ref m_possible, .int (nI q_undos), .int (nI q_models), .ref m_tape, .int (nI q_taped), .int q_fault, .int q_wrong, .int q_wrongAt, .int q_spot, .int q_place, .int q_token, .int q_value, .ref m_ends, .ref m_letters, .ref m_actOf, .ref m_whom, .ref m_actMany, .ref m_tokens, .ref m_afters, .ref m_afterOf, .int q_counted, .ref m_pile, .ref m_caseMany, .ref m_happen, .ref m_hasIf, .ref m_becomes, .ref m_goneOf, .ref m_heard, .ref m_pairs, .ref m_heaps, .int q_rounds, .int q_heapMany, .ref m_led, .ref m_newAt, .ref m_knowing, .ref m_firsts, .int (nI q_people), .ref m_secrets, .ref m_tried, .ref m_lanes, .ref m_lengths, .ref m_cells])), (m_manys, .inl (E.2.1 1, 18, .inl f_manys)), (m_reals, .inl (E.2.1 1, 18, .inl f_reals)), (m_factsOf, .inl (E.2.1 1, 432, .inl f_factsOf)), (m_possible, .inl (E.2.1 1, 1728, .inl f_possible))]) C hT [3, 4, 0, 1, 2] rfl rfl rfl rfl dX12_of_118 (⟨rfl, (by show _ = if (nI j_9).toInt < 0 ∨ ((cN f_manys 0) : Int) ≤ (nI j_9).toInt ∨ v1.toInt < 0 ∨ 6 < v1.toInt then -1 else if v1.toInt = 0 then (pgs f_manys f_reals f_factsOf f_possible 0).2.2.1 (tN (nI j_9)) else if v1.toInt = 5 then if tN (nI j_9) = (cN f_reals 0) then 1 else 0 else if v1.toInt = 6 then ofB (fun k => decide (k < 4) && !anyN ((pgs f_manys f_reals f_factsOf f_possible 0).2.2.2 k (tN (nI j_9))) 32) else ofB ((pgs f_manys f_reals f_factsOf f_possible 0).2.2.2 (tN v1 - 1) (tN (nI j_9))); rw [if_pos (show (nI j_9).toInt < 0 ∨ ((cN f_manys 0) : Int) ≤ (nI j_9).toInt ∨ v1.toInt < 0 ∨ 6 < v1.toInt by omega)])⟩)
                · have zc_25 : v1.toInt = 6 := i_eq rfl rfl c_25
                  refine ww_iload_n C dX12_of_113 1 rfl rfl ?_
                  refine ww_goto (tgt := 118) C dX12_of_114 (by decide) ?_
                  exact ww_iret (u := [(hm, .inr (12, [.ref m_manys, .ref m_reals, .ref m_factsOf, .ref m_possible, .int (nI q_undos), .int (nI q_models), .ref m_tape, .int (nI q_taped), .int q_fault, .int q_wrong, .int q_wrongAt, .int q_spot, .int q_place, .int q_token, .int q_value, .ref m_ends, .ref m_letters, .ref m_actOf, .ref m_whom, .ref m_actMany, .ref m_tokens, .ref m_afters, .ref m_afterOf, .int q_counted, .ref m_pile, .ref m_caseMany, .ref m_happen, .ref m_hasIf, .ref m_becomes, .ref m_goneOf, .ref m_heard, .ref m_pairs, .ref m_heaps, .int q_rounds, .int q_heapMany, .ref m_led, .ref m_newAt, .ref m_knowing, .ref m_firsts, .int (nI q_people), .ref m_secrets, .ref m_tried, .ref m_lanes, .ref m_lengths, .ref m_cells])), (m_manys, .inl (E.2.1 1, 18, .inl f_manys)), (m_reals, .inl (E.2.1 1, 18, .inl f_reals)), (m_factsOf, .inl (E.2.1 1, 432, .inl f_factsOf)), (m_possible, .inl (E.2.1 1, 1728, .inl f_possible))]) C hT [3, 4, 0, 1, 2] rfl rfl rfl rfl dX12_of_118 (⟨rfl, (by show _ = if (nI j_9).toInt < 0 ∨ ((cN f_manys 0) : Int) ≤ (nI j_9).toInt ∨ v1.toInt < 0 ∨ 6 < v1.toInt then -1 else if v1.toInt = 0 then (pgs f_manys f_reals f_factsOf f_possible 0).2.2.1 (tN (nI j_9)) else if v1.toInt = 5 then if tN (nI j_9) = (cN f_reals 0) then 1 else 0 else if v1.toInt = 6 then ofB (fun k => decide (k < 4) && !anyN ((pgs f_manys f_reals f_factsOf f_possible 0).2.2.2 k (tN (nI j_9))) 32) else ofB ((pgs f_manys f_reals f_factsOf f_possible 0).2.2.2 (tN v1 - 1) (tN (nI j_9))); rw [if_neg (show ¬ ((nI j_9).toInt < 0 ∨ ((cN f_manys 0) : Int) ≤ (nI j_9).toInt ∨ v1.toInt < 0 ∨ 6 < v1.toInt) by omega), if_neg (show ¬ (v1.toInt = 0) by omega), if_neg (show ¬ (v1.toInt = 5) by omega), if_pos (show v1.toInt = 6 by omega)]; exact (by rw [tN_n (n := j_9) (by omega)]; exact BS.of ((AC.fin hac (show i1 = 4 by omega)).cg (fun k hk => of_r (by omega)))))⟩)
              · have zc_24 : v1.toInt = 5 := i_eq rfl rfl c_24
                refine ww_aload_n C dX12_of_89 2 rfl rfl ?_
                refine ww_get C fg_X12_13 3 rfl rfl dX12_of_90 ?_
                refine ww_iconst (v := 0) C dX12_of_93 rfl ?_
                have hbx_26 := (hb_reals 0 (by omega)).2
                refine ww_iald (v := (nI (cN f_reals 0))) C 0 rfl (vin rfl) (hb_reals 0 (by omega)).1 dX12_of_94 ?_
                refine ww_iload_n C dX12_of_95 3 rfl rfl ?_
                refine ww_icmp_ne (tgt := 103) C dX12_of_96 (by decide) (fun c_27 => ?_) (fun c_27 => ?_)
                · have zc_27 : ((cN f_reals 0 : Nat) : Int) ≠ ((j_9 : Nat) : Int) := i_ne (nI_toInt (n := cN f_reals 0) (by omega)) (nI_toInt (n := j_9) (by omega)) c_27
                  refine ww_iconst (v := 0) C dX12_of_103 rfl ?_
                  refine ww_goto (tgt := 118) C dX12_of_104 (by decide) ?_
                  exact ww_iret (u := [(hm, .inr (12, [.ref m_manys, .ref m_reals, .ref m_factsOf, .ref m_possible, .int (nI q_undos), .int (nI q_models), .ref m_tape, .int (nI q_taped), .int q_fault, .int q_wrong, .int q_wrongAt, .int q_spot, .int q_place, .int q_token, .int q_value, .ref m_ends, .ref m_letters, .ref m_actOf, .ref m_whom, .ref m_actMany, .ref m_tokens, .ref m_afters, .ref m_afterOf, .int q_counted, .ref m_pile, .ref m_caseMany, .ref m_happen, .ref m_hasIf, .ref m_becomes, .ref m_goneOf, .ref m_heard, .ref m_pairs, .ref m_heaps, .int q_rounds, .int q_heapMany, .ref m_led, .ref m_newAt, .ref m_knowing, .ref m_firsts, .int (nI q_people), .ref m_secrets, .ref m_tried, .ref m_lanes, .ref m_lengths, .ref m_cells])), (m_manys, .inl (E.2.1 1, 18, .inl f_manys)), (m_reals, .inl (E.2.1 1, 18, .inl f_reals)), (m_factsOf, .inl (E.2.1 1, 432, .inl f_factsOf)), (m_possible, .inl (E.2.1 1, 1728, .inl f_possible))]) C hT [3, 4, 0, 1, 2] rfl rfl rfl rfl dX12_of_118 (⟨rfl, (by show _ = if (nI j_9).toInt < 0 ∨ ((cN f_manys 0) : Int) ≤ (nI j_9).toInt ∨ v1.toInt < 0 ∨ 6 < v1.toInt then -1 else if v1.toInt = 0 then (pgs f_manys f_reals f_factsOf f_possible 0).2.2.1 (tN (nI j_9)) else if v1.toInt = 5 then if tN (nI j_9) = (cN f_reals 0) then 1 else 0 else if v1.toInt = 6 then ofB (fun k => decide (k < 4) && !anyN ((pgs f_manys f_reals f_factsOf f_possible 0).2.2.2 k (tN (nI j_9))) 32) else ofB ((pgs f_manys f_reals f_factsOf f_possible 0).2.2.2 (tN v1 - 1) (tN (nI j_9))); rw [if_neg (show ¬ ((nI j_9).toInt < 0 ∨ ((cN f_manys 0) : Int) ≤ (nI j_9).toInt ∨ v1.toInt < 0 ∨ 6 < v1.toInt) by omega), if_neg (show ¬ (v1.toInt = 0) by omega), if_pos (show v1.toInt = 5 by omega)]; exact (by rw [tN_n (n := j_9) (by omega), if_neg (by omega)]))⟩)
                · have zc_27 : ((cN f_reals 0 : Nat) : Int) = ((j_9 : Nat) : Int) := i_eq (nI_toInt (n := cN f_reals 0) (by omega)) (nI_toInt (n := j_9) (by omega)) c_27
                  refine ww_iconst (v := 1) C dX12_of_99 rfl ?_
                  refine ww_goto (tgt := 118) C dX12_of_100 (by decide) ?_
                  exact ww_iret (u := [(hm, .inr (12, [.ref m_manys, .ref m_reals, .ref m_factsOf, .ref m_possible, .int (nI q_undos), .int (nI q_models), .ref m_tape, .int (nI q_taped), .int q_fault, .int q_wrong, .int q_wrongAt, .int q_spot, .int q_place, .int q_token, .int q_value, .ref m_ends, .ref m_letters, .ref m_actOf, .ref m_whom, .ref m_actMany, .ref m_tokens, .ref m_afters, .ref m_afterOf, .int q_counted, .ref m_pile, .ref m_caseMany, .ref m_happen, .ref m_hasIf, .ref m_becomes, .ref m_goneOf, .ref m_heard, .ref m_pairs, .ref m_heaps, .int q_rounds, .int q_heapMany, .ref m_led, .ref m_newAt, .ref m_knowing, .ref m_firsts, .int (nI q_people), .ref m_secrets, .ref m_tried, .ref m_lanes, .ref m_lengths, .ref m_cells])), (m_manys, .inl (E.2.1 1, 18, .inl f_manys)), (m_reals, .inl (E.2.1 1, 18, .inl f_reals)), (m_factsOf, .inl (E.2.1 1, 432, .inl f_factsOf)), (m_possible, .inl (E.2.1 1, 1728, .inl f_possible))]) C hT [3, 4, 0, 1, 2] rfl rfl rfl rfl dX12_of_118 (⟨rfl, (by show _ = if (nI j_9).toInt < 0 ∨ ((cN f_manys 0) : Int) ≤ (nI j_9).toInt ∨ v1.toInt < 0 ∨ 6 < v1.toInt then -1 else if v1.toInt = 0 then (pgs f_manys f_reals f_factsOf f_possible 0).2.2.1 (tN (nI j_9)) else if v1.toInt = 5 then if tN (nI j_9) = (cN f_reals 0) then 1 else 0 else if v1.toInt = 6 then ofB (fun k => decide (k < 4) && !anyN ((pgs f_manys f_reals f_factsOf f_possible 0).2.2.2 k (tN (nI j_9))) 32) else ofB ((pgs f_manys f_reals f_factsOf f_possible 0).2.2.2 (tN v1 - 1) (tN (nI j_9))); rw [if_neg (show ¬ ((nI j_9).toInt < 0 ∨ ((cN f_manys 0) : Int) ≤ (nI j_9).toInt ∨ v1.toInt < 0 ∨ 6 < v1.toInt) by omega), if_neg (show ¬ (v1.toInt = 0) by omega), if_pos (show v1.toInt = 5 by omega)]; exact (by rw [tN_n (n := j_9) (by omega), if_pos (by omega)]))⟩)
            · have zc_23 : v1.toInt = 0 := i_eq rfl rfl c_23
              refine ww_aload_n C dX12_of_75 2 rfl rfl ?_
              refine ww_get C fg_X12_16 3 rfl rfl dX12_of_76 ?_
              refine ww_iload_n C dX12_of_79 3 rfl rfl ?_
              obtain ⟨x_28, ex_28⟩ : ∃ z : Int32, f_factsOf j_9 = z := ⟨_, rfl⟩
              refine ww_iald (v := x_28) C 1 rfl (vp_in_nI (by omega) (by omega)) (ldn (by omega) ex_28) dX12_of_80 ?_
              refine ww_goto (tgt := 118) C dX12_of_81 (by decide) ?_
              exact ww_iret (u := [(hm, .inr (12, [.ref m_manys, .ref m_reals, .ref m_factsOf, .ref m_possible, .int (nI q_undos), .int (nI q_models), .ref m_tape, .int (nI q_taped), .int q_fault, .int q_wrong, .int q_wrongAt, .int q_spot, .int q_place, .int q_token, .int q_value, .ref m_ends, .ref m_letters, .ref m_actOf, .ref m_whom, .ref m_actMany, .ref m_tokens, .ref m_afters, .ref m_afterOf, .int q_counted, .ref m_pile, .ref m_caseMany, .ref m_happen, .ref m_hasIf, .ref m_becomes, .ref m_goneOf, .ref m_heard, .ref m_pairs, .ref m_heaps, .int q_rounds, .int q_heapMany, .ref m_led, .ref m_newAt, .ref m_knowing, .ref m_firsts, .int (nI q_people), .ref m_secrets, .ref m_tried, .ref m_lanes, .ref m_lengths, .ref m_cells])), (m_manys, .inl (E.2.1 1, 18, .inl f_manys)), (m_reals, .inl (E.2.1 1, 18, .inl f_reals)), (m_factsOf, .inl (E.2.1 1, 432, .inl f_factsOf)), (m_possible, .inl (E.2.1 1, 1728, .inl f_possible))]) C hT [3, 4, 0, 1, 2] rfl rfl rfl rfl dX12_of_118 (⟨rfl, (by show _ = if (nI j_9).toInt < 0 ∨ ((cN f_manys 0) : Int) ≤ (nI j_9).toInt ∨ v1.toInt < 0 ∨ 6 < v1.toInt then -1 else if v1.toInt = 0 then (pgs f_manys f_reals f_factsOf f_possible 0).2.2.1 (tN (nI j_9)) else if v1.toInt = 5 then if tN (nI j_9) = (cN f_reals 0) then 1 else 0 else if v1.toInt = 6 then ofB (fun k => decide (k < 4) && !anyN ((pgs f_manys f_reals f_factsOf f_possible 0).2.2.2 k (tN (nI j_9))) 32) else ofB ((pgs f_manys f_reals f_factsOf f_possible 0).2.2.2 (tN v1 - 1) (tN (nI j_9))); rw [if_neg (show ¬ ((nI j_9).toInt < 0 ∨ ((cN f_manys 0) : Int) ≤ (nI j_9).toInt ∨ v1.toInt < 0 ∨ 6 < v1.toInt) by omega), if_pos (show v1.toInt = 0 by omega)]; exact (by rw [tN_n (n := j_9) (by omega), pg_F (by omega), Nat.mul_zero, Nat.zero_add]; exact (ex_28).symm))⟩)
          · have zc_22 : ((i1 : Nat) : Int) < 4 := i_nle rfl (nI_toInt (n := i1) (by omega)) c_22
            refine ww_iload_n C dX12_of_43 1 rfl rfl ?_
            refine ww_aload_n C dX12_of_44 2 rfl rfl ?_
            refine ww_iconst (v := 0) C dX12_of_45 rfl ?_
            refine ww_iload C dX12_of_46 0 rfl ?_
            refine ww_iload_n C dX12_of_48 3 rfl rfl ?_
            refine ww_ci (wr := [(m_reals, .inl (E.2.1 1, 18, .inl f_reals)), (m_factsOf, .inl (E.2.1 1, 432, .inl f_factsOf)), (m_manys, .inl (E.2.1 1, 18, .inl f_manys))]) (k' := 0) (n' := 0) C (run_V (As := [.int 0, .int (nI i1), .int (nI j_9)]) (rest := [.int ac]) C (r_seen X.2.1 E ro hm 0 i1 j_9 m_manys m_reals m_factsOf m_possible q_undos q_models m_tape q_taped q_fault q_wrong q_wrongAt q_spot q_place q_token q_value m_ends m_letters m_actOf m_whom m_actMany m_tokens m_afters m_afterOf q_counted m_pile m_caseMany m_happen m_hasIf m_becomes m_goneOf m_heard m_pairs m_heaps q_rounds q_heapMany m_led m_newAt m_knowing m_firsts q_people m_secrets m_tried m_lanes m_lengths m_cells f_possible (by omega) (by omega) (by omega)) mi_X12_seen wl_X12_135 rfl 0 12 rfl rfl rfl rfl rfl dX12_of_49) (roK hro) [3, 2] [0, 1, 4] rfl rfl rfl rfl (fun r_29 uz hw => ?_)
            refine an1 hw ?_
            clear hw
            intro he_30 hw
            have he_31 := hw
            clear hw
            have he_30 := he_30.symm
            subst he_30
            subst he_31
            refine ww_eq (ws' := [(m_reals, .inl (E.2.1 1, 18, .inl f_reals)), (m_factsOf, .inl (E.2.1 1, 432, .inl f_factsOf)), (m_manys, .inl (E.2.1 1, 18, .inl f_manys)), (hm, .inr (12, [.ref m_manys, .ref m_reals, .ref m_factsOf, .ref m_possible, .int (nI q_undos), .int (nI q_models), .ref m_tape, .int (nI q_taped), .int q_fault, .int q_wrong, .int q_wrongAt, .int q_spot, .int q_place, .int q_token, .int q_value, .ref m_ends, .ref m_letters, .ref m_actOf, .ref m_whom, .ref m_actMany, .ref m_tokens, .ref m_afters, .ref m_afterOf, .int q_counted, .ref m_pile, .ref m_caseMany, .ref m_happen, .ref m_hasIf, .ref m_becomes, .ref m_goneOf, .ref m_heard, .ref m_pairs, .ref m_heaps, .int q_rounds, .int q_heapMany, .ref m_led, .ref m_newAt, .ref m_knowing, .ref m_firsts, .int (nI q_people), .ref m_secrets, .ref m_tried, .ref m_lanes, .ref m_lengths, .ref m_cells])), (m_possible, .inl (E.2.1 1, 1728, .inl f_possible))]) ?_ rfl rfl rfl
            refine ww_if_ne (tgt := 62) C dX12_of_52 (by decide) (fun c_32 => ?_) (fun c_32 => ?_)
            · have zc_32 : (f_possible (96 * 0 + 24 * i1 + j_9)).toInt ≠ 0 := i_ne rfl rfl c_32
              refine ww_iconst (v := 0) C dX12_of_62 rfl ?_
              obtain ⟨x_33, ex_33⟩ : ∃ z : Int32, ac ||| (0 : Int32) = z := ⟨_, rfl⟩
              refine ww_ior (v := x_33) C dX12_of_63 ex_33 ?_
              refine ww_istore_n (lv' := [(3, .int x_33), (4, .int (nI i1)), (0, .ref hm), (1, .int (nI j_9)), (2, .int v1)]) C dX12_of_64 rfl rfl rfl ?_
              refine ww_iinc (j := 1) (v := (nI (i1 + 1))) (lv' := [(4, .int (nI (i1 + 1))), (3, .int x_33), (0, .ref hm), (1, .int (nI j_9)), (2, .int v1)]) C dX12_of_65 rfl (nI_add i1 1) rfl rfl ?_
              refine ww_goto (tgt := 37) C dX12_of_68 (by decide) ?_
              exact ww_lv [0, 1, 2, 3, 4] rfl (ww_sub [0, 1, 4, 3, 2] rfl rfl (ih_37 (i1 + 1) x_33 (by omega) (by first | exact AC.t hac (by omega) (decide_eq_true (i_z (x := f_possible (96 * 0 + 24 * i1 + j_9)) (by assumption))) (by assumption) (by assumption) | exact AC.z hac (decide_eq_false (i_nz (x := f_possible (96 * 0 + 24 * i1 + j_9)) (by assumption))) (by assumption)) (by omega)))
            · have zc_32 : (f_possible (96 * 0 + 24 * i1 + j_9)).toInt = 0 := i_eq rfl rfl c_32
              refine ww_iconst (v := 1) C dX12_of_55 rfl ?_
              refine ww_iload C dX12_of_56 0 rfl ?_
              obtain ⟨x_34, ex_34⟩ : ∃ z : Int32, (1 : Int32) <<< ((nI i1) &&& 31) = z := ⟨_, rfl⟩
              refine ww_ishl (v := x_34) C dX12_of_58 ex_34 ?_
              refine ww_goto (tgt := 63) C dX12_of_59 (by decide) ?_
              obtain ⟨x_35, ex_35⟩ : ∃ z : Int32, ac ||| x_34 = z := ⟨_, rfl⟩
              refine ww_ior (v := x_35) C dX12_of_63 ex_35 ?_
              refine ww_istore_n (lv' := [(3, .int x_35), (4, .int (nI i1)), (0, .ref hm), (1, .int (nI j_9)), (2, .int v1)]) C dX12_of_64 rfl rfl rfl ?_
              refine ww_iinc (j := 1) (v := (nI (i1 + 1))) (lv' := [(4, .int (nI (i1 + 1))), (3, .int x_35), (0, .ref hm), (1, .int (nI j_9)), (2, .int v1)]) C dX12_of_65 rfl (nI_add i1 1) rfl rfl ?_
              refine ww_goto (tgt := 37) C dX12_of_68 (by decide) ?_
              exact ww_lv [0, 1, 2, 3, 4] rfl (ww_sub [0, 1, 4, 3, 2] rfl rfl (ih_37 (i1 + 1) x_35 (by omega) (by first | exact AC.t hac (by omega) (decide_eq_true (i_z (x := f_possible (96 * 0 + 24 * i1 + j_9)) (by assumption))) (by assumption) (by assumption) | exact AC.z hac (decide_eq_false (i_nz (x := f_possible (96 * 0 + 24 * i1 + j_9)) (by assumption))) (by assumption)) (by omega)))
      exact ww_lv [0, 1, 2, 3, 4] rfl (ww_sub [0, 1, 2, 3, 4] rfl rfl (loop_37 _ 0 0 (by omega) AC.nil (Nat.lt_succ_self _)))
  · refine an2 hw ?_
    clear hw
    intro he_7 he_8 hw
    have h_6 := hw
    clear hw
    have he_7 := he_7.symm
    subst he_7
    subst he_8
    refine ww_eq (ws' := [(m_reals, .inl (E.2.1 1, 18, .inl f_reals)), (m_factsOf, .inl (E.2.1 1, 432, .inl f_factsOf)), (m_possible, .inl (E.2.1 1, 1728, .inl f_possible)), (hm, .inr (12, [.ref m_manys, .ref m_reals, .ref m_factsOf, .ref m_possible, .int (nI q_undos), .int (nI q_models), .ref m_tape, .int (nI q_taped), .int q_fault, .int q_wrong, .int q_wrongAt, .int q_spot, .int q_place, .int q_token, .int q_value, .ref m_ends, .ref m_letters, .ref m_actOf, .ref m_whom, .ref m_actMany, .ref m_tokens, .ref m_afters, .ref m_afterOf, .int q_counted, .ref m_pile, .ref m_caseMany, .ref m_happen, .ref m_hasIf, .ref m_becomes, .ref m_goneOf, .ref m_heard, .ref m_pairs, .ref m_heaps, .int q_rounds, .int q_heapMany, .ref m_led, .ref m_newAt, .ref m_knowing, .ref m_firsts, .int (nI q_people), .ref m_secrets, .ref m_tried, .ref m_lanes, .ref m_lengths, .ref m_cells])), (m_manys, .inl (E.2.1 1, 18, .inl f_manys))]) ?_ rfl rfl rfl
    refine ww_if_ne_f (tgt := 10) C dX12_of_5 (by decide) (rfl) ?_
    refine ww_iconst (v := (-1)) C dX12_of_8 rfl ?_
    exact ww_iret (u := [(hm, .inr (12, [.ref m_manys, .ref m_reals, .ref m_factsOf, .ref m_possible, .int (nI q_undos), .int (nI q_models), .ref m_tape, .int (nI q_taped), .int q_fault, .int q_wrong, .int q_wrongAt, .int q_spot, .int q_place, .int q_token, .int q_value, .ref m_ends, .ref m_letters, .ref m_actOf, .ref m_whom, .ref m_actMany, .ref m_tokens, .ref m_afters, .ref m_afterOf, .int q_counted, .ref m_pile, .ref m_caseMany, .ref m_happen, .ref m_hasIf, .ref m_becomes, .ref m_goneOf, .ref m_heard, .ref m_pairs, .ref m_heaps, .int q_rounds, .int q_heapMany, .ref m_led, .ref m_newAt, .ref m_knowing, .ref m_firsts, .int (nI q_people), .ref m_secrets, .ref m_tried, .ref m_lanes, .ref m_lengths, .ref m_cells])), (m_manys, .inl (E.2.1 1, 18, .inl f_manys)), (m_reals, .inl (E.2.1 1, 18, .inl f_reals)), (m_factsOf, .inl (E.2.1 1, 432, .inl f_factsOf)), (m_possible, .inl (E.2.1 1, 1728, .inl f_possible))]) C hT [3, 4, 0, 1, 2] rfl rfl rfl rfl dX12_of_9 (⟨rfl, (by show _ = if v0.toInt < 0 ∨ ((cN f_manys 0) : Int) ≤ v0.toInt ∨ v1.toInt < 0 ∨ 6 < v1.toInt then -1 else if v1.toInt = 0 then (pgs f_manys f_reals f_factsOf f_possible 0).2.2.1 (tN v0) else if v1.toInt = 5 then if tN v0 = (cN f_reals 0) then 1 else 0 else if v1.toInt = 6 then ofB (fun k => decide (k < 4) && !anyN ((pgs f_manys f_reals f_factsOf f_possible 0).2.2.2 k (tN v0)) 32) else ofB ((pgs f_manys f_reals f_factsOf f_possible 0).2.2.2 (tN v1 - 1) (tN v0)); rw [if_pos (show v0.toInt < 0 ∨ ((cN f_manys 0) : Int) ≤ v0.toInt ∨ v1.toInt < 0 ∨ 6 < v1.toInt by omega)])⟩)
theorem dX12_reached_0 : decode cX12_reached 0 = .ok (.iconst 0, 1) := dl_3 (by decide +kernel)
theorem dX12_reached_1 : decode cX12_reached 1 = .ok (.istore 4, 2) := dl_54 (by decide +kernel)
theorem dX12_reached_3 : decode cX12_reached 3 = .ok (.iconst 0, 1) := dl_3 (by decide +kernel)
theorem dX12_reached_4 : decode cX12_reached 4 = .ok (.istore 5, 2) := dl_54 (by decide +kernel)
theorem dX12_reached_6 : decode cX12_reached 6 = .ok (.iconst 0, 1) := dl_3 (by decide +kernel)
theorem dX12_reached_7 : decode cX12_reached 7 = .ok (.istore 6, 2) := dl_54 (by decide +kernel)
theorem dX12_reached_9 : decode cX12_reached 9 = .ok (.iload 6, 2) := dl_21 (by decide +kernel)
theorem dX12_reached_11 : decode cX12_reached 11 = .ok (.iconst 4, 1) := dl_7 (by decide +kernel)
theorem dX12_reached_12 : decode cX12_reached 12 = .ok (.if_icmp .ge 36, 3) := dl_162 (by decide +kernel)
theorem dX12_reached_48 : decode cX12_reached 48 = .ok (.iload 5, 2) := dl_21 (by decide +kernel)
theorem dX12_reached_50 : decode cX12_reached 50 = .ok (.iload 4, 2) := dl_21 (by decide +kernel)
theorem dX12_reached_52 : decode cX12_reached 52 = .ok (.if_icmp .eq 84, 3) := dl_159 (by decide +kernel)
theorem dX12_reached_136 : decode cX12_reached 136 = .ok (.iload 4, 2) := dl_21 (by decide +kernel)
theorem dX12_reached_138 : decode cX12_reached 138 = .ok (.ireturn, 1) := dl_172 (by decide +kernel)
theorem dX12_reached_55 : decode cX12_reached 55 = .ok (.iload 5, 2) := dl_21 (by decide +kernel)
theorem dX12_reached_57 : decode cX12_reached 57 = .ok (.istore 4, 2) := dl_54 (by decide +kernel)
theorem dX12_reached_59 : decode cX12_reached 59 = .ok (.iconst 0, 1) := dl_3 (by decide +kernel)
theorem dX12_reached_60 : decode cX12_reached 60 = .ok (.istore 6, 2) := dl_54 (by decide +kernel)
theorem dX12_reached_62 : decode cX12_reached 62 = .ok (.iload 6, 2) := dl_21 (by decide +kernel)
theorem dX12_reached_64 : decode cX12_reached 64 = .ok (.aload_n 0, 1) := dl_42 (by decide +kernel)
theorem dX12_reached_65 : decode cX12_reached 65 = .ok (.getfield 7, 3) := dl_180 (by decide +kernel)
theorem dX12_reached_68 : decode cX12_reached 68 = .ok (.iload_n 1, 1) := dl_27 (by decide +kernel)
theorem dX12_reached_69 : decode cX12_reached 69 = .ok (.iaload, 1) := dl_46 (by decide +kernel)
theorem dX12_reached_70 : decode cX12_reached 70 = .ok (.if_icmp .ge 63, 3) := dl_162 (by decide +kernel)
theorem dX12_reached_133 : decode cX12_reached 133 = .ok (.goto (-85), 3) := dl_167 (by decide +kernel)
theorem dX12_reached_73 : decode cX12_reached 73 = .ok (.iconst 0, 1) := dl_3 (by decide +kernel)
theorem dX12_reached_74 : decode cX12_reached 74 = .ok (.istore 7, 2) := dl_54 (by decide +kernel)
theorem dX12_reached_76 : decode cX12_reached 76 = .ok (.iload 7, 2) := dl_21 (by decide +kernel)
theorem dX12_reached_78 : decode cX12_reached 78 = .ok (.iconst 4, 1) := dl_7 (by decide +kernel)
theorem dX12_reached_79 : decode cX12_reached 79 = .ok (.if_icmp .ge 48, 3) := dl_162 (by decide +kernel)
theorem dX12_reached_127 : decode cX12_reached 127 = .ok (.iinc 6 1, 3) := dl_132 (by decide +kernel)
theorem dX12_reached_130 : decode cX12_reached 130 = .ok (.goto (-68), 3) := dl_167 (by decide +kernel)
theorem dX12_reached_82 : decode cX12_reached 82 = .ok (.iload 4, 2) := dl_21 (by decide +kernel)
theorem dX12_reached_84 : decode cX12_reached 84 = .ok (.iload 6, 2) := dl_21 (by decide +kernel)
theorem dX12_reached_86 : decode cX12_reached 86 = .ok (.ishr, 1) := dl_122 (by decide +kernel)
theorem dX12_reached_87 : decode cX12_reached 87 = .ok (.iconst 1, 1) := dl_4 (by decide +kernel)
theorem dX12_reached_88 : decode cX12_reached 88 = .ok (.iand, 1) := dl_126 (by decide +kernel)
theorem dX12_reached_89 : decode cX12_reached 89 = .ok (.iconst 1, 1) := dl_4 (by decide +kernel)
theorem dX12_reached_90 : decode cX12_reached 90 = .ok (.if_icmp .ne 37, 3) := dl_160 (by decide +kernel)
theorem dX12_reached_93 : decode cX12_reached 93 = .ok (.iload 5, 2) := dl_21 (by decide +kernel)
theorem dX12_reached_95 : decode cX12_reached 95 = .ok (.iload_n 2, 1) := dl_28 (by decide +kernel)
theorem dX12_reached_96 : decode cX12_reached 96 = .ok (.iload 7, 2) := dl_21 (by decide +kernel)
theorem dX12_reached_98 : decode cX12_reached 98 = .ok (.ishr, 1) := dl_122 (by decide +kernel)
theorem dX12_reached_99 : decode cX12_reached 99 = .ok (.iconst 1, 1) := dl_4 (by decide +kernel)
theorem dX12_reached_100 : decode cX12_reached 100 = .ok (.iand, 1) := dl_126 (by decide +kernel)
theorem dX12_reached_101 : decode cX12_reached 101 = .ok (.iconst 1, 1) := dl_4 (by decide +kernel)
theorem dX12_reached_102 : decode cX12_reached 102 = .ok (.if_icmp .ne 15, 3) := dl_160 (by decide +kernel)
theorem dX12_reached_117 : decode cX12_reached 117 = .ok (.iconst 0, 1) := dl_3 (by decide +kernel)
theorem dX12_reached_118 : decode cX12_reached 118 = .ok (.ior, 1) := dl_128 (by decide +kernel)
theorem dX12_reached_119 : decode cX12_reached 119 = .ok (.istore 5, 2) := dl_54 (by decide +kernel)
theorem dX12_reached_121 : decode cX12_reached 121 = .ok (.iinc 7 1, 3) := dl_132 (by decide +kernel)
theorem dX12_reached_124 : decode cX12_reached 124 = .ok (.goto (-48), 3) := dl_167 (by decide +kernel)
theorem dX12_reached_105 : decode cX12_reached 105 = .ok (.aload_n 0, 1) := dl_42 (by decide +kernel)
theorem dX12_reached_106 : decode cX12_reached 106 = .ok (.iload_n 1, 1) := dl_27 (by decide +kernel)
theorem dX12_reached_107 : decode cX12_reached 107 = .ok (.iload 7, 2) := dl_21 (by decide +kernel)
theorem dX12_reached_109 : decode cX12_reached 109 = .ok (.iload 6, 2) := dl_21 (by decide +kernel)
theorem dX12_reached_111 : decode cX12_reached 111 = .ok (.invokevirtual 135, 3) := dl_182 (by decide +kernel)
theorem dX12_reached_114 : decode cX12_reached 114 = .ok (.goto 4, 3) := dl_167 (by decide +kernel)
theorem dX12_reached_15 : decode cX12_reached 15 = .ok (.iload 5, 2) := dl_21 (by decide +kernel)
theorem dX12_reached_17 : decode cX12_reached 17 = .ok (.iload_n 2, 1) := dl_28 (by decide +kernel)
theorem dX12_reached_18 : decode cX12_reached 18 = .ok (.iload 6, 2) := dl_21 (by decide +kernel)
theorem dX12_reached_20 : decode cX12_reached 20 = .ok (.ishr, 1) := dl_122 (by decide +kernel)
theorem dX12_reached_21 : decode cX12_reached 21 = .ok (.iconst 1, 1) := dl_4 (by decide +kernel)
theorem dX12_reached_22 : decode cX12_reached 22 = .ok (.iand, 1) := dl_126 (by decide +kernel)
theorem dX12_reached_23 : decode cX12_reached 23 = .ok (.iconst 1, 1) := dl_4 (by decide +kernel)
theorem dX12_reached_24 : decode cX12_reached 24 = .ok (.if_icmp .ne 14, 3) := dl_160 (by decide +kernel)
theorem dX12_reached_38 : decode cX12_reached 38 = .ok (.iconst 0, 1) := dl_3 (by decide +kernel)
theorem dX12_reached_39 : decode cX12_reached 39 = .ok (.ior, 1) := dl_128 (by decide +kernel)
theorem dX12_reached_40 : decode cX12_reached 40 = .ok (.istore 5, 2) := dl_54 (by decide +kernel)
theorem dX12_reached_42 : decode cX12_reached 42 = .ok (.iinc 6 1, 3) := dl_132 (by decide +kernel)
theorem dX12_reached_45 : decode cX12_reached 45 = .ok (.goto (-36), 3) := dl_167 (by decide +kernel)
theorem dX12_reached_27 : decode cX12_reached 27 = .ok (.aload_n 0, 1) := dl_42 (by decide +kernel)
theorem dX12_reached_28 : decode cX12_reached 28 = .ok (.iload_n 1, 1) := dl_27 (by decide +kernel)
theorem dX12_reached_29 : decode cX12_reached 29 = .ok (.iload 6, 2) := dl_21 (by decide +kernel)
theorem dX12_reached_31 : decode cX12_reached 31 = .ok (.iload_n 3, 1) := dl_29 (by decide +kernel)
theorem dX12_reached_32 : decode cX12_reached 32 = .ok (.invokevirtual 135, 3) := dl_182 (by decide +kernel)
theorem dX12_reached_35 : decode cX12_reached 35 = .ok (.goto 4, 3) := dl_167 (by decide +kernel)
set_option maxRecDepth 100000 in
set_option maxHeartbeats 4000000 in
theorem r_reached (l : Launch) (E : EV) (ro : va_W) (hm : Nat) (pg : Nat) (gr : Int32) (w : Nat) (m_manys : Nat) (m_reals : Nat) (m_factsOf : Nat) (m_possible : Nat) (q_undos : Nat) (q_models : Nat) (m_tape : Nat) (q_taped : Nat) (q_fault : Int32) (q_wrong : Int32) (q_wrongAt : Int32) (q_spot : Int32) (q_place : Int32) (q_token : Int32) (q_value : Int32) (m_ends : Nat) (m_letters : Nat) (m_actOf : Nat) (m_whom : Nat) (m_actMany : Nat) (m_tokens : Nat) (m_afters : Nat) (m_afterOf : Nat) (q_counted : Int32) (m_pile : Nat) (m_caseMany : Nat) (m_happen : Nat) (m_hasIf : Nat) (m_becomes : Nat) (m_goneOf : Nat) (m_heard : Nat) (m_pairs : Nat) (m_heaps : Nat) (q_rounds : Int32) (q_heapMany : Int32) (m_led : Nat) (m_newAt : Nat) (m_knowing : Nat) (m_firsts : Nat) (q_people : Nat) (m_secrets : Nat) (m_tried : Nat) (m_lanes : Nat) (m_lengths : Nat) (m_cells : Nat) (f_manys : Nat → Int32) (f_reals : Nat → Int32) (f_factsOf : Nat → Int32) (f_possible : Nat → Int32) (hb_manys : NB 18 24 f_manys) (hb_reals : NB 18 23 f_reals) (hpg : PG f_manys f_reals) (hwf : WFP (pgs f_manys f_reals f_factsOf f_possible)) (hpgl : pg < 18) (hw : w < cN f_manys pg) : CT l yX12_reached (Cond.code yX12_reached cX12_reached 8 (some .int) :: TB) ({ frames := 1, cells := 0, slots := 0, locals := 23 }) E ro [.ref hm, .int (nI pg), .int gr, .int (nI w)] [(hm, .inr (12, [.ref m_manys, .ref m_reals, .ref m_factsOf, .ref m_possible, .int (nI q_undos), .int (nI q_models), .ref m_tape, .int (nI q_taped), .int q_fault, .int q_wrong, .int q_wrongAt, .int q_spot, .int q_place, .int q_token, .int q_value, .ref m_ends, .ref m_letters, .ref m_actOf, .ref m_whom, .ref m_actMany, .ref m_tokens, .ref m_afters, .ref m_afterOf, .int q_counted, .ref m_pile, .ref m_caseMany, .ref m_happen, .ref m_hasIf, .ref m_becomes, .ref m_goneOf, .ref m_heard, .ref m_pairs, .ref m_heaps, .int q_rounds, .int q_heapMany, .ref m_led, .ref m_newAt, .ref m_knowing, .ref m_firsts, .int (nI q_people), .ref m_secrets, .ref m_tried, .ref m_lanes, .ref m_lengths, .ref m_cells])), (m_manys, .inl (E.2.1 1, 18, .inl f_manys)), (m_reals, .inl (E.2.1 1, 18, .inl f_reals)), (m_factsOf, .inl (E.2.1 1, 432, .inl f_factsOf)), (m_possible, .inl (E.2.1 1, 1728, .inl f_possible))] (Qi E (fun (rz : Int32) uz => (uz = [(hm, .inr (12, [.ref m_manys, .ref m_reals, .ref m_factsOf, .ref m_possible, .int (nI q_undos), .int (nI q_models), .ref m_tape, .int (nI q_taped), .int q_fault, .int q_wrong, .int q_wrongAt, .int q_spot, .int q_place, .int q_token, .int q_value, .ref m_ends, .ref m_letters, .ref m_actOf, .ref m_whom, .ref m_actMany, .ref m_tokens, .ref m_afters, .ref m_afterOf, .int q_counted, .ref m_pile, .ref m_caseMany, .ref m_happen, .ref m_hasIf, .ref m_becomes, .ref m_goneOf, .ref m_heard, .ref m_pairs, .ref m_heaps, .int q_rounds, .int q_heapMany, .ref m_led, .ref m_newAt, .ref m_knowing, .ref m_firsts, .int (nI q_people), .ref m_secrets, .ref m_tried, .ref m_lanes, .ref m_lengths, .ref m_cells])), (m_manys, .inl (E.2.1 1, 18, .inl f_manys)), (m_reals, .inl (E.2.1 1, 18, .inl f_reals)), (m_factsOf, .inl (E.2.1 1, 432, .inl f_factsOf)), (m_possible, .inl (E.2.1 1, 1728, .inl f_possible))] ∧ (BS rz (Rc (pgs f_manys f_reals f_factsOf f_possible pg) gr w))))) 0 0 := by
  refine ct_of rfl rfl ?_
  intro X C hT hin hro
  show WW X 8 E 0 [(0, .ref hm), (1, .int (nI pg)), (2, .int gr), (3, .int (nI w))] [] [(hm, .inr (12, [.ref m_manys, .ref m_reals, .ref m_factsOf, .ref m_possible, .int (nI q_undos), .int (nI q_models), .ref m_tape, .int (nI q_taped), .int q_fault, .int q_wrong, .int q_wrongAt, .int q_spot, .int q_place, .int q_token, .int q_value, .ref m_ends, .ref m_letters, .ref m_actOf, .ref m_whom, .ref m_actMany, .ref m_tokens, .ref m_afters, .ref m_afterOf, .int q_counted, .ref m_pile, .ref m_caseMany, .ref m_happen, .ref m_hasIf, .ref m_becomes, .ref m_goneOf, .ref m_heard, .ref m_pairs, .ref m_heaps, .int q_rounds, .int q_heapMany, .ref m_led, .ref m_newAt, .ref m_knowing, .ref m_firsts, .int (nI q_people), .ref m_secrets, .ref m_tried, .ref m_lanes, .ref m_lengths, .ref m_cells])), (m_manys, .inl (E.2.1 1, 18, .inl f_manys)), (m_reals, .inl (E.2.1 1, 18, .inl f_reals)), (m_factsOf, .inl (E.2.1 1, 432, .inl f_factsOf)), (m_possible, .inl (E.2.1 1, 1728, .inl f_possible))] 0 0
  have hmn0 := (hb_manys 0 (by omega)).2
  have hmn := (hb_manys pg (by omega)).2
  refine ww_iconst (v := 0) C dX12_reached_0 rfl ?_
  refine ww_istore (lv' := [(4, .int 0), (0, .ref hm), (1, .int (nI pg)), (2, .int gr), (3, .int (nI w))]) C dX12_reached_1 rfl rfl ?_
  refine ww_iconst (v := 0) C dX12_reached_3 rfl ?_
  refine ww_istore (lv' := [(5, .int 0), (4, .int 0), (0, .ref hm), (1, .int (nI pg)), (2, .int gr), (3, .int (nI w))]) C dX12_reached_4 rfl rfl ?_
  refine ww_iconst (v := 0) C dX12_reached_6 rfl ?_
  refine ww_istore (lv' := [(6, .int 0), (5, .int 0), (4, .int 0), (0, .ref hm), (1, .int (nI pg)), (2, .int gr), (3, .int (nI w))]) C dX12_reached_7 rfl rfl ?_
  have loop_9 : ∀ (fu : Nat) (i1 : Nat) (n1 : Int32), (i1 ≤ 4) → (NXr gr (sh (96 * pg) f_possible) w i1 n1) → 4 - i1 < fu → WW X 8 E 9 [(6, .int (nI i1)), (5, .int n1), (4, .int 0), (0, .ref hm), (1, .int (nI pg)), (2, .int gr), (3, .int (nI w))] [] [(hm, .inr (12, [.ref m_manys, .ref m_reals, .ref m_factsOf, .ref m_possible, .int (nI q_undos), .int (nI q_models), .ref m_tape, .int (nI q_taped), .int q_fault, .int q_wrong, .int q_wrongAt, .int q_spot, .int q_place, .int q_token, .int q_value, .ref m_ends, .ref m_letters, .ref m_actOf, .ref m_whom, .ref m_actMany, .ref m_tokens, .ref m_afters, .ref m_afterOf, .int q_counted, .ref m_pile, .ref m_caseMany, .ref m_happen, .ref m_hasIf, .ref m_becomes, .ref m_goneOf, .ref m_heard, .ref m_pairs, .ref m_heaps, .int q_rounds, .int q_heapMany, .ref m_led, .ref m_newAt, .ref m_knowing, .ref m_firsts, .int (nI q_people), .ref m_secrets, .ref m_tried, .ref m_lanes, .ref m_lengths, .ref m_cells])), (m_manys, .inl (E.2.1 1, 18, .inl f_manys)), (m_reals, .inl (E.2.1 1, 18, .inl f_reals)), (m_factsOf, .inl (E.2.1 1, 432, .inl f_factsOf)), (m_possible, .inl (E.2.1 1, 1728, .inl f_possible))] 0 0 := by
    intro fu
    induction fu with
    | zero => intro i1 n1 hi1 hnx hmeas; exact absurd hmeas (Nat.not_lt_zero _)
    | succ fu ih_9 =>
      intro i1 n1 hi1 hnx hmeas
      refine ww_iload C dX12_reached_9 0 rfl ?_
      refine ww_iconst (v := 4) C dX12_reached_11 rfl ?_
      refine ww_icmp_ge (tgt := 48) C dX12_reached_12 (by decide) (fun c_1 => ?_) (fun c_1 => ?_)
      · have zc_1 : ((i1 : Nat) : Int) ≥ 4 := i_le rfl (nI_toInt (n := i1) (by omega)) c_1
        have loop_48 : ∀ (fu : Nat) (so : Int32) (nx : Int32), (SB so nx) → (RCs (pgs f_manys f_reals f_factsOf f_possible pg) gr w nx) → (RCc (pgs f_manys f_reals f_factsOf f_possible pg) gr so (cN f_manys pg) nx) → 32 - cb (bt so) 32 < fu → WW X 8 E 48 [(5, .int nx), (4, .int so), (0, .ref hm), (1, .int (nI pg)), (2, .int gr), (3, .int (nI w))] [] [(hm, .inr (12, [.ref m_manys, .ref m_reals, .ref m_factsOf, .ref m_possible, .int (nI q_undos), .int (nI q_models), .ref m_tape, .int (nI q_taped), .int q_fault, .int q_wrong, .int q_wrongAt, .int q_spot, .int q_place, .int q_token, .int q_value, .ref m_ends, .ref m_letters, .ref m_actOf, .ref m_whom, .ref m_actMany, .ref m_tokens, .ref m_afters, .ref m_afterOf, .int q_counted, .ref m_pile, .ref m_caseMany, .ref m_happen, .ref m_hasIf, .ref m_becomes, .ref m_goneOf, .ref m_heard, .ref m_pairs, .ref m_heaps, .int q_rounds, .int q_heapMany, .ref m_led, .ref m_newAt, .ref m_knowing, .ref m_firsts, .int (nI q_people), .ref m_secrets, .ref m_tried, .ref m_lanes, .ref m_lengths, .ref m_cells])), (m_manys, .inl (E.2.1 1, 18, .inl f_manys)), (m_reals, .inl (E.2.1 1, 18, .inl f_reals)), (m_factsOf, .inl (E.2.1 1, 432, .inl f_factsOf)), (m_possible, .inl (E.2.1 1, 1728, .inl f_possible))] 0 0 := by
          intro fu
          induction fu with
          | zero => intro so nx hsb hrs hrc hmeas; exact absurd hmeas (Nat.not_lt_zero _)
          | succ fu ih_48 =>
            intro so nx hsb hrs hrc hmeas
            refine ww_iload C dX12_reached_48 0 rfl ?_
            refine ww_iload C dX12_reached_50 1 rfl ?_
            refine ww_icmp_eq (tgt := 136) C dX12_reached_52 (by decide) (fun c_2 => ?_) (fun c_2 => ?_)
            · have zc_2 : nx.toInt = so.toInt := i_eq rfl rfl c_2
              refine ww_iload C dX12_reached_136 1 rfl ?_
              exact ww_iret (u := [(hm, .inr (12, [.ref m_manys, .ref m_reals, .ref m_factsOf, .ref m_possible, .int (nI q_undos), .int (nI q_models), .ref m_tape, .int (nI q_taped), .int q_fault, .int q_wrong, .int q_wrongAt, .int q_spot, .int q_place, .int q_token, .int q_value, .ref m_ends, .ref m_letters, .ref m_actOf, .ref m_whom, .ref m_actMany, .ref m_tokens, .ref m_afters, .ref m_afterOf, .int q_counted, .ref m_pile, .ref m_caseMany, .ref m_happen, .ref m_hasIf, .ref m_becomes, .ref m_goneOf, .ref m_heard, .ref m_pairs, .ref m_heaps, .int q_rounds, .int q_heapMany, .ref m_led, .ref m_newAt, .ref m_knowing, .ref m_firsts, .int (nI q_people), .ref m_secrets, .ref m_tried, .ref m_lanes, .ref m_lengths, .ref m_cells])), (m_manys, .inl (E.2.1 1, 18, .inl f_manys)), (m_reals, .inl (E.2.1 1, 18, .inl f_reals)), (m_factsOf, .inl (E.2.1 1, 432, .inl f_factsOf)), (m_possible, .inl (E.2.1 1, 1728, .inl f_possible))]) C hT [0, 1, 2, 3, 4] rfl rfl rfl rfl dX12_reached_138 (⟨rfl, (Rc_end hrs hrc (Int32.toInt_inj.mp (by assumption)))⟩)
            · have zc_2 : nx.toInt ≠ so.toInt := i_ne rfl rfl c_2
              refine ww_iload C dX12_reached_55 0 rfl ?_
              refine ww_istore (lv' := [(4, .int nx), (5, .int nx), (0, .ref hm), (1, .int (nI pg)), (2, .int gr), (3, .int (nI w))]) C dX12_reached_57 rfl rfl ?_
              refine ww_iconst (v := 0) C dX12_reached_59 rfl ?_
              refine ww_istore (lv' := [(6, .int 0), (4, .int nx), (5, .int nx), (0, .ref hm), (1, .int (nI pg)), (2, .int gr), (3, .int (nI w))]) C dX12_reached_60 rfl rfl ?_
              have loop_62 : ∀ (fu : Nat) (i2 : Nat) (n2 : Int32), (i2 ≤ cN f_manys pg) → (SB nx n2) → (RCs (pgs f_manys f_reals f_factsOf f_possible pg) gr w n2) → (RCc (pgs f_manys f_reals f_factsOf f_possible pg) gr nx i2 n2) → cN f_manys pg - i2 < fu → WW X 8 E 62 [(6, .int (nI i2)), (4, .int nx), (5, .int n2), (0, .ref hm), (1, .int (nI pg)), (2, .int gr), (3, .int (nI w))] [] [(hm, .inr (12, [.ref m_manys, .ref m_reals, .ref m_factsOf, .ref m_possible, .int (nI q_undos), .int (nI q_models), .ref m_tape, .int (nI q_taped), .int q_fault, .int q_wrong, .int q_wrongAt, .int q_spot, .int q_place, .int q_token, .int q_value, .ref m_ends, .ref m_letters, .ref m_actOf, .ref m_whom, .ref m_actMany, .ref m_tokens, .ref m_afters, .ref m_afterOf, .int q_counted, .ref m_pile, .ref m_caseMany, .ref m_happen, .ref m_hasIf, .ref m_becomes, .ref m_goneOf, .ref m_heard, .ref m_pairs, .ref m_heaps, .int q_rounds, .int q_heapMany, .ref m_led, .ref m_newAt, .ref m_knowing, .ref m_firsts, .int (nI q_people), .ref m_secrets, .ref m_tried, .ref m_lanes, .ref m_lengths, .ref m_cells])), (m_manys, .inl (E.2.1 1, 18, .inl f_manys)), (m_reals, .inl (E.2.1 1, 18, .inl f_reals)), (m_factsOf, .inl (E.2.1 1, 432, .inl f_factsOf)), (m_possible, .inl (E.2.1 1, 1728, .inl f_possible))] 0 0 := by
                intro fu
                induction fu with
                | zero => intro i2 n2 hi2 hsb2 hrs2 hrc2 hmeas; exact absurd hmeas (Nat.not_lt_zero _)
                | succ fu ih_62 =>
                  intro i2 n2 hi2 hsb2 hrs2 hrc2 hmeas
                  refine ww_iload C dX12_reached_62 0 rfl ?_
                  refine ww_aload_n C dX12_reached_64 3 rfl rfl ?_
                  refine ww_get C fg_X12_7 0 rfl rfl dX12_reached_65 ?_
                  refine ww_iload_n C dX12_reached_68 4 rfl rfl ?_
                  have hbx_3 := (hb_manys pg (by omega)).2
                  refine ww_iald (v := (nI (cN f_manys pg))) C 1 rfl (vp_in_nI (by omega) (by omega)) (ldn (by omega) (hb_manys pg (by omega)).1) dX12_reached_69 ?_
                  refine ww_icmp_ge (tgt := 133) C dX12_reached_70 (by decide) (fun c_4 => ?_) (fun c_4 => ?_)
                  · have zc_4 : ((i2 : Nat) : Int) ≥ ((cN f_manys pg : Nat) : Int) := i_le (nI_toInt (n := cN f_manys pg) (by omega)) (nI_toInt (n := i2) (by omega)) c_4
                    refine ww_goto (tgt := 48) C dX12_reached_133 (by decide) ?_
                    exact ww_lv [2, 1, 3, 4, 5, 6] rfl (ww_sub [0, 1, 2, 3, 4] rfl rfl (ih_48 nx n2 hsb2 hrs2 (by have h9 : i2 = cN f_manys pg := (by omega); rw [h9] at hrc2; exact hrc2) (by have h8 := SB.lt' hsb (by assumption); have h9 := cb_le (bt nx) 32; omega)))
                  · have zc_4 : ((i2 : Nat) : Int) < ((cN f_manys pg : Nat) : Int) := i_nle (nI_toInt (n := cN f_manys pg) (by omega)) (nI_toInt (n := i2) (by omega)) c_4
                    refine ww_iconst (v := 0) C dX12_reached_73 rfl ?_
                    refine ww_istore (lv' := [(7, .int 0), (6, .int (nI i2)), (4, .int nx), (5, .int n2), (0, .ref hm), (1, .int (nI pg)), (2, .int gr), (3, .int (nI w))]) C dX12_reached_74 rfl rfl ?_
                    have loop_76 : ∀ (fu : Nat) (i3 : Nat) (n3 : Int32), (i3 ≤ 4) → (SB nx n3) → (RCs (pgs f_manys f_reals f_factsOf f_possible pg) gr w n3) → (RCc (pgs f_manys f_reals f_factsOf f_possible pg) gr nx i2 n3) → (bt nx i2 = true → RCk (pgs f_manys f_reals f_factsOf f_possible pg) gr i2 i3 n3) → 4 - i3 < fu → WW X 8 E 76 [(7, .int (nI i3)), (6, .int (nI i2)), (4, .int nx), (5, .int n3), (0, .ref hm), (1, .int (nI pg)), (2, .int gr), (3, .int (nI w))] [] [(hm, .inr (12, [.ref m_manys, .ref m_reals, .ref m_factsOf, .ref m_possible, .int (nI q_undos), .int (nI q_models), .ref m_tape, .int (nI q_taped), .int q_fault, .int q_wrong, .int q_wrongAt, .int q_spot, .int q_place, .int q_token, .int q_value, .ref m_ends, .ref m_letters, .ref m_actOf, .ref m_whom, .ref m_actMany, .ref m_tokens, .ref m_afters, .ref m_afterOf, .int q_counted, .ref m_pile, .ref m_caseMany, .ref m_happen, .ref m_hasIf, .ref m_becomes, .ref m_goneOf, .ref m_heard, .ref m_pairs, .ref m_heaps, .int q_rounds, .int q_heapMany, .ref m_led, .ref m_newAt, .ref m_knowing, .ref m_firsts, .int (nI q_people), .ref m_secrets, .ref m_tried, .ref m_lanes, .ref m_lengths, .ref m_cells])), (m_manys, .inl (E.2.1 1, 18, .inl f_manys)), (m_reals, .inl (E.2.1 1, 18, .inl f_reals)), (m_factsOf, .inl (E.2.1 1, 432, .inl f_factsOf)), (m_possible, .inl (E.2.1 1, 1728, .inl f_possible))] 0 0 := by
                      intro fu
                      induction fu with
                      | zero => intro i3 n3 hi3 hsb3 hrs3 hrc3 hrk hmeas; exact absurd hmeas (Nat.not_lt_zero _)
                      | succ fu ih_76 =>
                        intro i3 n3 hi3 hsb3 hrs3 hrc3 hrk hmeas
                        refine ww_iload C dX12_reached_76 0 rfl ?_
                        refine ww_iconst (v := 4) C dX12_reached_78 rfl ?_
                        refine ww_icmp_ge (tgt := 127) C dX12_reached_79 (by decide) (fun c_5 => ?_) (fun c_5 => ?_)
                        · have zc_5 : ((i3 : Nat) : Int) ≥ 4 := i_le rfl (nI_toInt (n := i3) (by omega)) c_5
                          refine ww_iinc (j := 1) (v := (nI (i2 + 1))) (lv' := [(6, .int (nI (i2 + 1))), (7, .int (nI i3)), (4, .int nx), (5, .int n3), (0, .ref hm), (1, .int (nI pg)), (2, .int gr), (3, .int (nI w))]) C dX12_reached_127 rfl (nI_add i2 1) rfl rfl ?_
                          refine ww_goto (tgt := 62) C dX12_reached_130 (by decide) ?_
                          exact ww_lv [0, 2, 3, 4, 5, 6, 7] rfl (ww_sub [0, 1, 2, 3, 4] rfl rfl (ih_62 (i2 + 1) n3 (by omega) hsb3 hrs3 (RCc.ext hrc3 (fun h9 => by first | (have h8 : i3 = 4 := (by omega); rw [h8] at hrk; exact hrk h9) | (rw [hasb_0 (by omega) (by assumption) (by assumption) (by omega)] at h9; cases h9))) (by omega)))
                        · have zc_5 : ((i3 : Nat) : Int) < 4 := i_nle rfl (nI_toInt (n := i3) (by omega)) c_5
                          refine ww_iload C dX12_reached_82 2 rfl ?_
                          refine ww_iload C dX12_reached_84 1 rfl ?_
                          obtain ⟨x_6, ex_6⟩ : ∃ z : Int32, nx >>> ((nI i2) &&& 31) = z := ⟨_, rfl⟩
                          refine ww_ishr (v := x_6) C dX12_reached_86 ex_6 ?_
                          refine ww_iconst (v := 1) C dX12_reached_87 rfl ?_
                          obtain ⟨j_7, hj_7, ej_7⟩ := pk_andE x_6 (m := 1) 1 rfl
                          refine ww_iand (v := (nI j_7)) C dX12_reached_88 ej_7 ?_
                          refine ww_iconst (v := 1) C dX12_reached_89 rfl ?_
                          refine ww_icmp_ne (tgt := 127) C dX12_reached_90 (by decide) (fun c_8 => ?_) (fun c_8 => ?_)
                          · have zc_8 : ((j_7 : Nat) : Int) ≠ 1 := i_ne (nI_toInt (n := j_7) (by omega)) rfl c_8
                            refine ww_iinc (j := 1) (v := (nI (i2 + 1))) (lv' := [(6, .int (nI (i2 + 1))), (7, .int (nI i3)), (4, .int nx), (5, .int n3), (0, .ref hm), (1, .int (nI pg)), (2, .int gr), (3, .int (nI w))]) C dX12_reached_127 rfl (nI_add i2 1) rfl rfl ?_
                            refine ww_goto (tgt := 62) C dX12_reached_130 (by decide) ?_
                            exact ww_lv [0, 2, 3, 4, 5, 6, 7] rfl (ww_sub [0, 1, 2, 3, 4] rfl rfl (ih_62 (i2 + 1) n3 (by omega) hsb3 hrs3 (RCc.ext hrc3 (fun h9 => by first | (have h8 : i3 = 4 := (by omega); rw [h8] at hrk; exact hrk h9) | (rw [hasb_0 (by omega) (by assumption) (by assumption) (by omega)] at h9; cases h9))) (by omega)))
                          · have zc_8 : ((j_7 : Nat) : Int) = 1 := i_eq (nI_toInt (n := j_7) (by omega)) rfl c_8
                            refine ww_iload C dX12_reached_93 3 rfl ?_
                            refine ww_iload_n C dX12_reached_95 6 rfl rfl ?_
                            refine ww_iload C dX12_reached_96 0 rfl ?_
                            obtain ⟨x_9, ex_9⟩ : ∃ z : Int32, gr >>> ((nI i3) &&& 31) = z := ⟨_, rfl⟩
                            refine ww_ishr (v := x_9) C dX12_reached_98 ex_9 ?_
                            refine ww_iconst (v := 1) C dX12_reached_99 rfl ?_
                            obtain ⟨j_10, hj_10, ej_10⟩ := pk_andE x_9 (m := 1) 1 rfl
                            refine ww_iand (v := (nI j_10)) C dX12_reached_100 ej_10 ?_
                            refine ww_iconst (v := 1) C dX12_reached_101 rfl ?_
                            refine ww_icmp_ne (tgt := 117) C dX12_reached_102 (by decide) (fun c_11 => ?_) (fun c_11 => ?_)
                            · have zc_11 : ((j_10 : Nat) : Int) ≠ 1 := i_ne (nI_toInt (n := j_10) (by omega)) rfl c_11
                              refine ww_iconst (v := 0) C dX12_reached_117 rfl ?_
                              obtain ⟨x_12, ex_12⟩ : ∃ z : Int32, n3 ||| (0 : Int32) = z := ⟨_, rfl⟩
                              refine ww_ior (v := x_12) C dX12_reached_118 ex_12 ?_
                              refine ww_istore (lv' := [(5, .int x_12), (7, .int (nI i3)), (6, .int (nI i2)), (4, .int nx), (0, .ref hm), (1, .int (nI pg)), (2, .int gr), (3, .int (nI w))]) C dX12_reached_119 rfl rfl ?_
                              refine ww_iinc (j := 1) (v := (nI (i3 + 1))) (lv' := [(7, .int (nI (i3 + 1))), (5, .int x_12), (6, .int (nI i2)), (4, .int nx), (0, .ref hm), (1, .int (nI pg)), (2, .int gr), (3, .int (nI w))]) C dX12_reached_121 rfl (nI_add i3 1) rfl rfl ?_
                              refine ww_goto (tgt := 76) C dX12_reached_124 (by decide) ?_
                              exact ww_lv [0, 2, 3, 1, 4, 5, 6, 7] rfl (ww_sub [0, 1, 2, 3, 4] rfl rfl (ih_76 (i3 + 1) x_12 (by omega) (SB.or hsb3 (by assumption)) (by first | exact RCs.or hrs3 (hwf pg (by omega)) (show i2 < cN f_manys pg by omega) (hrs.2 i2 (by omega) (hasb_1 (b := nx) (p := i2) (by omega) (by assumption) (by assumption) (by omega))) (hasb_1 (p := i3) (by omega) (by assumption) (by assumption) (by omega)) (by omega) (fun v hv h9 => by rw [pg_S (p := pg) (k := i3) (w := i2) (by omega) (by omega)]; exact h9) (by assumption) | exact RCs.z hrs3 (by assumption)) (RCc.or hrc3 (by assumption)) (fun h8 => by first | exact RCk.t (hrk h8) (fun v h9 => by rw [pg_S (p := pg) (k := i3) (w := i2) (by omega) (by omega)] at h9; exact h9) (by assumption) | exact RCk.f (hrk h8) (hasb_0 (p := i3) (by omega) (by assumption) (by assumption) (by omega)) (by assumption)) (by omega)))
                            · have zc_11 : ((j_10 : Nat) : Int) = 1 := i_eq (nI_toInt (n := j_10) (by omega)) rfl c_11
                              refine ww_aload_n C dX12_reached_105 4 rfl rfl ?_
                              refine ww_iload_n C dX12_reached_106 5 rfl rfl ?_
                              refine ww_iload C dX12_reached_107 0 rfl ?_
                              refine ww_iload C dX12_reached_109 1 rfl ?_
                              refine ww_ci (wr := [(m_manys, .inl (E.2.1 1, 18, .inl f_manys)), (m_reals, .inl (E.2.1 1, 18, .inl f_reals)), (m_factsOf, .inl (E.2.1 1, 432, .inl f_factsOf))]) (k' := 0) (n' := 0) C (run_V (As := [.int (nI pg), .int (nI i3), .int (nI i2)]) (rest := [.int n3]) C (r_seen X.2.1 E ro hm pg i3 i2 m_manys m_reals m_factsOf m_possible q_undos q_models m_tape q_taped q_fault q_wrong q_wrongAt q_spot q_place q_token q_value m_ends m_letters m_actOf m_whom m_actMany m_tokens m_afters m_afterOf q_counted m_pile m_caseMany m_happen m_hasIf m_becomes m_goneOf m_heard m_pairs m_heaps q_rounds q_heapMany m_led m_newAt m_knowing m_firsts q_people m_secrets m_tried m_lanes m_lengths m_cells f_possible (by omega) (by omega) (by omega)) mi_X12_seen wl_X12_135 rfl 0 12 rfl rfl rfl rfl rfl dX12_reached_111) (roK hro) [0, 4] [1, 2, 3] rfl rfl rfl rfl (fun r_13 uz hw => ?_)
                              refine an1 hw ?_
                              clear hw
                              intro he_14 hw
                              have he_15 := hw
                              clear hw
                              have he_14 := he_14.symm
                              subst he_14
                              subst he_15
                              refine ww_eq (ws' := [(m_manys, .inl (E.2.1 1, 18, .inl f_manys)), (m_reals, .inl (E.2.1 1, 18, .inl f_reals)), (m_factsOf, .inl (E.2.1 1, 432, .inl f_factsOf)), (hm, .inr (12, [.ref m_manys, .ref m_reals, .ref m_factsOf, .ref m_possible, .int (nI q_undos), .int (nI q_models), .ref m_tape, .int (nI q_taped), .int q_fault, .int q_wrong, .int q_wrongAt, .int q_spot, .int q_place, .int q_token, .int q_value, .ref m_ends, .ref m_letters, .ref m_actOf, .ref m_whom, .ref m_actMany, .ref m_tokens, .ref m_afters, .ref m_afterOf, .int q_counted, .ref m_pile, .ref m_caseMany, .ref m_happen, .ref m_hasIf, .ref m_becomes, .ref m_goneOf, .ref m_heard, .ref m_pairs, .ref m_heaps, .int q_rounds, .int q_heapMany, .ref m_led, .ref m_newAt, .ref m_knowing, .ref m_firsts, .int (nI q_people), .ref m_secrets, .ref m_tried, .ref m_lanes, .ref m_lengths, .ref m_cells])), (m_possible, .inl (E.2.1 1, 1728, .inl f_possible))]) ?_ rfl rfl rfl
                              refine ww_goto (tgt := 118) C dX12_reached_114 (by decide) ?_
                              obtain ⟨x_16, ex_16⟩ : ∃ z : Int32, n3 ||| (f_possible (96 * pg + 24 * i3 + i2)) = z := ⟨_, rfl⟩
                              refine ww_ior (v := x_16) C dX12_reached_118 ex_16 ?_
                              refine ww_istore (lv' := [(5, .int x_16), (7, .int (nI i3)), (6, .int (nI i2)), (4, .int nx), (0, .ref hm), (1, .int (nI pg)), (2, .int gr), (3, .int (nI w))]) C dX12_reached_119 rfl rfl ?_
                              refine ww_iinc (j := 1) (v := (nI (i3 + 1))) (lv' := [(7, .int (nI (i3 + 1))), (5, .int x_16), (6, .int (nI i2)), (4, .int nx), (0, .ref hm), (1, .int (nI pg)), (2, .int gr), (3, .int (nI w))]) C dX12_reached_121 rfl (nI_add i3 1) rfl rfl ?_
                              refine ww_goto (tgt := 76) C dX12_reached_124 (by decide) ?_
                              exact ww_lv [0, 2, 3, 1, 4, 5, 6, 7] rfl (ww_sub [3, 0, 1, 2, 4] rfl rfl (ih_76 (i3 + 1) x_16 (by omega) (SB.or hsb3 (by assumption)) (by first | exact RCs.or hrs3 (hwf pg (by omega)) (show i2 < cN f_manys pg by omega) (hrs.2 i2 (by omega) (hasb_1 (b := nx) (p := i2) (by omega) (by assumption) (by assumption) (by omega))) (hasb_1 (p := i3) (by omega) (by assumption) (by assumption) (by omega)) (by omega) (fun v hv h9 => by rw [pg_S (p := pg) (k := i3) (w := i2) (by omega) (by omega)]; exact h9) (by assumption) | exact RCs.z hrs3 (by assumption)) (RCc.or hrc3 (by assumption)) (fun h8 => by first | exact RCk.t (hrk h8) (fun v h9 => by rw [pg_S (p := pg) (k := i3) (w := i2) (by omega) (by omega)] at h9; exact h9) (by assumption) | exact RCk.f (hrk h8) (hasb_0 (p := i3) (by omega) (by assumption) (by assumption) (by omega)) (by assumption)) (by omega)))
                    exact ww_lv [0, 1, 2, 3, 4, 5, 6, 7] rfl (ww_sub [0, 1, 2, 3, 4] rfl rfl (loop_76 _ 0 n2 (by omega) hsb2 hrs2 hrc2 (fun _ => RCk.nil) (Nat.lt_succ_self _)))
              exact ww_lv [0, 1, 2, 3, 4, 5, 6] rfl (ww_sub [0, 1, 2, 3, 4] rfl rfl (loop_62 _ 0 nx (by omega) SB.rf hrs RCc.nil (Nat.lt_succ_self _)))
        exact ww_lv [1, 2, 3, 4, 5, 6] rfl (ww_sub [0, 1, 2, 3, 4] rfl rfl (loop_48 _ 0 n1 SB.zero (RCs.st (hwf pg (by omega)) (by show cN f_manys pg ≤ 24; omega) (nx_pg hw (by have h9 : i1 = 4 := (by omega); rw [h9] at hnx; exact hnx))) RCc.z (Nat.lt_succ_self _)))
      · have zc_1 : ((i1 : Nat) : Int) < 4 := i_nle rfl (nI_toInt (n := i1) (by omega)) c_1
        refine ww_iload C dX12_reached_15 1 rfl ?_
        refine ww_iload_n C dX12_reached_17 5 rfl rfl ?_
        refine ww_iload C dX12_reached_18 0 rfl ?_
        obtain ⟨x_17, ex_17⟩ : ∃ z : Int32, gr >>> ((nI i1) &&& 31) = z := ⟨_, rfl⟩
        refine ww_ishr (v := x_17) C dX12_reached_20 ex_17 ?_
        refine ww_iconst (v := 1) C dX12_reached_21 rfl ?_
        obtain ⟨j_18, hj_18, ej_18⟩ := pk_andE x_17 (m := 1) 1 rfl
        refine ww_iand (v := (nI j_18)) C dX12_reached_22 ej_18 ?_
        refine ww_iconst (v := 1) C dX12_reached_23 rfl ?_
        refine ww_icmp_ne (tgt := 38) C dX12_reached_24 (by decide) (fun c_19 => ?_) (fun c_19 => ?_)
        · have zc_19 : ((j_18 : Nat) : Int) ≠ 1 := i_ne (nI_toInt (n := j_18) (by omega)) rfl c_19
          refine ww_iconst (v := 0) C dX12_reached_38 rfl ?_
          obtain ⟨x_20, ex_20⟩ : ∃ z : Int32, n1 ||| (0 : Int32) = z := ⟨_, rfl⟩
          refine ww_ior (v := x_20) C dX12_reached_39 ex_20 ?_
          refine ww_istore (lv' := [(5, .int x_20), (6, .int (nI i1)), (4, .int 0), (0, .ref hm), (1, .int (nI pg)), (2, .int gr), (3, .int (nI w))]) C dX12_reached_40 rfl rfl ?_
          refine ww_iinc (j := 1) (v := (nI (i1 + 1))) (lv' := [(6, .int (nI (i1 + 1))), (5, .int x_20), (4, .int 0), (0, .ref hm), (1, .int (nI pg)), (2, .int gr), (3, .int (nI w))]) C dX12_reached_42 rfl (nI_add i1 1) rfl rfl ?_
          refine ww_goto (tgt := 9) C dX12_reached_45 (by decide) ?_
          exact ww_lv [0, 1, 2, 3, 4, 5, 6] rfl (ww_sub [0, 1, 2, 3, 4] rfl rfl (ih_9 (i1 + 1) x_20 (by omega) (by first | exact NXr.t hnx (hasb_1 (by omega) (by assumption) (by assumption) (by omega)) (show sh (96 * pg) f_possible (i1 * 24 + w) = f_possible (96 * pg + 24 * i1 + w) from congrArg f_possible (by omega)) (by assumption) | exact NXr.z hnx (hasb_0 (by omega) (by assumption) (by assumption) (by omega)) (by assumption)) (by omega)))
        · have zc_19 : ((j_18 : Nat) : Int) = 1 := i_eq (nI_toInt (n := j_18) (by omega)) rfl c_19
          refine ww_aload_n C dX12_reached_27 3 rfl rfl ?_
          refine ww_iload_n C dX12_reached_28 4 rfl rfl ?_
          refine ww_iload C dX12_reached_29 0 rfl ?_
          refine ww_iload_n C dX12_reached_31 6 rfl rfl ?_
          refine ww_ci (wr := [(m_manys, .inl (E.2.1 1, 18, .inl f_manys)), (m_reals, .inl (E.2.1 1, 18, .inl f_reals)), (m_factsOf, .inl (E.2.1 1, 432, .inl f_factsOf))]) (k' := 0) (n' := 0) C (run_V (As := [.int (nI pg), .int (nI i1), .int (nI w)]) (rest := [.int n1]) C (r_seen X.2.1 E ro hm pg i1 w m_manys m_reals m_factsOf m_possible q_undos q_models m_tape q_taped q_fault q_wrong q_wrongAt q_spot q_place q_token q_value m_ends m_letters m_actOf m_whom m_actMany m_tokens m_afters m_afterOf q_counted m_pile m_caseMany m_happen m_hasIf m_becomes m_goneOf m_heard m_pairs m_heaps q_rounds q_heapMany m_led m_newAt m_knowing m_firsts q_people m_secrets m_tried m_lanes m_lengths m_cells f_possible (by omega) (by omega) (by omega)) mi_X12_seen wl_X12_135 rfl 0 12 rfl rfl rfl rfl rfl dX12_reached_32) (roK hro) [0, 4] [1, 2, 3] rfl rfl rfl rfl (fun r_21 uz hw => ?_)
          refine an1 hw ?_
          clear hw
          intro he_22 hw
          have he_23 := hw
          clear hw
          have he_22 := he_22.symm
          subst he_22
          subst he_23
          refine ww_eq (ws' := [(m_manys, .inl (E.2.1 1, 18, .inl f_manys)), (m_reals, .inl (E.2.1 1, 18, .inl f_reals)), (m_factsOf, .inl (E.2.1 1, 432, .inl f_factsOf)), (hm, .inr (12, [.ref m_manys, .ref m_reals, .ref m_factsOf, .ref m_possible, .int (nI q_undos), .int (nI q_models), .ref m_tape, .int (nI q_taped), .int q_fault, .int q_wrong, .int q_wrongAt, .int q_spot, .int q_place, .int q_token, .int q_value, .ref m_ends, .ref m_letters, .ref m_actOf, .ref m_whom, .ref m_actMany, .ref m_tokens, .ref m_afters, .ref m_afterOf, .int q_counted, .ref m_pile, .ref m_caseMany, .ref m_happen, .ref m_hasIf, .ref m_becomes, .ref m_goneOf, .ref m_heard, .ref m_pairs, .ref m_heaps, .int q_rounds, .int q_heapMany, .ref m_led, .ref m_newAt, .ref m_knowing, .ref m_firsts, .int (nI q_people), .ref m_secrets, .ref m_tried, .ref m_lanes, .ref m_lengths, .ref m_cells])), (m_possible, .inl (E.2.1 1, 1728, .inl f_possible))]) ?_ rfl rfl rfl
          refine ww_goto (tgt := 39) C dX12_reached_35 (by decide) ?_
          obtain ⟨x_24, ex_24⟩ : ∃ z : Int32, n1 ||| (f_possible (96 * pg + 24 * i1 + w)) = z := ⟨_, rfl⟩
          refine ww_ior (v := x_24) C dX12_reached_39 ex_24 ?_
          refine ww_istore (lv' := [(5, .int x_24), (6, .int (nI i1)), (4, .int 0), (0, .ref hm), (1, .int (nI pg)), (2, .int gr), (3, .int (nI w))]) C dX12_reached_40 rfl rfl ?_
          refine ww_iinc (j := 1) (v := (nI (i1 + 1))) (lv' := [(6, .int (nI (i1 + 1))), (5, .int x_24), (4, .int 0), (0, .ref hm), (1, .int (nI pg)), (2, .int gr), (3, .int (nI w))]) C dX12_reached_42 rfl (nI_add i1 1) rfl rfl ?_
          refine ww_goto (tgt := 9) C dX12_reached_45 (by decide) ?_
          exact ww_lv [0, 1, 2, 3, 4, 5, 6] rfl (ww_sub [3, 0, 1, 2, 4] rfl rfl (ih_9 (i1 + 1) x_24 (by omega) (by first | exact NXr.t hnx (hasb_1 (by omega) (by assumption) (by assumption) (by omega)) (show sh (96 * pg) f_possible (i1 * 24 + w) = f_possible (96 * pg + 24 * i1 + w) from congrArg f_possible (by omega)) (by assumption) | exact NXr.z hnx (hasb_0 (by omega) (by assumption) (by assumption) (by omega)) (by assumption)) (by omega)))
  exact ww_lv [0, 1, 2, 3, 4, 5, 6] rfl (ww_sub [0, 1, 2, 3, 4] rfl rfl (loop_9 _ 0 0 (by omega) NXr.nil (Nat.lt_succ_self _)))
theorem dX12_reach_0 : decode cX12_reach 0 = .ok (.iload_n 1, 1) := dl_27 (by decide +kernel)
theorem dX12_reach_1 : decode cX12_reach 1 = .ok (.i2l, 1) := dl_133 (by decide +kernel)
theorem dX12_reach_2 : decode cX12_reach 2 = .ok (.lconst 0, 1) := dl_9 (by decide +kernel)
theorem dX12_reach_3 : decode cX12_reach 3 = .ok (.ldc2_w 119, 3) := dl_20 (by decide +kernel)
theorem dX12_reach_6 : decode cX12_reach 6 = .ok (.invokestatic 115, 3) := dl_184 (by decide +kernel)
theorem dX12_reach_9 : decode cX12_reach 9 = .ok (.ifCond .eq 21, 3) := dl_153 (by decide +kernel)
theorem dX12_reach_12 : decode cX12_reach 12 = .ok (.aload_n 0, 1) := dl_42 (by decide +kernel)
theorem dX12_reach_13 : decode cX12_reach 13 = .ok (.iload_n 2, 1) := dl_28 (by decide +kernel)
theorem dX12_reach_14 : decode cX12_reach 14 = .ok (.invokevirtual 132, 3) := dl_182 (by decide +kernel)
theorem dX12_reach_17 : decode cX12_reach 17 = .ok (.ifCond .eq 13, 3) := dl_153 (by decide +kernel)
theorem dX12_reach_20 : decode cX12_reach 20 = .ok (.aload_n 0, 1) := dl_42 (by decide +kernel)
theorem dX12_reach_21 : decode cX12_reach 21 = .ok (.iconst 0, 1) := dl_3 (by decide +kernel)
theorem dX12_reach_22 : decode cX12_reach 22 = .ok (.iload_n 1, 1) := dl_27 (by decide +kernel)
theorem dX12_reach_23 : decode cX12_reach 23 = .ok (.iload_n 2, 1) := dl_28 (by decide +kernel)
theorem dX12_reach_24 : decode cX12_reach 24 = .ok (.invokevirtual 151, 3) := dl_182 (by decide +kernel)
theorem wl_X12_151 : Cond.methodLink RX12 151 yX12_reached ∈ TB := tbm (tq6 (List.mem_of_getElem? (i := 36) (by decide +kernel))) (by decide +kernel)
theorem wc_X12_reached : Cond.code yX12_reached cX12_reached 8 (some .int) ∈ TB := tbm (tq6 (List.mem_of_getElem? (i := 39) (rfl))) (by decide +kernel)
theorem wi_X12_reached : Cond.instanceMethod yX12_reached ∈ TB := tbm (tq6 (List.mem_of_getElem? (i := 38) (by decide +kernel))) (by decide +kernel)
theorem ws_X12_reached : Cond.selects RX12 yX12_reached yX12_reached ∈ TB := tbm (tq0 (List.mem_of_getElem? (i := 42) (by decide +kernel))) (by decide +kernel)
theorem mi_X12_reached : MI yX12_reached cX12_reached 8 (some .int) 3 := ⟨wc_X12_reached, wn_X12, ⟨by decide +kernel, by decide +kernel, by decide +kernel⟩, wi_X12_reached, ws_X12_reached⟩
theorem dX12_reach_27 : decode cX12_reach 27 = .ok (.goto 4, 3) := dl_167 (by decide +kernel)
theorem dX12_reach_31 : decode cX12_reach 31 = .ok (.ireturn, 1) := dl_172 (by decide +kernel)
theorem dX12_reach_30 : decode cX12_reach 30 = .ok (.iconst (-1), 1) := dl_2 (by decide +kernel)
set_option maxRecDepth 100000 in
set_option maxHeartbeats 4000000 in
theorem y_reach (l : Launch) (E : EV) (ro : va_W) (hm : Nat) (v0 : Int32) (v1 : Int32) (m_manys : Nat) (m_reals : Nat) (m_factsOf : Nat) (m_possible : Nat) (q_undos : Nat) (q_models : Nat) (m_tape : Nat) (q_taped : Nat) (q_fault : Int32) (q_wrong : Int32) (q_wrongAt : Int32) (q_spot : Int32) (q_place : Int32) (q_token : Int32) (q_value : Int32) (m_ends : Nat) (m_letters : Nat) (m_actOf : Nat) (m_whom : Nat) (m_actMany : Nat) (m_tokens : Nat) (m_afters : Nat) (m_afterOf : Nat) (q_counted : Int32) (m_pile : Nat) (m_caseMany : Nat) (m_happen : Nat) (m_hasIf : Nat) (m_becomes : Nat) (m_goneOf : Nat) (m_heard : Nat) (m_pairs : Nat) (m_heaps : Nat) (q_rounds : Int32) (q_heapMany : Int32) (m_led : Nat) (m_newAt : Nat) (m_knowing : Nat) (m_firsts : Nat) (q_people : Nat) (m_secrets : Nat) (m_tried : Nat) (m_lanes : Nat) (m_lengths : Nat) (m_cells : Nat) (f_manys : Nat → Int32) (f_reals : Nat → Int32) (f_factsOf : Nat → Int32) (f_possible : Nat → Int32) (hb_manys : NB 18 24 f_manys) (hb_reals : NB 18 23 f_reals) (hpg : PG f_manys f_reals) (hwf : WFP (pgs f_manys f_reals f_factsOf f_possible)) : CT l yX12_reach (Cond.code yX12_reach cX12_reach 3 (some .int) :: TB) ({ frames := 2, cells := 0, slots := 0, locals := 50 }) E ro [.ref hm, .int v0, .int v1] [(hm, .inr (12, [.ref m_manys, .ref m_reals, .ref m_factsOf, .ref m_possible, .int (nI q_undos), .int (nI q_models), .ref m_tape, .int (nI q_taped), .int q_fault, .int q_wrong, .int q_wrongAt, .int q_spot, .int q_place, .int q_token, .int q_value, .ref m_ends, .ref m_letters, .ref m_actOf, .ref m_whom, .ref m_actMany, .ref m_tokens, .ref m_afters, .ref m_afterOf, .int q_counted, .ref m_pile, .ref m_caseMany, .ref m_happen, .ref m_hasIf, .ref m_becomes, .ref m_goneOf, .ref m_heard, .ref m_pairs, .ref m_heaps, .int q_rounds, .int q_heapMany, .ref m_led, .ref m_newAt, .ref m_knowing, .ref m_firsts, .int (nI q_people), .ref m_secrets, .ref m_tried, .ref m_lanes, .ref m_lengths, .ref m_cells])), (m_manys, .inl (E.2.1 1, 18, .inl f_manys)), (m_reals, .inl (E.2.1 1, 18, .inl f_reals)), (m_factsOf, .inl (E.2.1 1, 432, .inl f_factsOf)), (m_possible, .inl (E.2.1 1, 1728, .inl f_possible))] (Qi E (fun (rz : Int32) uz => (uz = [(hm, .inr (12, [.ref m_manys, .ref m_reals, .ref m_factsOf, .ref m_possible, .int (nI q_undos), .int (nI q_models), .ref m_tape, .int (nI q_taped), .int q_fault, .int q_wrong, .int q_wrongAt, .int q_spot, .int q_place, .int q_token, .int q_value, .ref m_ends, .ref m_letters, .ref m_actOf, .ref m_whom, .ref m_actMany, .ref m_tokens, .ref m_afters, .ref m_afterOf, .int q_counted, .ref m_pile, .ref m_caseMany, .ref m_happen, .ref m_hasIf, .ref m_becomes, .ref m_goneOf, .ref m_heard, .ref m_pairs, .ref m_heaps, .int q_rounds, .int q_heapMany, .ref m_led, .ref m_newAt, .ref m_knowing, .ref m_firsts, .int (nI q_people), .ref m_secrets, .ref m_tried, .ref m_lanes, .ref m_lengths, .ref m_cells])), (m_manys, .inl (E.2.1 1, 18, .inl f_manys)), (m_reals, .inl (E.2.1 1, 18, .inl f_reals)), (m_factsOf, .inl (E.2.1 1, 432, .inl f_factsOf)), (m_possible, .inl (E.2.1 1, 1728, .inl f_possible))] ∧ (rz = ansReach (pgs f_manys f_reals f_factsOf f_possible 0) v0 v1)))) 0 0 := by
  refine ct_of rfl rfl ?_
  intro X C hT hin hro
  show WW X 3 E 0 [(0, .ref hm), (1, .int v0), (2, .int v1)] [] [(hm, .inr (12, [.ref m_manys, .ref m_reals, .ref m_factsOf, .ref m_possible, .int (nI q_undos), .int (nI q_models), .ref m_tape, .int (nI q_taped), .int q_fault, .int q_wrong, .int q_wrongAt, .int q_spot, .int q_place, .int q_token, .int q_value, .ref m_ends, .ref m_letters, .ref m_actOf, .ref m_whom, .ref m_actMany, .ref m_tokens, .ref m_afters, .ref m_afterOf, .int q_counted, .ref m_pile, .ref m_caseMany, .ref m_happen, .ref m_hasIf, .ref m_becomes, .ref m_goneOf, .ref m_heard, .ref m_pairs, .ref m_heaps, .int q_rounds, .int q_heapMany, .ref m_led, .ref m_newAt, .ref m_knowing, .ref m_firsts, .int (nI q_people), .ref m_secrets, .ref m_tried, .ref m_lanes, .ref m_lengths, .ref m_cells])), (m_manys, .inl (E.2.1 1, 18, .inl f_manys)), (m_reals, .inl (E.2.1 1, 18, .inl f_reals)), (m_factsOf, .inl (E.2.1 1, 432, .inl f_factsOf)), (m_possible, .inl (E.2.1 1, 1728, .inl f_possible))] 0 0
  have hmn0 := (hb_manys 0 (by omega)).2
  refine ww_iload_n C dX12_reach_0 1 rfl rfl ?_
  refine ww_i2l (v := v0.toInt64) C dX12_reach_1 rfl ?_
  refine ww_lconst (v := 0) C dX12_reach_2 rfl ?_
  refine ww_ldc2 C wv_X12_119 dX12_reach_3 ?_
  refine ww_ci (wr := [(hm, .inr (12, [.ref m_manys, .ref m_reals, .ref m_factsOf, .ref m_possible, .int (nI q_undos), .int (nI q_models), .ref m_tape, .int (nI q_taped), .int q_fault, .int q_wrong, .int q_wrongAt, .int q_spot, .int q_place, .int q_token, .int q_value, .ref m_ends, .ref m_letters, .ref m_actOf, .ref m_whom, .ref m_actMany, .ref m_tokens, .ref m_afters, .ref m_afterOf, .int q_counted, .ref m_pile, .ref m_caseMany, .ref m_happen, .ref m_hasIf, .ref m_becomes, .ref m_goneOf, .ref m_heard, .ref m_pairs, .ref m_heaps, .int q_rounds, .int q_heapMany, .ref m_led, .ref m_newAt, .ref m_knowing, .ref m_firsts, .int (nI q_people), .ref m_secrets, .ref m_tried, .ref m_lanes, .ref m_lengths, .ref m_cells])), (m_manys, .inl (E.2.1 1, 18, .inl f_manys)), (m_reals, .inl (E.2.1 1, 18, .inl f_reals)), (m_factsOf, .inl (E.2.1 1, 432, .inl f_factsOf)), (m_possible, .inl (E.2.1 1, 1728, .inl f_possible))]) (k' := 0) (n' := 0) C (run_S (As := [.long v0.toInt64, .long 0, .long 15]) (rest := []) C (r_in X.2.1 E ro v0.toInt64 0 15 v0.toInt 0 15 (Int32.toInt_toInt64 _) rfl rfl) ms_X12_in wl_X12_115 rfl rfl rfl rfl dX12_reach_6) (roK hro) [] [0, 1, 2, 3, 4] rfl rfl rfl rfl (fun r_1 uz hw => ?_)
  rcases hw with hw | hw
  · refine an3 hw ?_
    clear hw
    intro he_4 he_5 h_2 hw
    have h_3 := hw
    clear hw
    have he_4 := he_4.symm
    subst he_4
    subst he_5
    refine ww_eq (ws' := [(hm, .inr (12, [.ref m_manys, .ref m_reals, .ref m_factsOf, .ref m_possible, .int (nI q_undos), .int (nI q_models), .ref m_tape, .int (nI q_taped), .int q_fault, .int q_wrong, .int q_wrongAt, .int q_spot, .int q_place, .int q_token, .int q_value, .ref m_ends, .ref m_letters, .ref m_actOf, .ref m_whom, .ref m_actMany, .ref m_tokens, .ref m_afters, .ref m_afterOf, .int q_counted, .ref m_pile, .ref m_caseMany, .ref m_happen, .ref m_hasIf, .ref m_becomes, .ref m_goneOf, .ref m_heard, .ref m_pairs, .ref m_heaps, .int q_rounds, .int q_heapMany, .ref m_led, .ref m_newAt, .ref m_knowing, .ref m_firsts, .int (nI q_people), .ref m_secrets, .ref m_tried, .ref m_lanes, .ref m_lengths, .ref m_cells])), (m_manys, .inl (E.2.1 1, 18, .inl f_manys)), (m_reals, .inl (E.2.1 1, 18, .inl f_reals)), (m_factsOf, .inl (E.2.1 1, 432, .inl f_factsOf)), (m_possible, .inl (E.2.1 1, 1728, .inl f_possible))]) ?_ rfl rfl rfl
    refine ww_if_eq_f (tgt := 30) C dX12_reach_9 (by decide) (by decide) ?_
    refine ww_aload_n C dX12_reach_12 0 rfl rfl ?_
    refine ww_iload_n C dX12_reach_13 2 rfl rfl ?_
    refine ww_ci (wr := [(m_reals, .inl (E.2.1 1, 18, .inl f_reals)), (m_factsOf, .inl (E.2.1 1, 432, .inl f_factsOf)), (m_possible, .inl (E.2.1 1, 1728, .inl f_possible))]) (k' := 0) (n' := 0) C (run_V (As := [.int v1]) (rest := []) C (r_isWorld X.2.1 E ro hm v1 m_manys m_reals m_factsOf m_possible q_undos q_models m_tape q_taped q_fault q_wrong q_wrongAt q_spot q_place q_token q_value m_ends m_letters m_actOf m_whom m_actMany m_tokens m_afters m_afterOf q_counted m_pile m_caseMany m_happen m_hasIf m_becomes m_goneOf m_heard m_pairs m_heaps q_rounds q_heapMany m_led m_newAt m_knowing m_firsts q_people m_secrets m_tried m_lanes m_lengths m_cells f_manys hb_manys) mi_X12_isWorld wl_X12_132 rfl 0 12 rfl rfl rfl rfl rfl dX12_reach_14) (roK hro) [0, 1] [2, 3, 4] rfl rfl rfl rfl (fun r_9 uz hw => ?_)
    rcases hw with hw | hw
    · refine an3 hw ?_
      clear hw
      intro he_12 he_13 h_10 hw
      have h_11 := hw
      clear hw
      have he_12 := he_12.symm
      subst he_12
      subst he_13
      refine ww_eq (ws' := [(m_reals, .inl (E.2.1 1, 18, .inl f_reals)), (m_factsOf, .inl (E.2.1 1, 432, .inl f_factsOf)), (m_possible, .inl (E.2.1 1, 1728, .inl f_possible)), (hm, .inr (12, [.ref m_manys, .ref m_reals, .ref m_factsOf, .ref m_possible, .int (nI q_undos), .int (nI q_models), .ref m_tape, .int (nI q_taped), .int q_fault, .int q_wrong, .int q_wrongAt, .int q_spot, .int q_place, .int q_token, .int q_value, .ref m_ends, .ref m_letters, .ref m_actOf, .ref m_whom, .ref m_actMany, .ref m_tokens, .ref m_afters, .ref m_afterOf, .int q_counted, .ref m_pile, .ref m_caseMany, .ref m_happen, .ref m_hasIf, .ref m_becomes, .ref m_goneOf, .ref m_heard, .ref m_pairs, .ref m_heaps, .int q_rounds, .int q_heapMany, .ref m_led, .ref m_newAt, .ref m_knowing, .ref m_firsts, .int (nI q_people), .ref m_secrets, .ref m_tried, .ref m_lanes, .ref m_lengths, .ref m_cells])), (m_manys, .inl (E.2.1 1, 18, .inl f_manys))]) ?_ rfl rfl rfl
      refine ww_if_eq_f (tgt := 30) C dX12_reach_17 (by decide) (by decide) ?_
      obtain ⟨j_17, hj_17, rfl⟩ := i_nat (x := v1) (N := 24) (by omega) (by omega)
      have hzj_17 := nI_toInt (n := j_17) (by omega)
      refine ww_aload_n C dX12_reach_20 0 rfl rfl ?_
      refine ww_iconst (v := 0) C dX12_reach_21 rfl ?_
      refine ww_iload_n C dX12_reach_22 1 rfl rfl ?_
      refine ww_iload_n C dX12_reach_23 2 rfl rfl ?_
      refine ww_ci (wr := []) (k' := 0) (n' := 0) C (run_V (As := [.int 0, .int v0, .int (nI j_17)]) (rest := []) C (r_reached X.2.1 E ro hm 0 v0 j_17 m_manys m_reals m_factsOf m_possible q_undos q_models m_tape q_taped q_fault q_wrong q_wrongAt q_spot q_place q_token q_value m_ends m_letters m_actOf m_whom m_actMany m_tokens m_afters m_afterOf q_counted m_pile m_caseMany m_happen m_hasIf m_becomes m_goneOf m_heard m_pairs m_heaps q_rounds q_heapMany m_led m_newAt m_knowing m_firsts q_people m_secrets m_tried m_lanes m_lengths m_cells f_manys f_reals f_factsOf f_possible hb_manys hb_reals hpg hwf (by omega) (by omega)) mi_X12_reached wl_X12_151 rfl 0 12 rfl rfl rfl rfl rfl dX12_reach_24) (roK hro) [3, 4, 0, 1, 2] [] rfl rfl rfl rfl (fun r_18 uz hw => ?_)
      refine an1 hw ?_
      clear hw
      intro he_20 hw
      have h_19 := hw
      clear hw
      subst he_20
      refine ww_eq (ws' := [(hm, .inr (12, [.ref m_manys, .ref m_reals, .ref m_factsOf, .ref m_possible, .int (nI q_undos), .int (nI q_models), .ref m_tape, .int (nI q_taped), .int q_fault, .int q_wrong, .int q_wrongAt, .int q_spot, .int q_place, .int q_token, .int q_value, .ref m_ends, .ref m_letters, .ref m_actOf, .ref m_whom, .ref m_actMany, .ref m_tokens, .ref m_afters, .ref m_afterOf, .int q_counted, .ref m_pile, .ref m_caseMany, .ref m_happen, .ref m_hasIf, .ref m_becomes, .ref m_goneOf, .ref m_heard, .ref m_pairs, .ref m_heaps, .int q_rounds, .int q_heapMany, .ref m_led, .ref m_newAt, .ref m_knowing, .ref m_firsts, .int (nI q_people), .ref m_secrets, .ref m_tried, .ref m_lanes, .ref m_lengths, .ref m_cells])), (m_manys, .inl (E.2.1 1, 18, .inl f_manys)), (m_reals, .inl (E.2.1 1, 18, .inl f_reals)), (m_factsOf, .inl (E.2.1 1, 432, .inl f_factsOf)), (m_possible, .inl (E.2.1 1, 1728, .inl f_possible))]) ?_ rfl rfl rfl
      refine ww_goto (tgt := 31) C dX12_reach_27 (by decide) ?_
      exact ww_iret (u := [(hm, .inr (12, [.ref m_manys, .ref m_reals, .ref m_factsOf, .ref m_possible, .int (nI q_undos), .int (nI q_models), .ref m_tape, .int (nI q_taped), .int q_fault, .int q_wrong, .int q_wrongAt, .int q_spot, .int q_place, .int q_token, .int q_value, .ref m_ends, .ref m_letters, .ref m_actOf, .ref m_whom, .ref m_actMany, .ref m_tokens, .ref m_afters, .ref m_afterOf, .int q_counted, .ref m_pile, .ref m_caseMany, .ref m_happen, .ref m_hasIf, .ref m_becomes, .ref m_goneOf, .ref m_heard, .ref m_pairs, .ref m_heaps, .int q_rounds, .int q_heapMany, .ref m_led, .ref m_newAt, .ref m_knowing, .ref m_firsts, .int (nI q_people), .ref m_secrets, .ref m_tried, .ref m_lanes, .ref m_lengths, .ref m_cells])), (m_manys, .inl (E.2.1 1, 18, .inl f_manys)), (m_reals, .inl (E.2.1 1, 18, .inl f_reals)), (m_factsOf, .inl (E.2.1 1, 432, .inl f_factsOf)), (m_possible, .inl (E.2.1 1, 1728, .inl f_possible))]) C hT [0, 1, 2, 3, 4] rfl rfl rfl rfl dX12_reach_31 (⟨rfl, (by show _ = if v0.toInt < 0 ∨ 15 < v0.toInt ∨ (nI j_17).toInt < 0 ∨ ((cN f_manys 0) : Int) ≤ (nI j_17).toInt then -1 else ofB (fw (pgs f_manys f_reals f_factsOf f_possible 0) v0 (tN (nI j_17)) (cN f_manys 0)); rw [if_neg (show ¬ (v0.toInt < 0 ∨ 15 < v0.toInt ∨ (nI j_17).toInt < 0 ∨ ((cN f_manys 0) : Int) ≤ (nI j_17).toInt) by omega)]; exact (by rw [tN_n (n := j_17) (by omega)]; exact BS.of h_19))⟩)
    · refine an2 hw ?_
      clear hw
      intro he_15 he_16 hw
      have h_14 := hw
      clear hw
      have he_15 := he_15.symm
      subst he_15
      subst he_16
      refine ww_eq (ws' := [(m_reals, .inl (E.2.1 1, 18, .inl f_reals)), (m_factsOf, .inl (E.2.1 1, 432, .inl f_factsOf)), (m_possible, .inl (E.2.1 1, 1728, .inl f_possible)), (hm, .inr (12, [.ref m_manys, .ref m_reals, .ref m_factsOf, .ref m_possible, .int (nI q_undos), .int (nI q_models), .ref m_tape, .int (nI q_taped), .int q_fault, .int q_wrong, .int q_wrongAt, .int q_spot, .int q_place, .int q_token, .int q_value, .ref m_ends, .ref m_letters, .ref m_actOf, .ref m_whom, .ref m_actMany, .ref m_tokens, .ref m_afters, .ref m_afterOf, .int q_counted, .ref m_pile, .ref m_caseMany, .ref m_happen, .ref m_hasIf, .ref m_becomes, .ref m_goneOf, .ref m_heard, .ref m_pairs, .ref m_heaps, .int q_rounds, .int q_heapMany, .ref m_led, .ref m_newAt, .ref m_knowing, .ref m_firsts, .int (nI q_people), .ref m_secrets, .ref m_tried, .ref m_lanes, .ref m_lengths, .ref m_cells])), (m_manys, .inl (E.2.1 1, 18, .inl f_manys))]) ?_ rfl rfl rfl
      refine ww_if_eq_t (tgt := 30) C dX12_reach_17 (by decide) (rfl) ?_
      refine ww_iconst (v := (-1)) C dX12_reach_30 rfl ?_
      exact ww_iret (u := [(hm, .inr (12, [.ref m_manys, .ref m_reals, .ref m_factsOf, .ref m_possible, .int (nI q_undos), .int (nI q_models), .ref m_tape, .int (nI q_taped), .int q_fault, .int q_wrong, .int q_wrongAt, .int q_spot, .int q_place, .int q_token, .int q_value, .ref m_ends, .ref m_letters, .ref m_actOf, .ref m_whom, .ref m_actMany, .ref m_tokens, .ref m_afters, .ref m_afterOf, .int q_counted, .ref m_pile, .ref m_caseMany, .ref m_happen, .ref m_hasIf, .ref m_becomes, .ref m_goneOf, .ref m_heard, .ref m_pairs, .ref m_heaps, .int q_rounds, .int q_heapMany, .ref m_led, .ref m_newAt, .ref m_knowing, .ref m_firsts, .int (nI q_people), .ref m_secrets, .ref m_tried, .ref m_lanes, .ref m_lengths, .ref m_cells])), (m_manys, .inl (E.2.1 1, 18, .inl f_manys)), (m_reals, .inl (E.2.1 1, 18, .inl f_reals)), (m_factsOf, .inl (E.2.1 1, 432, .inl f_factsOf)), (m_possible, .inl (E.2.1 1, 1728, .inl f_possible))]) C hT [3, 4, 0, 1, 2] rfl rfl rfl rfl dX12_reach_31 (⟨rfl, (by show _ = if v0.toInt < 0 ∨ 15 < v0.toInt ∨ v1.toInt < 0 ∨ ((cN f_manys 0) : Int) ≤ v1.toInt then -1 else ofB (fw (pgs f_manys f_reals f_factsOf f_possible 0) v0 (tN v1) (cN f_manys 0)); rw [if_pos (show v0.toInt < 0 ∨ 15 < v0.toInt ∨ v1.toInt < 0 ∨ ((cN f_manys 0) : Int) ≤ v1.toInt by omega)])⟩)
  · refine an2 hw ?_
    clear hw
    intro he_7 he_8 hw
    have h_6 := hw
    clear hw
    have he_7 := he_7.symm
    subst he_7
    subst he_8
    refine ww_eq (ws' := [(hm, .inr (12, [.ref m_manys, .ref m_reals, .ref m_factsOf, .ref m_possible, .int (nI q_undos), .int (nI q_models), .ref m_tape, .int (nI q_taped), .int q_fault, .int q_wrong, .int q_wrongAt, .int q_spot, .int q_place, .int q_token, .int q_value, .ref m_ends, .ref m_letters, .ref m_actOf, .ref m_whom, .ref m_actMany, .ref m_tokens, .ref m_afters, .ref m_afterOf, .int q_counted, .ref m_pile, .ref m_caseMany, .ref m_happen, .ref m_hasIf, .ref m_becomes, .ref m_goneOf, .ref m_heard, .ref m_pairs, .ref m_heaps, .int q_rounds, .int q_heapMany, .ref m_led, .ref m_newAt, .ref m_knowing, .ref m_firsts, .int (nI q_people), .ref m_secrets, .ref m_tried, .ref m_lanes, .ref m_lengths, .ref m_cells])), (m_manys, .inl (E.2.1 1, 18, .inl f_manys)), (m_reals, .inl (E.2.1 1, 18, .inl f_reals)), (m_factsOf, .inl (E.2.1 1, 432, .inl f_factsOf)), (m_possible, .inl (E.2.1 1, 1728, .inl f_possible))]) ?_ rfl rfl rfl
    refine ww_if_eq_t (tgt := 30) C dX12_reach_9 (by decide) (rfl) ?_
    refine ww_iconst (v := (-1)) C dX12_reach_30 rfl ?_
    exact ww_iret (u := [(hm, .inr (12, [.ref m_manys, .ref m_reals, .ref m_factsOf, .ref m_possible, .int (nI q_undos), .int (nI q_models), .ref m_tape, .int (nI q_taped), .int q_fault, .int q_wrong, .int q_wrongAt, .int q_spot, .int q_place, .int q_token, .int q_value, .ref m_ends, .ref m_letters, .ref m_actOf, .ref m_whom, .ref m_actMany, .ref m_tokens, .ref m_afters, .ref m_afterOf, .int q_counted, .ref m_pile, .ref m_caseMany, .ref m_happen, .ref m_hasIf, .ref m_becomes, .ref m_goneOf, .ref m_heard, .ref m_pairs, .ref m_heaps, .int q_rounds, .int q_heapMany, .ref m_led, .ref m_newAt, .ref m_knowing, .ref m_firsts, .int (nI q_people), .ref m_secrets, .ref m_tried, .ref m_lanes, .ref m_lengths, .ref m_cells])), (m_manys, .inl (E.2.1 1, 18, .inl f_manys)), (m_reals, .inl (E.2.1 1, 18, .inl f_reals)), (m_factsOf, .inl (E.2.1 1, 432, .inl f_factsOf)), (m_possible, .inl (E.2.1 1, 1728, .inl f_possible))]) C hT [0, 1, 2, 3, 4] rfl rfl rfl rfl dX12_reach_31 (⟨rfl, (by show _ = if v0.toInt < 0 ∨ 15 < v0.toInt ∨ v1.toInt < 0 ∨ ((cN f_manys 0) : Int) ≤ v1.toInt then -1 else ofB (fw (pgs f_manys f_reals f_factsOf f_possible 0) v0 (tN v1) (cN f_manys 0)); rw [if_pos (show v0.toInt < 0 ∨ 15 < v0.toInt ∨ v1.toInt < 0 ∨ ((cN f_manys 0) : Int) ≤ v1.toInt by omega)])⟩)
