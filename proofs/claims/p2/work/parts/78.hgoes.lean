theorem dX12_goes_0 : decode cX12_goes 0 = .ok (.iload 4, 2) := by decide +kernel
theorem dX12_goes_2 : decode cX12_goes 2 = .ok (.bipush (-4), 2) := by decide +kernel
theorem dX12_goes_4 : decode cX12_goes 4 = .ok (.if_icmp .eq 13, 3) := by decide +kernel
theorem dX12_goes_17 : decode cX12_goes 17 = .ok (.iconst 1, 1) := by decide +kernel
theorem dX12_goes_18 : decode cX12_goes 18 = .ok (.goto 4, 3) := by decide +kernel
theorem dX12_goes_22 : decode cX12_goes 22 = .ok (.istore 5, 2) := by decide +kernel
theorem dX12_goes_24 : decode cX12_goes 24 = .ok (.iconst 0, 1) := by decide +kernel
theorem dX12_goes_25 : decode cX12_goes 25 = .ok (.istore 6, 2) := by decide +kernel
theorem dX12_goes_27 : decode cX12_goes 27 = .ok (.iload 6, 2) := by decide +kernel
theorem dX12_goes_29 : decode cX12_goes 29 = .ok (.iload_n 2, 1) := by decide +kernel
theorem dX12_goes_30 : decode cX12_goes 30 = .ok (.if_icmp .ge 99, 3) := by decide +kernel
theorem dX12_goes_129 : decode cX12_goes 129 = .ok (.iload 5, 2) := by decide +kernel
theorem dX12_goes_131 : decode cX12_goes 131 = .ok (.ifCond .eq 16, 3) := by decide +kernel
theorem dX12_goes_147 : decode cX12_goes 147 = .ok (.iconst 0, 1) := by decide +kernel
theorem dX12_goes_148 : decode cX12_goes 148 = .ok (.ireturn, 1) := by decide +kernel
theorem dX12_goes_134 : decode cX12_goes 134 = .ok (.aload_n 0, 1) := by decide +kernel
theorem dX12_goes_135 : decode cX12_goes 135 = .ok (.iload_n 3, 1) := by decide +kernel
theorem dX12_goes_136 : decode cX12_goes 136 = .ok (.iload_n 2, 1) := by decide +kernel
theorem dX12_goes_137 : decode cX12_goes 137 = .ok (.invokevirtual 276, 3) := by decide +kernel
theorem dX12_goes_140 : decode cX12_goes 140 = .ok (.ifCond .eq 7, 3) := by decide +kernel
theorem dX12_goes_143 : decode cX12_goes 143 = .ok (.iconst 1, 1) := by decide +kernel
theorem dX12_goes_144 : decode cX12_goes 144 = .ok (.goto 4, 3) := by decide +kernel
theorem dX12_goes_33 : decode cX12_goes 33 = .ok (.iload 5, 2) := by decide +kernel
theorem dX12_goes_35 : decode cX12_goes 35 = .ok (.ifCond .eq 94, 3) := by decide +kernel
theorem dX12_goes_38 : decode cX12_goes 38 = .ok (.iload_n 1, 1) := by decide +kernel
theorem dX12_goes_39 : decode cX12_goes 39 = .ok (.iconst 2, 1) := by decide +kernel
theorem dX12_goes_40 : decode cX12_goes 40 = .ok (.iload_n 2, 1) := by decide +kernel
theorem dX12_goes_41 : decode cX12_goes 41 = .ok (.iconst 1, 1) := by decide +kernel
theorem dX12_goes_42 : decode cX12_goes 42 = .ok (.isub, 1) := by decide +kernel
theorem dX12_goes_43 : decode cX12_goes 43 = .ok (.iload 6, 2) := by decide +kernel
theorem dX12_goes_45 : decode cX12_goes 45 = .ok (.isub, 1) := by decide +kernel
theorem dX12_goes_46 : decode cX12_goes 46 = .ok (.imul, 1) := by decide +kernel
theorem dX12_goes_47 : decode cX12_goes 47 = .ok (.ishr, 1) := by decide +kernel
theorem dX12_goes_48 : decode cX12_goes 48 = .ok (.iconst 3, 1) := by decide +kernel
theorem dX12_goes_49 : decode cX12_goes 49 = .ok (.iand, 1) := by decide +kernel
theorem dX12_goes_50 : decode cX12_goes 50 = .ok (.istore 7, 2) := by decide +kernel
theorem dX12_goes_52 : decode cX12_goes 52 = .ok (.aload_n 0, 1) := by decide +kernel
theorem dX12_goes_53 : decode cX12_goes 53 = .ok (.getfield 52, 3) := by decide +kernel
theorem dX12_goes_56 : decode cX12_goes 56 = .ok (.iload 7, 2) := by decide +kernel
theorem dX12_goes_58 : decode cX12_goes 58 = .ok (.iaload, 1) := by decide +kernel
theorem dX12_goes_59 : decode cX12_goes 59 = .ok (.ifCond .le 29, 3) := by decide +kernel
theorem dX12_goes_88 : decode cX12_goes 88 = .ok (.iconst 0, 1) := by decide +kernel
theorem dX12_goes_89 : decode cX12_goes 89 = .ok (.istore 5, 2) := by decide +kernel
theorem dX12_goes_91 : decode cX12_goes 91 = .ok (.iload 5, 2) := by decide +kernel
theorem dX12_goes_93 : decode cX12_goes 93 = .ok (.ifCond .eq 27, 3) := by decide +kernel
theorem dX12_goes_120 : decode cX12_goes 120 = .ok (.iconst 0, 1) := by decide +kernel
theorem dX12_goes_121 : decode cX12_goes 121 = .ok (.istore 5, 2) := by decide +kernel
theorem dX12_goes_123 : decode cX12_goes 123 = .ok (.iinc 6 1, 3) := by decide +kernel
theorem dX12_goes_126 : decode cX12_goes 126 = .ok (.goto (-99), 3) := by decide +kernel
theorem dX12_goes_62 : decode cX12_goes 62 = .ok (.aload_n 0, 1) := by decide +kernel
theorem dX12_goes_63 : decode cX12_goes 63 = .ok (.iload 7, 2) := by decide +kernel
theorem dX12_goes_65 : decode cX12_goes 65 = .ok (.iload 6, 2) := by decide +kernel
theorem dX12_goes_67 : decode cX12_goes 67 = .ok (.invokevirtual 279, 3) := by decide +kernel
theorem dX12_goes_70 : decode cX12_goes 70 = .ok (.ifCond .eq 18, 3) := by decide +kernel
theorem dX12_goes_73 : decode cX12_goes 73 = .ok (.aload_n 0, 1) := by decide +kernel
theorem dX12_goes_74 : decode cX12_goes 74 = .ok (.iload 7, 2) := by decide +kernel
theorem dX12_goes_76 : decode cX12_goes 76 = .ok (.iload 6, 2) := by decide +kernel
theorem dX12_goes_78 : decode cX12_goes 78 = .ok (.invokevirtual 267, 3) := by decide +kernel
theorem dX12_goes_81 : decode cX12_goes 81 = .ok (.ifCond .lt 7, 3) := by decide +kernel
theorem dX12_goes_84 : decode cX12_goes 84 = .ok (.iconst 1, 1) := by decide +kernel
theorem dX12_goes_85 : decode cX12_goes 85 = .ok (.goto 4, 3) := by decide +kernel
theorem dX12_goes_96 : decode cX12_goes 96 = .ok (.iload 4, 2) := by decide +kernel
theorem dX12_goes_98 : decode cX12_goes 98 = .ok (.bipush (-4), 2) := by decide +kernel
theorem dX12_goes_100 : decode cX12_goes 100 = .ok (.if_icmp .eq 16, 3) := by decide +kernel
theorem dX12_goes_116 : decode cX12_goes 116 = .ok (.iconst 1, 1) := by decide +kernel
theorem dX12_goes_117 : decode cX12_goes 117 = .ok (.goto 4, 3) := by decide +kernel
set_option maxRecDepth 100000 in
set_option maxHeartbeats 4000000 in
theorem r_goesN (l : Launch) (E : EV) (ro : va_W) (hm : Nat) (row : Nat) (n : Nat) (am : Nat) (m_manys : Nat) (m_reals : Nat) (m_factsOf : Nat) (m_possible : Nat) (q_undos : Nat) (q_models : Nat) (m_tape : Nat) (q_taped : Nat) (q_fault : Int32) (q_wrong : Int32) (q_wrongAt : Int32) (q_spot : Int32) (q_place : Int32) (q_token : Int32) (q_value : Int32) (m_ends : Nat) (m_letters : Nat) (m_actOf : Nat) (m_whom : Nat) (m_actMany : Nat) (m_tokens : Nat) (m_afters : Nat) (m_afterOf : Nat) (q_counted : Int32) (m_pile : Nat) (m_caseMany : Nat) (m_happen : Nat) (m_hasIf : Nat) (m_becomes : Nat) (m_goneOf : Nat) (m_heard : Nat) (m_pairs : Nat) (m_heaps : Nat) (q_rounds : Int32) (q_heapMany : Int32) (m_led : Nat) (m_newAt : Nat) (m_knowing : Nat) (m_firsts : Nat) (q_people : Nat) (m_secrets : Nat) (m_tried : Nat) (m_lanes : Nat) (m_lengths : Nat) (m_cells : Nat) (f_manys : Nat → Int32) (f_reals : Nat → Int32) (f_factsOf : Nat → Int32) (f_possible : Nat → Int32) (f_pairs : Nat → Int32) (f_pile : Nat → Int32) (f_caseMany : Nat → Int32) (f_happen : Nat → Int32) (f_hasIf : Nat → Int32) (f_becomes : Nat → Int32) (f_goneOf : Nat → Int32) (f_heard : Nat → Int32) (f_actMany : Nat → Int32) (f_actOf : Nat → Int32) (f_whom : Nat → Int32) (f_afters : Nat → Int32) (f_afterOf : Nat → Int32) (hb_manys : NB 18 24 f_manys) (hb_reals : NB 18 23 f_reals) (hpg : PG f_manys f_reals) (hwf : WFP (pgs f_manys f_reals f_factsOf f_possible)) (hb_caseMany : NB 4 4 f_caseMany) (hb_happen : NB 4 3 f_happen) (hb_actMany : NB 25 32 f_actMany) (hhp : HP f_caseMany f_happen) (hsv : SV f_actOf f_actMany) (hb_afters : NB 9 2 f_afters) (hb_afterOf : NB 18 3 f_afterOf) (hrow : row < 64) (hn : n ≤ 3) (ham : am < 8) (hWa : WHs (cN f_actMany am) f_actOf f_whom am) (hrl0 : cN f_reals 0 < cN f_manys 0) (hWI : WHI f_hasIf f_actMany f_actOf f_whom) : CT l yX12_goes (Cond.code yX12_goes cX12_goes 8 (some .boolean) :: TB) ({ frames := 8, cells := 0, slots := 0, locals := 206 }) E ro [.ref hm, .int (nI row), .int (nI n), .int (nI am), .int (-4)] [(hm, .inr (12, [.ref m_manys, .ref m_reals, .ref m_factsOf, .ref m_possible, .int (nI q_undos), .int (nI q_models), .ref m_tape, .int (nI q_taped), .int q_fault, .int q_wrong, .int q_wrongAt, .int q_spot, .int q_place, .int q_token, .int q_value, .ref m_ends, .ref m_letters, .ref m_actOf, .ref m_whom, .ref m_actMany, .ref m_tokens, .ref m_afters, .ref m_afterOf, .int q_counted, .ref m_pile, .ref m_caseMany, .ref m_happen, .ref m_hasIf, .ref m_becomes, .ref m_goneOf, .ref m_heard, .ref m_pairs, .ref m_heaps, .int q_rounds, .int q_heapMany, .ref m_led, .ref m_newAt, .ref m_knowing, .ref m_firsts, .int (nI q_people), .ref m_secrets, .ref m_tried, .ref m_lanes, .ref m_lengths, .ref m_cells])), (m_manys, .inl (E.2.1 1, 18, .inl f_manys)), (m_reals, .inl (E.2.1 1, 18, .inl f_reals)), (m_factsOf, .inl (E.2.1 1, 432, .inl f_factsOf)), (m_possible, .inl (E.2.1 1, 1728, .inl f_possible)), (m_pairs, .inl (E.2.1 1, 576, .inl f_pairs)), (m_pile, .inl (E.2.1 1, 34, .inl f_pile)), (m_caseMany, .inl (E.2.1 1, 4, .inl f_caseMany)), (m_happen, .inl (E.2.1 1, 4, .inl f_happen)), (m_hasIf, .inl (E.2.1 3, 16, .inl f_hasIf)), (m_becomes, .inl (E.2.1 1, 16, .inl f_becomes)), (m_goneOf, .inl (E.2.1 1, 16, .inl f_goneOf)), (m_heard, .inl (E.2.1 1, 64, .inl f_heard)), (m_actMany, .inl (E.2.1 1, 25, .inl f_actMany)), (m_actOf, .inl (E.2.1 1, 800, .inl f_actOf)), (m_whom, .inl (E.2.1 1, 800, .inl f_whom)), (m_afters, .inl (E.2.1 1, 9, .inl f_afters)), (m_afterOf, .inl (E.2.1 1, 18, .inl f_afterOf))] (Qi E (fun (rz : Int32) uz => (∃ (f_manysz : Nat → Int32) (f_realsz : Nat → Int32) (f_factsOfz : Nat → Int32) (f_possiblez : Nat → Int32) (f_pairsz : Nat → Int32) (f_pilez : Nat → Int32), rz = 1 ∧ uz = [(hm, .inr (12, [.ref m_manys, .ref m_reals, .ref m_factsOf, .ref m_possible, .int (nI q_undos), .int (nI q_models), .ref m_tape, .int (nI q_taped), .int q_fault, .int q_wrong, .int q_wrongAt, .int q_spot, .int q_place, .int q_token, .int q_value, .ref m_ends, .ref m_letters, .ref m_actOf, .ref m_whom, .ref m_actMany, .ref m_tokens, .ref m_afters, .ref m_afterOf, .int q_counted, .ref m_pile, .ref m_caseMany, .ref m_happen, .ref m_hasIf, .ref m_becomes, .ref m_goneOf, .ref m_heard, .ref m_pairs, .ref m_heaps, .int q_rounds, .int q_heapMany, .ref m_led, .ref m_newAt, .ref m_knowing, .ref m_firsts, .int (nI q_people), .ref m_secrets, .ref m_tried, .ref m_lanes, .ref m_lengths, .ref m_cells])), (m_manys, .inl (E.2.1 1, 18, .inl f_manysz)), (m_reals, .inl (E.2.1 1, 18, .inl f_realsz)), (m_factsOf, .inl (E.2.1 1, 432, .inl f_factsOfz)), (m_possible, .inl (E.2.1 1, 1728, .inl f_possiblez)), (m_pairs, .inl (E.2.1 1, 576, .inl f_pairsz)), (m_pile, .inl (E.2.1 1, 34, .inl f_pilez)), (m_caseMany, .inl (E.2.1 1, 4, .inl f_caseMany)), (m_happen, .inl (E.2.1 1, 4, .inl f_happen)), (m_hasIf, .inl (E.2.1 3, 16, .inl f_hasIf)), (m_becomes, .inl (E.2.1 1, 16, .inl f_becomes)), (m_goneOf, .inl (E.2.1 1, 16, .inl f_goneOf)), (m_heard, .inl (E.2.1 1, 64, .inl f_heard)), (m_actMany, .inl (E.2.1 1, 25, .inl f_actMany)), (m_actOf, .inl (E.2.1 1, 800, .inl f_actOf)), (m_whom, .inl (E.2.1 1, 800, .inl f_whom)), (m_afters, .inl (E.2.1 1, 9, .inl f_afters)), (m_afterOf, .inl (E.2.1 1, 18, .inl f_afterOf))] ∧ (NB 18 24 f_manysz) ∧ (NB 18 23 f_realsz) ∧ (PG f_manysz f_realsz) ∧ (WFP (pgs f_manysz f_realsz f_factsOfz f_possiblez)) ∧ (gob (rEv f_caseMany f_happen f_hasIf f_actMany f_actOf f_whom f_becomes f_goneOf f_heard) (rT f_actMany f_actOf f_whom f_afterOf f_afters am) none (dgt row) (n) ((pgs f_manys f_reals f_factsOf f_possible) 0) = true) ∧ (KPA 0 (pgs f_manys f_reals f_factsOf f_possible) (pgs f_manysz f_realsz f_factsOfz f_possiblez))) ∨ (∃ (f_manysz : Nat → Int32) (f_realsz : Nat → Int32) (f_factsOfz : Nat → Int32) (f_possiblez : Nat → Int32) (f_pairsz : Nat → Int32) (f_pilez : Nat → Int32), rz = 0 ∧ uz = [(hm, .inr (12, [.ref m_manys, .ref m_reals, .ref m_factsOf, .ref m_possible, .int (nI q_undos), .int (nI q_models), .ref m_tape, .int (nI q_taped), .int q_fault, .int q_wrong, .int q_wrongAt, .int q_spot, .int q_place, .int q_token, .int q_value, .ref m_ends, .ref m_letters, .ref m_actOf, .ref m_whom, .ref m_actMany, .ref m_tokens, .ref m_afters, .ref m_afterOf, .int q_counted, .ref m_pile, .ref m_caseMany, .ref m_happen, .ref m_hasIf, .ref m_becomes, .ref m_goneOf, .ref m_heard, .ref m_pairs, .ref m_heaps, .int q_rounds, .int q_heapMany, .ref m_led, .ref m_newAt, .ref m_knowing, .ref m_firsts, .int (nI q_people), .ref m_secrets, .ref m_tried, .ref m_lanes, .ref m_lengths, .ref m_cells])), (m_manys, .inl (E.2.1 1, 18, .inl f_manysz)), (m_reals, .inl (E.2.1 1, 18, .inl f_realsz)), (m_factsOf, .inl (E.2.1 1, 432, .inl f_factsOfz)), (m_possible, .inl (E.2.1 1, 1728, .inl f_possiblez)), (m_pairs, .inl (E.2.1 1, 576, .inl f_pairsz)), (m_pile, .inl (E.2.1 1, 34, .inl f_pilez)), (m_caseMany, .inl (E.2.1 1, 4, .inl f_caseMany)), (m_happen, .inl (E.2.1 1, 4, .inl f_happen)), (m_hasIf, .inl (E.2.1 3, 16, .inl f_hasIf)), (m_becomes, .inl (E.2.1 1, 16, .inl f_becomes)), (m_goneOf, .inl (E.2.1 1, 16, .inl f_goneOf)), (m_heard, .inl (E.2.1 1, 64, .inl f_heard)), (m_actMany, .inl (E.2.1 1, 25, .inl f_actMany)), (m_actOf, .inl (E.2.1 1, 800, .inl f_actOf)), (m_whom, .inl (E.2.1 1, 800, .inl f_whom)), (m_afters, .inl (E.2.1 1, 9, .inl f_afters)), (m_afterOf, .inl (E.2.1 1, 18, .inl f_afterOf))] ∧ (NB 18 24 f_manysz) ∧ (NB 18 23 f_realsz) ∧ (PG f_manysz f_realsz) ∧ (WFP (pgs f_manysz f_realsz f_factsOfz f_possiblez)) ∧ (gob (rEv f_caseMany f_happen f_hasIf f_actMany f_actOf f_whom f_becomes f_goneOf f_heard) (rT f_actMany f_actOf f_whom f_afterOf f_afters am) none (dgt row) (n) ((pgs f_manys f_reals f_factsOf f_possible) 0) = false) ∧ (KPA 0 (pgs f_manys f_reals f_factsOf f_possible) (pgs f_manysz f_realsz f_factsOfz f_possiblez))))) 0 0 := by
  refine ct_of rfl rfl ?_
  intro X C hT hin hro
  show WW X 8 E 0 [(0, .ref hm), (1, .int (nI row)), (2, .int (nI n)), (3, .int (nI am)), (4, .int (-4))] [] [(hm, .inr (12, [.ref m_manys, .ref m_reals, .ref m_factsOf, .ref m_possible, .int (nI q_undos), .int (nI q_models), .ref m_tape, .int (nI q_taped), .int q_fault, .int q_wrong, .int q_wrongAt, .int q_spot, .int q_place, .int q_token, .int q_value, .ref m_ends, .ref m_letters, .ref m_actOf, .ref m_whom, .ref m_actMany, .ref m_tokens, .ref m_afters, .ref m_afterOf, .int q_counted, .ref m_pile, .ref m_caseMany, .ref m_happen, .ref m_hasIf, .ref m_becomes, .ref m_goneOf, .ref m_heard, .ref m_pairs, .ref m_heaps, .int q_rounds, .int q_heapMany, .ref m_led, .ref m_newAt, .ref m_knowing, .ref m_firsts, .int (nI q_people), .ref m_secrets, .ref m_tried, .ref m_lanes, .ref m_lengths, .ref m_cells])), (m_manys, .inl (E.2.1 1, 18, .inl f_manys)), (m_reals, .inl (E.2.1 1, 18, .inl f_reals)), (m_factsOf, .inl (E.2.1 1, 432, .inl f_factsOf)), (m_possible, .inl (E.2.1 1, 1728, .inl f_possible)), (m_pairs, .inl (E.2.1 1, 576, .inl f_pairs)), (m_pile, .inl (E.2.1 1, 34, .inl f_pile)), (m_caseMany, .inl (E.2.1 1, 4, .inl f_caseMany)), (m_happen, .inl (E.2.1 1, 4, .inl f_happen)), (m_hasIf, .inl (E.2.1 3, 16, .inl f_hasIf)), (m_becomes, .inl (E.2.1 1, 16, .inl f_becomes)), (m_goneOf, .inl (E.2.1 1, 16, .inl f_goneOf)), (m_heard, .inl (E.2.1 1, 64, .inl f_heard)), (m_actMany, .inl (E.2.1 1, 25, .inl f_actMany)), (m_actOf, .inl (E.2.1 1, 800, .inl f_actOf)), (m_whom, .inl (E.2.1 1, 800, .inl f_whom)), (m_afters, .inl (E.2.1 1, 9, .inl f_afters)), (m_afterOf, .inl (E.2.1 1, 18, .inl f_afterOf))] 0 0
  have hmn0 := (hb_manys 0 (by omega)).2
  refine ww_iload C dX12_goes_0 4 rfl ?_
  refine ww_bipush (v := (-4)) C dX12_goes_2 rfl ?_
  refine ww_icmp_eq_t (tgt := 17) C dX12_goes_4 (by decide) (rfl) ?_
  refine ww_iconst (v := 1) C dX12_goes_17 rfl ?_
  refine ww_goto (tgt := 22) C dX12_goes_18 (by decide) ?_
  refine ww_istore (lv' := [(5, .int 1), (0, .ref hm), (1, .int (nI row)), (2, .int (nI n)), (3, .int (nI am)), (4, .int (-4))]) C dX12_goes_22 rfl rfl ?_
  refine ww_iconst (v := 0) C dX12_goes_24 rfl ?_
  refine ww_istore (lv' := [(6, .int 0), (5, .int 1), (0, .ref hm), (1, .int (nI row)), (2, .int (nI n)), (3, .int (nI am)), (4, .int (-4))]) C dX12_goes_25 rfl rfl ?_
  have loop_27 : ∀ (fu : Nat) (k1 : Nat) (ca : Nat) (gt_manys : Nat → Int32) (gt_reals : Nat → Int32) (gt_factsOf : Nat → Int32) (gt_possible : Nat → Int32) (gt_pairs : Nat → Int32) (gt_pile : Nat → Int32), (k1 ≤ n) → (ca ≤ 1) → (ca = 1 → hidO ((pgs gt_manys gt_reals gt_factsOf gt_possible) k1) (rEv f_caseMany f_happen f_hasIf f_actMany f_actOf f_whom f_becomes f_goneOf f_heard) none = true ∧ gob (rEv f_caseMany f_happen f_hasIf f_actMany f_actOf f_whom f_becomes f_goneOf f_heard) (rT f_actMany f_actOf f_whom f_afterOf f_afters am) none (dgt row) (n) ((pgs f_manys f_reals f_factsOf f_possible) 0) = gob (rEv f_caseMany f_happen f_hasIf f_actMany f_actOf f_whom f_becomes f_goneOf f_heard) (rT f_actMany f_actOf f_whom f_afterOf f_afters am) none (dgt row) (n - k1) ((pgs gt_manys gt_reals gt_factsOf gt_possible) k1) ∧ cN gt_reals k1 < cN gt_manys k1) → (ca = 0 → gob (rEv f_caseMany f_happen f_hasIf f_actMany f_actOf f_whom f_becomes f_goneOf f_heard) (rT f_actMany f_actOf f_whom f_afterOf f_afters am) none (dgt row) (n) ((pgs f_manys f_reals f_factsOf f_possible) 0) = false) → (KPA 0 (pgs f_manys f_reals f_factsOf f_possible) (pgs gt_manys gt_reals gt_factsOf gt_possible)) → (NB 18 24 gt_manys) → (NB 18 23 gt_reals) → (PG gt_manys gt_reals) → (WFP (pgs gt_manys gt_reals gt_factsOf gt_possible)) → n - k1 < fu → WW X 8 E 27 [(6, .int (nI k1)), (5, .int (nI ca)), (0, .ref hm), (1, .int (nI row)), (2, .int (nI n)), (3, .int (nI am)), (4, .int (-4))] [] [(hm, .inr (12, [.ref m_manys, .ref m_reals, .ref m_factsOf, .ref m_possible, .int (nI q_undos), .int (nI q_models), .ref m_tape, .int (nI q_taped), .int q_fault, .int q_wrong, .int q_wrongAt, .int q_spot, .int q_place, .int q_token, .int q_value, .ref m_ends, .ref m_letters, .ref m_actOf, .ref m_whom, .ref m_actMany, .ref m_tokens, .ref m_afters, .ref m_afterOf, .int q_counted, .ref m_pile, .ref m_caseMany, .ref m_happen, .ref m_hasIf, .ref m_becomes, .ref m_goneOf, .ref m_heard, .ref m_pairs, .ref m_heaps, .int q_rounds, .int q_heapMany, .ref m_led, .ref m_newAt, .ref m_knowing, .ref m_firsts, .int (nI q_people), .ref m_secrets, .ref m_tried, .ref m_lanes, .ref m_lengths, .ref m_cells])), (m_manys, .inl (E.2.1 1, 18, .inl gt_manys)), (m_reals, .inl (E.2.1 1, 18, .inl gt_reals)), (m_factsOf, .inl (E.2.1 1, 432, .inl gt_factsOf)), (m_possible, .inl (E.2.1 1, 1728, .inl gt_possible)), (m_pairs, .inl (E.2.1 1, 576, .inl gt_pairs)), (m_pile, .inl (E.2.1 1, 34, .inl gt_pile)), (m_caseMany, .inl (E.2.1 1, 4, .inl f_caseMany)), (m_happen, .inl (E.2.1 1, 4, .inl f_happen)), (m_hasIf, .inl (E.2.1 3, 16, .inl f_hasIf)), (m_becomes, .inl (E.2.1 1, 16, .inl f_becomes)), (m_goneOf, .inl (E.2.1 1, 16, .inl f_goneOf)), (m_heard, .inl (E.2.1 1, 64, .inl f_heard)), (m_actMany, .inl (E.2.1 1, 25, .inl f_actMany)), (m_actOf, .inl (E.2.1 1, 800, .inl f_actOf)), (m_whom, .inl (E.2.1 1, 800, .inl f_whom)), (m_afters, .inl (E.2.1 1, 9, .inl f_afters)), (m_afterOf, .inl (E.2.1 1, 18, .inl f_afterOf))] 0 0 := by
    intro fu
    induction fu with
    | zero => intro k1 ca gt_manys gt_reals gt_factsOf gt_possible gt_pairs gt_pile hk1 hca hca1 hca0 hoth hnb_m_manys_27 hnb_m_reals_27 hpg_27 hwf_27 hmeas; exact absurd hmeas (Nat.not_lt_zero _)
    | succ fu ih_27 =>
      intro k1 ca gt_manys gt_reals gt_factsOf gt_possible gt_pairs gt_pile hk1 hca hca1 hca0 hoth hnb_m_manys_27 hnb_m_reals_27 hpg_27 hwf_27 hmeas
      refine ww_iload C dX12_goes_27 0 rfl ?_
      refine ww_iload_n C dX12_goes_29 4 rfl rfl ?_
      refine ww_icmp_ge (tgt := 129) C dX12_goes_30 (by decide) (fun c_1 => ?_) (fun c_1 => ?_)
      · have zc_1 : ((k1 : Nat) : Int) ≥ ((n : Nat) : Int) := i_le (nI_toInt (n := n) (by omega)) (nI_toInt (n := k1) (by omega)) c_1
        refine ww_iload C dX12_goes_129 1 rfl ?_
        refine ww_if_eq (tgt := 147) C dX12_goes_131 (by decide) (fun c_2 => ?_) (fun c_2 => ?_)
        · have zc_2 : ((ca : Nat) : Int) = 0 := i_eq (nI_toInt (n := ca) (by omega)) rfl c_2
          refine ww_iconst (v := 0) C dX12_goes_147 rfl ?_
          exact ww_zret (u := [(hm, .inr (12, [.ref m_manys, .ref m_reals, .ref m_factsOf, .ref m_possible, .int (nI q_undos), .int (nI q_models), .ref m_tape, .int (nI q_taped), .int q_fault, .int q_wrong, .int q_wrongAt, .int q_spot, .int q_place, .int q_token, .int q_value, .ref m_ends, .ref m_letters, .ref m_actOf, .ref m_whom, .ref m_actMany, .ref m_tokens, .ref m_afters, .ref m_afterOf, .int q_counted, .ref m_pile, .ref m_caseMany, .ref m_happen, .ref m_hasIf, .ref m_becomes, .ref m_goneOf, .ref m_heard, .ref m_pairs, .ref m_heaps, .int q_rounds, .int q_heapMany, .ref m_led, .ref m_newAt, .ref m_knowing, .ref m_firsts, .int (nI q_people), .ref m_secrets, .ref m_tried, .ref m_lanes, .ref m_lengths, .ref m_cells])), (m_manys, .inl (E.2.1 1, 18, .inl gt_manys)), (m_reals, .inl (E.2.1 1, 18, .inl gt_reals)), (m_factsOf, .inl (E.2.1 1, 432, .inl gt_factsOf)), (m_possible, .inl (E.2.1 1, 1728, .inl gt_possible)), (m_pairs, .inl (E.2.1 1, 576, .inl gt_pairs)), (m_pile, .inl (E.2.1 1, 34, .inl gt_pile)), (m_caseMany, .inl (E.2.1 1, 4, .inl f_caseMany)), (m_happen, .inl (E.2.1 1, 4, .inl f_happen)), (m_hasIf, .inl (E.2.1 3, 16, .inl f_hasIf)), (m_becomes, .inl (E.2.1 1, 16, .inl f_becomes)), (m_goneOf, .inl (E.2.1 1, 16, .inl f_goneOf)), (m_heard, .inl (E.2.1 1, 64, .inl f_heard)), (m_actMany, .inl (E.2.1 1, 25, .inl f_actMany)), (m_actOf, .inl (E.2.1 1, 800, .inl f_actOf)), (m_whom, .inl (E.2.1 1, 800, .inl f_whom)), (m_afters, .inl (E.2.1 1, 9, .inl f_afters)), (m_afterOf, .inl (E.2.1 1, 18, .inl f_afterOf))]) C hT [0, 1, 2, 3, 4, 5, 6, 7, 8, 9, 10, 11, 12, 13, 14, 15, 16, 17] rfl rfl rfl rfl rfl dX12_goes_148 (Or.inr ⟨gt_manys, gt_reals, gt_factsOf, gt_possible, gt_pairs, gt_pile, rfl, rfl, hnb_m_manys_27, hnb_m_reals_27, hpg_27, hwf_27, (hca0 (by omega)), hoth⟩)
        · have zc_2 : ((ca : Nat) : Int) ≠ 0 := i_ne (nI_toInt (n := ca) (by omega)) rfl c_2
          refine ww_aload_n C dX12_goes_134 2 rfl rfl ?_
          refine ww_iload_n C dX12_goes_135 5 rfl rfl ?_
          refine ww_iload_n C dX12_goes_136 4 rfl rfl ?_
          refine ww_ci (wr := []) (k' := 0) (n' := 0) C (run_V (As := [.int (nI am), .int (nI n)]) (rest := []) C (r_isTrue X.2.1 E ro hm am n m_manys m_reals m_factsOf m_possible q_undos q_models m_tape q_taped q_fault q_wrong q_wrongAt q_spot q_place q_token q_value m_ends m_letters m_actOf m_whom m_actMany m_tokens m_afters m_afterOf q_counted m_pile m_caseMany m_happen m_hasIf m_becomes m_goneOf m_heard m_pairs m_heaps q_rounds q_heapMany m_led m_newAt m_knowing m_firsts q_people m_secrets m_tried m_lanes m_lengths m_cells gt_manys gt_reals gt_factsOf gt_possible gt_pairs gt_pile f_caseMany f_happen f_hasIf f_becomes f_goneOf f_heard f_actMany f_actOf f_whom f_afters f_afterOf hnb_m_manys_27 hnb_m_reals_27 hpg_27 hwf_27 hb_caseMany hb_happen hb_actMany hhp hsv hb_afters hb_afterOf (by omega) (by omega) hWa hWI) mi_X12_isTrue wl_X12_276 rfl 0 12 rfl rfl rfl rfl rfl dX12_goes_137) (roK hro) [0, 1, 2, 3, 4, 5, 6, 7, 8, 9, 10, 11, 12, 13, 14, 15, 16, 17] [] rfl rfl rfl rfl (fun r_3 uz hw => ?_)
          rcases hw with hw | hw
          · refine ex6 hw ?_
            clear hw
            intro f_manysz_4 f_realsz_5 f_factsOfz_6 f_possiblez_7 f_pairsz_8 f_pilez_9 hw
            refine an8 hw ?_
            clear hw
            intro he_18 he_19 h_10 h_11 h_12 h_13 h_14 h_15 hw
            refine an1 hw ?_
            clear hw
            intro h_16 hw
            have h_17 := hw
            clear hw
            have he_18 := he_18.symm
            subst he_18
            subst he_19
            refine ww_eq (ws' := [(hm, .inr (12, [.ref m_manys, .ref m_reals, .ref m_factsOf, .ref m_possible, .int (nI q_undos), .int (nI q_models), .ref m_tape, .int (nI q_taped), .int q_fault, .int q_wrong, .int q_wrongAt, .int q_spot, .int q_place, .int q_token, .int q_value, .ref m_ends, .ref m_letters, .ref m_actOf, .ref m_whom, .ref m_actMany, .ref m_tokens, .ref m_afters, .ref m_afterOf, .int q_counted, .ref m_pile, .ref m_caseMany, .ref m_happen, .ref m_hasIf, .ref m_becomes, .ref m_goneOf, .ref m_heard, .ref m_pairs, .ref m_heaps, .int q_rounds, .int q_heapMany, .ref m_led, .ref m_newAt, .ref m_knowing, .ref m_firsts, .int (nI q_people), .ref m_secrets, .ref m_tried, .ref m_lanes, .ref m_lengths, .ref m_cells])), (m_manys, .inl (E.2.1 1, 18, .inl f_manysz_4)), (m_reals, .inl (E.2.1 1, 18, .inl f_realsz_5)), (m_factsOf, .inl (E.2.1 1, 432, .inl f_factsOfz_6)), (m_possible, .inl (E.2.1 1, 1728, .inl f_possiblez_7)), (m_pairs, .inl (E.2.1 1, 576, .inl f_pairsz_8)), (m_pile, .inl (E.2.1 1, 34, .inl f_pilez_9)), (m_caseMany, .inl (E.2.1 1, 4, .inl f_caseMany)), (m_happen, .inl (E.2.1 1, 4, .inl f_happen)), (m_hasIf, .inl (E.2.1 3, 16, .inl f_hasIf)), (m_becomes, .inl (E.2.1 1, 16, .inl f_becomes)), (m_goneOf, .inl (E.2.1 1, 16, .inl f_goneOf)), (m_heard, .inl (E.2.1 1, 64, .inl f_heard)), (m_actMany, .inl (E.2.1 1, 25, .inl f_actMany)), (m_actOf, .inl (E.2.1 1, 800, .inl f_actOf)), (m_whom, .inl (E.2.1 1, 800, .inl f_whom)), (m_afters, .inl (E.2.1 1, 9, .inl f_afters)), (m_afterOf, .inl (E.2.1 1, 18, .inl f_afterOf))]) ?_ rfl rfl rfl
            refine ww_if_eq_f (tgt := 147) C dX12_goes_140 (by decide) (by decide) ?_
            refine ww_iconst (v := 1) C dX12_goes_143 rfl ?_
            refine ww_goto (tgt := 148) C dX12_goes_144 (by decide) ?_
            exact ww_zret (u := [(hm, .inr (12, [.ref m_manys, .ref m_reals, .ref m_factsOf, .ref m_possible, .int (nI q_undos), .int (nI q_models), .ref m_tape, .int (nI q_taped), .int q_fault, .int q_wrong, .int q_wrongAt, .int q_spot, .int q_place, .int q_token, .int q_value, .ref m_ends, .ref m_letters, .ref m_actOf, .ref m_whom, .ref m_actMany, .ref m_tokens, .ref m_afters, .ref m_afterOf, .int q_counted, .ref m_pile, .ref m_caseMany, .ref m_happen, .ref m_hasIf, .ref m_becomes, .ref m_goneOf, .ref m_heard, .ref m_pairs, .ref m_heaps, .int q_rounds, .int q_heapMany, .ref m_led, .ref m_newAt, .ref m_knowing, .ref m_firsts, .int (nI q_people), .ref m_secrets, .ref m_tried, .ref m_lanes, .ref m_lengths, .ref m_cells])), (m_manys, .inl (E.2.1 1, 18, .inl f_manysz_4)), (m_reals, .inl (E.2.1 1, 18, .inl f_realsz_5)), (m_factsOf, .inl (E.2.1 1, 432, .inl f_factsOfz_6)), (m_possible, .inl (E.2.1 1, 1728, .inl f_possiblez_7)), (m_pairs, .inl (E.2.1 1, 576, .inl f_pairsz_8)), (m_pile, .inl (E.2.1 1, 34, .inl f_pilez_9)), (m_caseMany, .inl (E.2.1 1, 4, .inl f_caseMany)), (m_happen, .inl (E.2.1 1, 4, .inl f_happen)), (m_hasIf, .inl (E.2.1 3, 16, .inl f_hasIf)), (m_becomes, .inl (E.2.1 1, 16, .inl f_becomes)), (m_goneOf, .inl (E.2.1 1, 16, .inl f_goneOf)), (m_heard, .inl (E.2.1 1, 64, .inl f_heard)), (m_actMany, .inl (E.2.1 1, 25, .inl f_actMany)), (m_actOf, .inl (E.2.1 1, 800, .inl f_actOf)), (m_whom, .inl (E.2.1 1, 800, .inl f_whom)), (m_afters, .inl (E.2.1 1, 9, .inl f_afters)), (m_afterOf, .inl (E.2.1 1, 18, .inl f_afterOf))]) C hT [0, 1, 2, 3, 4, 5, 6, 7, 8, 9, 10, 11, 12, 13, 14, 15, 16, 17] rfl rfl rfl rfl rfl dX12_goes_148 (Or.inl ⟨f_manysz_4, f_realsz_5, f_factsOfz_6, f_possiblez_7, f_pairsz_8, f_pilez_9, rfl, rfl, h_10, h_11, h_12, h_13, ((hca1 (by omega)).2.1.trans (by rw [show n - k1 = 0 by omega]; exact gob_0 (hca1 (by omega)).1 (by have h9 : k1 = n := (by omega); rw [h9]; exact h_16))), (KPA.tr hoth h_17 (Nat.zero_le _))⟩)
          · refine ex6 hw ?_
            clear hw
            intro f_manysz_20 f_realsz_21 f_factsOfz_22 f_possiblez_23 f_pairsz_24 f_pilez_25 hw
            refine an8 hw ?_
            clear hw
            intro he_34 he_35 h_26 h_27 h_28 h_29 h_30 h_31 hw
            refine an1 hw ?_
            clear hw
            intro h_32 hw
            have h_33 := hw
            clear hw
            have he_34 := he_34.symm
            subst he_34
            subst he_35
            refine ww_eq (ws' := [(hm, .inr (12, [.ref m_manys, .ref m_reals, .ref m_factsOf, .ref m_possible, .int (nI q_undos), .int (nI q_models), .ref m_tape, .int (nI q_taped), .int q_fault, .int q_wrong, .int q_wrongAt, .int q_spot, .int q_place, .int q_token, .int q_value, .ref m_ends, .ref m_letters, .ref m_actOf, .ref m_whom, .ref m_actMany, .ref m_tokens, .ref m_afters, .ref m_afterOf, .int q_counted, .ref m_pile, .ref m_caseMany, .ref m_happen, .ref m_hasIf, .ref m_becomes, .ref m_goneOf, .ref m_heard, .ref m_pairs, .ref m_heaps, .int q_rounds, .int q_heapMany, .ref m_led, .ref m_newAt, .ref m_knowing, .ref m_firsts, .int (nI q_people), .ref m_secrets, .ref m_tried, .ref m_lanes, .ref m_lengths, .ref m_cells])), (m_manys, .inl (E.2.1 1, 18, .inl f_manysz_20)), (m_reals, .inl (E.2.1 1, 18, .inl f_realsz_21)), (m_factsOf, .inl (E.2.1 1, 432, .inl f_factsOfz_22)), (m_possible, .inl (E.2.1 1, 1728, .inl f_possiblez_23)), (m_pairs, .inl (E.2.1 1, 576, .inl f_pairsz_24)), (m_pile, .inl (E.2.1 1, 34, .inl f_pilez_25)), (m_caseMany, .inl (E.2.1 1, 4, .inl f_caseMany)), (m_happen, .inl (E.2.1 1, 4, .inl f_happen)), (m_hasIf, .inl (E.2.1 3, 16, .inl f_hasIf)), (m_becomes, .inl (E.2.1 1, 16, .inl f_becomes)), (m_goneOf, .inl (E.2.1 1, 16, .inl f_goneOf)), (m_heard, .inl (E.2.1 1, 64, .inl f_heard)), (m_actMany, .inl (E.2.1 1, 25, .inl f_actMany)), (m_actOf, .inl (E.2.1 1, 800, .inl f_actOf)), (m_whom, .inl (E.2.1 1, 800, .inl f_whom)), (m_afters, .inl (E.2.1 1, 9, .inl f_afters)), (m_afterOf, .inl (E.2.1 1, 18, .inl f_afterOf))]) ?_ rfl rfl rfl
            refine ww_if_eq_t (tgt := 147) C dX12_goes_140 (by decide) (rfl) ?_
            refine ww_iconst (v := 0) C dX12_goes_147 rfl ?_
            exact ww_zret (u := [(hm, .inr (12, [.ref m_manys, .ref m_reals, .ref m_factsOf, .ref m_possible, .int (nI q_undos), .int (nI q_models), .ref m_tape, .int (nI q_taped), .int q_fault, .int q_wrong, .int q_wrongAt, .int q_spot, .int q_place, .int q_token, .int q_value, .ref m_ends, .ref m_letters, .ref m_actOf, .ref m_whom, .ref m_actMany, .ref m_tokens, .ref m_afters, .ref m_afterOf, .int q_counted, .ref m_pile, .ref m_caseMany, .ref m_happen, .ref m_hasIf, .ref m_becomes, .ref m_goneOf, .ref m_heard, .ref m_pairs, .ref m_heaps, .int q_rounds, .int q_heapMany, .ref m_led, .ref m_newAt, .ref m_knowing, .ref m_firsts, .int (nI q_people), .ref m_secrets, .ref m_tried, .ref m_lanes, .ref m_lengths, .ref m_cells])), (m_manys, .inl (E.2.1 1, 18, .inl f_manysz_20)), (m_reals, .inl (E.2.1 1, 18, .inl f_realsz_21)), (m_factsOf, .inl (E.2.1 1, 432, .inl f_factsOfz_22)), (m_possible, .inl (E.2.1 1, 1728, .inl f_possiblez_23)), (m_pairs, .inl (E.2.1 1, 576, .inl f_pairsz_24)), (m_pile, .inl (E.2.1 1, 34, .inl f_pilez_25)), (m_caseMany, .inl (E.2.1 1, 4, .inl f_caseMany)), (m_happen, .inl (E.2.1 1, 4, .inl f_happen)), (m_hasIf, .inl (E.2.1 3, 16, .inl f_hasIf)), (m_becomes, .inl (E.2.1 1, 16, .inl f_becomes)), (m_goneOf, .inl (E.2.1 1, 16, .inl f_goneOf)), (m_heard, .inl (E.2.1 1, 64, .inl f_heard)), (m_actMany, .inl (E.2.1 1, 25, .inl f_actMany)), (m_actOf, .inl (E.2.1 1, 800, .inl f_actOf)), (m_whom, .inl (E.2.1 1, 800, .inl f_whom)), (m_afters, .inl (E.2.1 1, 9, .inl f_afters)), (m_afterOf, .inl (E.2.1 1, 18, .inl f_afterOf))]) C hT [0, 1, 2, 3, 4, 5, 6, 7, 8, 9, 10, 11, 12, 13, 14, 15, 16, 17] rfl rfl rfl rfl rfl dX12_goes_148 (Or.inr ⟨f_manysz_20, f_realsz_21, f_factsOfz_22, f_possiblez_23, f_pairsz_24, f_pilez_25, rfl, rfl, h_26, h_27, h_28, h_29, ((hca1 (by omega)).2.1.trans (by rw [show n - k1 = 0 by omega]; exact gob_0 (hca1 (by omega)).1 (by have h9 : k1 = n := (by omega); rw [h9]; exact h_32))), (KPA.tr hoth h_33 (Nat.zero_le _))⟩)
      · have zc_1 : ((k1 : Nat) : Int) < ((n : Nat) : Int) := i_nle (nI_toInt (n := n) (by omega)) (nI_toInt (n := k1) (by omega)) c_1
        refine ww_iload C dX12_goes_33 1 rfl ?_
        refine ww_if_eq (tgt := 129) C dX12_goes_35 (by decide) (fun c_36 => ?_) (fun c_36 => ?_)
        · have zc_36 : ((ca : Nat) : Int) = 0 := i_eq (nI_toInt (n := ca) (by omega)) rfl c_36
          refine ww_iload C dX12_goes_129 1 rfl ?_
          refine ww_if_eq (tgt := 147) C dX12_goes_131 (by decide) (fun c_37 => ?_) (fun c_37 => ?_)
          · have zc_37 : ((ca : Nat) : Int) = 0 := i_eq (nI_toInt (n := ca) (by omega)) rfl c_37
            refine ww_iconst (v := 0) C dX12_goes_147 rfl ?_
            exact ww_zret (u := [(hm, .inr (12, [.ref m_manys, .ref m_reals, .ref m_factsOf, .ref m_possible, .int (nI q_undos), .int (nI q_models), .ref m_tape, .int (nI q_taped), .int q_fault, .int q_wrong, .int q_wrongAt, .int q_spot, .int q_place, .int q_token, .int q_value, .ref m_ends, .ref m_letters, .ref m_actOf, .ref m_whom, .ref m_actMany, .ref m_tokens, .ref m_afters, .ref m_afterOf, .int q_counted, .ref m_pile, .ref m_caseMany, .ref m_happen, .ref m_hasIf, .ref m_becomes, .ref m_goneOf, .ref m_heard, .ref m_pairs, .ref m_heaps, .int q_rounds, .int q_heapMany, .ref m_led, .ref m_newAt, .ref m_knowing, .ref m_firsts, .int (nI q_people), .ref m_secrets, .ref m_tried, .ref m_lanes, .ref m_lengths, .ref m_cells])), (m_manys, .inl (E.2.1 1, 18, .inl gt_manys)), (m_reals, .inl (E.2.1 1, 18, .inl gt_reals)), (m_factsOf, .inl (E.2.1 1, 432, .inl gt_factsOf)), (m_possible, .inl (E.2.1 1, 1728, .inl gt_possible)), (m_pairs, .inl (E.2.1 1, 576, .inl gt_pairs)), (m_pile, .inl (E.2.1 1, 34, .inl gt_pile)), (m_caseMany, .inl (E.2.1 1, 4, .inl f_caseMany)), (m_happen, .inl (E.2.1 1, 4, .inl f_happen)), (m_hasIf, .inl (E.2.1 3, 16, .inl f_hasIf)), (m_becomes, .inl (E.2.1 1, 16, .inl f_becomes)), (m_goneOf, .inl (E.2.1 1, 16, .inl f_goneOf)), (m_heard, .inl (E.2.1 1, 64, .inl f_heard)), (m_actMany, .inl (E.2.1 1, 25, .inl f_actMany)), (m_actOf, .inl (E.2.1 1, 800, .inl f_actOf)), (m_whom, .inl (E.2.1 1, 800, .inl f_whom)), (m_afters, .inl (E.2.1 1, 9, .inl f_afters)), (m_afterOf, .inl (E.2.1 1, 18, .inl f_afterOf))]) C hT [0, 1, 2, 3, 4, 5, 6, 7, 8, 9, 10, 11, 12, 13, 14, 15, 16, 17] rfl rfl rfl rfl rfl dX12_goes_148 (Or.inr ⟨gt_manys, gt_reals, gt_factsOf, gt_possible, gt_pairs, gt_pile, rfl, rfl, hnb_m_manys_27, hnb_m_reals_27, hpg_27, hwf_27, (hca0 (by omega)), hoth⟩)
          · have zc_37 : ((ca : Nat) : Int) ≠ 0 := i_ne (nI_toInt (n := ca) (by omega)) rfl c_37
            omega
        · have zc_36 : ((ca : Nat) : Int) ≠ 0 := i_ne (nI_toInt (n := ca) (by omega)) rfl c_36
          refine ww_iload_n C dX12_goes_38 3 rfl rfl ?_
          refine ww_iconst (v := 2) C dX12_goes_39 rfl ?_
          refine ww_iload_n C dX12_goes_40 4 rfl rfl ?_
          refine ww_iconst (v := 1) C dX12_goes_41 rfl ?_
          refine ww_isub (v := (nI (n - 1))) C dX12_goes_42 (pk_sub (a := n) (b := 1) (by omega)) ?_
          refine ww_iload C dX12_goes_43 0 rfl ?_
          refine ww_isub (v := (nI ((n - 1) - k1))) C dX12_goes_45 (pk_sub (a := (n - 1)) (b := k1) (by omega)) ?_
          refine ww_imul (v := (nI (2 * ((n - 1) - k1)))) C dX12_goes_46 (pk_mul 2 ((n - 1) - k1)) ?_
          obtain ⟨x_38, ex_38⟩ : ∃ z : Int32, (nI row) >>> ((nI (2 * ((n - 1) - k1))) &&& 31) = z := ⟨_, rfl⟩
          refine ww_ishr (v := x_38) C dX12_goes_47 ex_38 ?_
          refine ww_iconst (v := 3) C dX12_goes_48 rfl ?_
          obtain ⟨j_39, hj_39, ej_39⟩ := pk_andE x_38 (m := 3) 2 rfl
          refine ww_iand (v := (nI j_39)) C dX12_goes_49 ej_39 ?_
          refine ww_istore (lv' := [(7, .int (nI j_39)), (6, .int (nI k1)), (5, .int (nI ca)), (0, .ref hm), (1, .int (nI row)), (2, .int (nI n)), (3, .int (nI am)), (4, .int (-4))]) C dX12_goes_50 rfl rfl ?_
          have hdg_ : j_39 = dgt row (n - 1 - k1) := dg_of (by omega) hrow ex_38 ej_39 (by omega)
          have hrl1 := (hca1 (by omega)).2.2
          have hhp_ := hhp j_39 (by omega)
          have hh4_ := (hb_happen j_39 (by omega)).2
          have hc4_ := (hb_caseMany j_39 (by omega)).2
          refine ww_aload_n C dX12_goes_52 3 rfl rfl ?_
          refine ww_get C fg_X12_52 0 rfl rfl dX12_goes_53 ?_
          refine ww_iload C dX12_goes_56 0 rfl ?_
          have hbx_40 := (hb_caseMany j_39 (by omega)).2
          refine ww_iald (v := (nI (cN f_caseMany j_39))) C 7 rfl (vp_in_nI (by omega) (by omega)) (ldn (by omega) (hb_caseMany j_39 (by omega)).1) dX12_goes_58 ?_
          refine ww_if_le (tgt := 88) C dX12_goes_59 (by decide) (fun c_41 => ?_) (fun c_41 => ?_)
          · have zc_41 : ((cN f_caseMany j_39 : Nat) : Int) ≤ 0 := i_le (nI_toInt (n := cN f_caseMany j_39) (by omega)) rfl c_41
            refine ww_iconst (v := 0) C dX12_goes_88 rfl ?_
            have hcan_ : canL ((pgs gt_manys gt_reals gt_factsOf gt_possible) k1) ((rEv f_caseMany f_happen f_hasIf f_actMany f_actOf f_whom f_becomes f_goneOf f_heard) j_39) = false := canL_z (show cN f_caseMany j_39 = 0 by omega)
            refine ww_istore (lv' := [(5, .int 0), (7, .int (nI j_39)), (6, .int (nI k1)), (0, .ref hm), (1, .int (nI row)), (2, .int (nI n)), (3, .int (nI am)), (4, .int (-4))]) C dX12_goes_89 rfl rfl ?_
            refine ww_iload C dX12_goes_91 0 rfl ?_
            refine ww_if_eq_t (tgt := 120) C dX12_goes_93 (by decide) (rfl) ?_
            refine ww_iconst (v := 0) C dX12_goes_120 rfl ?_
            refine ww_istore (lv' := [(5, .int 0), (7, .int (nI j_39)), (6, .int (nI k1)), (0, .ref hm), (1, .int (nI row)), (2, .int (nI n)), (3, .int (nI am)), (4, .int (-4))]) C dX12_goes_121 rfl rfl ?_
            refine ww_iinc (j := 2) (v := (nI (k1 + 1))) (lv' := [(6, .int (nI (k1 + 1))), (5, .int 0), (7, .int (nI j_39)), (0, .ref hm), (1, .int (nI row)), (2, .int (nI n)), (3, .int (nI am)), (4, .int (-4))]) C dX12_goes_123 rfl (nI_add k1 1) rfl rfl ?_
            refine ww_goto (tgt := 27) C dX12_goes_126 (by decide) ?_
            exact ww_lv [0, 1, 3, 4, 5, 6, 7] rfl (ww_sub [0, 1, 2, 3, 4, 5, 6, 7, 8, 9, 10, 11, 12, 13, 14, 15, 16, 17] rfl rfl (ih_27 (k1 + 1) 0 gt_manys gt_reals gt_factsOf gt_possible gt_pairs gt_pile (by omega) (by omega) (fun h9 => absurd h9 (by decide)) (fun _ => (hca1 (by omega)).2.1.trans (by rw [show n - k1 = (n - 1 - k1) + 1 by omega]; exact (gob_c hdg_ hcan_))) hoth hnb_m_manys_27 hnb_m_reals_27 hpg_27 hwf_27 (by omega)))
          · have zc_41 : ((cN f_caseMany j_39 : Nat) : Int) > 0 := i_nle (nI_toInt (n := cN f_caseMany j_39) (by omega)) rfl c_41
            refine ww_aload_n C dX12_goes_62 3 rfl rfl ?_
            refine ww_iload C dX12_goes_63 0 rfl ?_
            refine ww_iload C dX12_goes_65 1 rfl ?_
            refine ww_ci (wr := [(m_pairs, .inl (E.2.1 1, 576, .inl gt_pairs)), (m_afters, .inl (E.2.1 1, 9, .inl f_afters)), (m_afterOf, .inl (E.2.1 1, 18, .inl f_afterOf))]) (k' := 0) (n' := 0) C (run_V (As := [.int (nI j_39), .int (nI k1)]) (rest := []) C (r_canHappen X.2.1 E ro hm j_39 k1 m_manys m_reals m_factsOf m_possible q_undos q_models m_tape q_taped q_fault q_wrong q_wrongAt q_spot q_place q_token q_value m_ends m_letters m_actOf m_whom m_actMany m_tokens m_afters m_afterOf q_counted m_pile m_caseMany m_happen m_hasIf m_becomes m_goneOf m_heard m_pairs m_heaps q_rounds q_heapMany m_led m_newAt m_knowing m_firsts q_people m_secrets m_tried m_lanes m_lengths m_cells gt_manys gt_reals gt_factsOf gt_possible f_caseMany f_happen f_hasIf f_becomes f_goneOf f_heard f_actMany f_actOf f_whom gt_pile hnb_m_manys_27 hnb_m_reals_27 hb_caseMany hb_happen hb_actMany hpg_27 hhp hsv hwf_27 (by omega) (by omega) hWI) mi_X12_canHappen wl_X12_279 rfl 0 12 rfl rfl rfl rfl rfl dX12_goes_67) (roK hro) [0, 1, 2, 3, 4, 7, 8, 9, 10, 11, 12, 13, 14, 15, 6] [5, 16, 17] rfl rfl rfl rfl (fun r_42 uz hw => ?_)
            rcases hw with hw | hw
            · refine ex1 hw ?_
              clear hw
              intro f_pilez_43 hw
              refine an2 hw ?_
              clear hw
              intro he_45 he_46 hw
              have h_44 := hw
              clear hw
              have he_45 := he_45.symm
              subst he_45
              subst he_46
              refine ww_eq (ws' := [(m_pairs, .inl (E.2.1 1, 576, .inl gt_pairs)), (m_afters, .inl (E.2.1 1, 9, .inl f_afters)), (m_afterOf, .inl (E.2.1 1, 18, .inl f_afterOf)), (hm, .inr (12, [.ref m_manys, .ref m_reals, .ref m_factsOf, .ref m_possible, .int (nI q_undos), .int (nI q_models), .ref m_tape, .int (nI q_taped), .int q_fault, .int q_wrong, .int q_wrongAt, .int q_spot, .int q_place, .int q_token, .int q_value, .ref m_ends, .ref m_letters, .ref m_actOf, .ref m_whom, .ref m_actMany, .ref m_tokens, .ref m_afters, .ref m_afterOf, .int q_counted, .ref m_pile, .ref m_caseMany, .ref m_happen, .ref m_hasIf, .ref m_becomes, .ref m_goneOf, .ref m_heard, .ref m_pairs, .ref m_heaps, .int q_rounds, .int q_heapMany, .ref m_led, .ref m_newAt, .ref m_knowing, .ref m_firsts, .int (nI q_people), .ref m_secrets, .ref m_tried, .ref m_lanes, .ref m_lengths, .ref m_cells])), (m_manys, .inl (E.2.1 1, 18, .inl gt_manys)), (m_reals, .inl (E.2.1 1, 18, .inl gt_reals)), (m_factsOf, .inl (E.2.1 1, 432, .inl gt_factsOf)), (m_possible, .inl (E.2.1 1, 1728, .inl gt_possible)), (m_caseMany, .inl (E.2.1 1, 4, .inl f_caseMany)), (m_happen, .inl (E.2.1 1, 4, .inl f_happen)), (m_hasIf, .inl (E.2.1 3, 16, .inl f_hasIf)), (m_becomes, .inl (E.2.1 1, 16, .inl f_becomes)), (m_goneOf, .inl (E.2.1 1, 16, .inl f_goneOf)), (m_heard, .inl (E.2.1 1, 64, .inl f_heard)), (m_actMany, .inl (E.2.1 1, 25, .inl f_actMany)), (m_actOf, .inl (E.2.1 1, 800, .inl f_actOf)), (m_whom, .inl (E.2.1 1, 800, .inl f_whom)), (m_pile, .inl (E.2.1 1, 34, .inl f_pilez_43))]) ?_ rfl rfl rfl
              refine ww_if_eq_f (tgt := 88) C dX12_goes_70 (by decide) (by decide) ?_
              refine ww_aload_n C dX12_goes_73 3 rfl rfl ?_
              refine ww_iload C dX12_goes_74 0 rfl ?_
              refine ww_iload C dX12_goes_76 1 rfl ?_
              refine ww_ci (wr := [(m_afters, .inl (E.2.1 1, 9, .inl f_afters)), (m_afterOf, .inl (E.2.1 1, 18, .inl f_afterOf))]) (k' := 0) (n' := 0) C (run_V (As := [.int (nI j_39), .int (nI k1)]) (rest := []) C (r_laid X.2.1 E ro hm j_39 k1 m_manys m_reals m_factsOf m_possible q_undos q_models m_tape q_taped q_fault q_wrong q_wrongAt q_spot q_place q_token q_value m_ends m_letters m_actOf m_whom m_actMany m_tokens m_afters m_afterOf q_counted m_pile m_caseMany m_happen m_hasIf m_becomes m_goneOf m_heard m_pairs m_heaps q_rounds q_heapMany m_led m_newAt m_knowing m_firsts q_people m_secrets m_tried m_lanes m_lengths m_cells gt_manys gt_reals gt_factsOf gt_possible gt_pairs f_pilez_43 f_caseMany f_happen f_hasIf f_becomes f_goneOf f_heard f_actMany f_actOf f_whom hnb_m_manys_27 hnb_m_reals_27 hpg_27 hwf_27 hb_caseMany hb_happen hb_actMany hhp hsv (by omega) (by omega) (by omega) hWI) mi_X12_laid wl_X12_267 rfl 0 12 rfl rfl rfl rfl rfl dX12_goes_78) (roK hro) [3, 4, 5, 6, 7, 0, 17, 8, 9, 10, 11, 12, 13, 14, 15, 16] [1, 2] rfl rfl rfl rfl (fun r_51 uz hw => ?_)
              rcases hw with hw | hw
              · refine ex6 hw ?_
                clear hw
                intro f_manysz_52 f_realsz_53 f_factsOfz_54 f_possiblez_55 f_pairsz_56 f_pilez_57 hw
                refine an8 hw ?_
                clear hw
                intro he_67 he_68 h_58 h_59 h_60 h_61 h_62 h_63 hw
                refine an2 hw ?_
                clear hw
                intro h_64 h_65 hw
                have h_66 := hw
                clear hw
                have he_67 := he_67.symm
                subst he_67
                subst he_68
                refine ww_eq (ws' := [(m_afters, .inl (E.2.1 1, 9, .inl f_afters)), (m_afterOf, .inl (E.2.1 1, 18, .inl f_afterOf)), (hm, .inr (12, [.ref m_manys, .ref m_reals, .ref m_factsOf, .ref m_possible, .int (nI q_undos), .int (nI q_models), .ref m_tape, .int (nI q_taped), .int q_fault, .int q_wrong, .int q_wrongAt, .int q_spot, .int q_place, .int q_token, .int q_value, .ref m_ends, .ref m_letters, .ref m_actOf, .ref m_whom, .ref m_actMany, .ref m_tokens, .ref m_afters, .ref m_afterOf, .int q_counted, .ref m_pile, .ref m_caseMany, .ref m_happen, .ref m_hasIf, .ref m_becomes, .ref m_goneOf, .ref m_heard, .ref m_pairs, .ref m_heaps, .int q_rounds, .int q_heapMany, .ref m_led, .ref m_newAt, .ref m_knowing, .ref m_firsts, .int (nI q_people), .ref m_secrets, .ref m_tried, .ref m_lanes, .ref m_lengths, .ref m_cells])), (m_manys, .inl (E.2.1 1, 18, .inl f_manysz_52)), (m_reals, .inl (E.2.1 1, 18, .inl f_realsz_53)), (m_factsOf, .inl (E.2.1 1, 432, .inl f_factsOfz_54)), (m_possible, .inl (E.2.1 1, 1728, .inl f_possiblez_55)), (m_pairs, .inl (E.2.1 1, 576, .inl f_pairsz_56)), (m_pile, .inl (E.2.1 1, 34, .inl f_pilez_57)), (m_caseMany, .inl (E.2.1 1, 4, .inl f_caseMany)), (m_happen, .inl (E.2.1 1, 4, .inl f_happen)), (m_hasIf, .inl (E.2.1 3, 16, .inl f_hasIf)), (m_becomes, .inl (E.2.1 1, 16, .inl f_becomes)), (m_goneOf, .inl (E.2.1 1, 16, .inl f_goneOf)), (m_heard, .inl (E.2.1 1, 64, .inl f_heard)), (m_actMany, .inl (E.2.1 1, 25, .inl f_actMany)), (m_actOf, .inl (E.2.1 1, 800, .inl f_actOf)), (m_whom, .inl (E.2.1 1, 800, .inl f_whom))]) ?_ rfl rfl rfl
                refine ww_if_lt_t (tgt := 88) C dX12_goes_81 (by decide) (by decide) ?_
                refine ww_iconst (v := 0) C dX12_goes_88 rfl ?_
                have hcan_ : canL ((pgs gt_manys gt_reals gt_factsOf gt_possible) k1) ((rEv f_caseMany f_happen f_hasIf f_actMany f_actOf f_whom f_becomes f_goneOf f_heard) j_39) = false := canL_f h_66
                refine ww_istore (lv' := [(5, .int 0), (7, .int (nI j_39)), (6, .int (nI k1)), (0, .ref hm), (1, .int (nI row)), (2, .int (nI n)), (3, .int (nI am)), (4, .int (-4))]) C dX12_goes_89 rfl rfl ?_
                refine ww_iload C dX12_goes_91 0 rfl ?_
                refine ww_if_eq_t (tgt := 120) C dX12_goes_93 (by decide) (rfl) ?_
                refine ww_iconst (v := 0) C dX12_goes_120 rfl ?_
                refine ww_istore (lv' := [(5, .int 0), (7, .int (nI j_39)), (6, .int (nI k1)), (0, .ref hm), (1, .int (nI row)), (2, .int (nI n)), (3, .int (nI am)), (4, .int (-4))]) C dX12_goes_121 rfl rfl ?_
                refine ww_iinc (j := 2) (v := (nI (k1 + 1))) (lv' := [(6, .int (nI (k1 + 1))), (5, .int 0), (7, .int (nI j_39)), (0, .ref hm), (1, .int (nI row)), (2, .int (nI n)), (3, .int (nI am)), (4, .int (-4))]) C dX12_goes_123 rfl (nI_add k1 1) rfl rfl ?_
                refine ww_goto (tgt := 27) C dX12_goes_126 (by decide) ?_
                exact ww_lv [0, 1, 3, 4, 5, 6, 7] rfl (ww_sub [2, 3, 4, 5, 6, 7, 8, 9, 10, 11, 12, 13, 14, 15, 16, 17, 0, 1] rfl rfl (ih_27 (k1 + 1) 0 f_manysz_52 f_realsz_53 f_factsOfz_54 f_possiblez_55 f_pairsz_56 f_pilez_57 (by omega) (by omega) (fun h9 => absurd h9 (by decide)) (fun _ => (hca1 (by omega)).2.1.trans (by rw [show n - k1 = (n - 1 - k1) + 1 by omega]; exact (gob_c hdg_ hcan_))) (KPA.oth hoth h_64 (by omega) (by omega)) h_58 h_59 h_60 h_61 (by omega)))
              · refine ex7 hw ?_
                clear hw
                intro mz_69 f_manysz_70 f_realsz_71 f_factsOfz_72 f_possiblez_73 f_pairsz_74 f_pilez_75 hw
                refine an8 hw ?_
                clear hw
                intro he_88 he_89 h_76 h_77 h_78 h_79 h_80 h_81 hw
                refine an5 hw ?_
                clear hw
                intro h_82 h_83 h_84 h_85 h_86 hw
                have h_87 := hw
                clear hw
                have he_88 := he_88.symm
                subst he_88
                subst he_89
                refine ww_eq (ws' := [(m_afters, .inl (E.2.1 1, 9, .inl f_afters)), (m_afterOf, .inl (E.2.1 1, 18, .inl f_afterOf)), (hm, .inr (12, [.ref m_manys, .ref m_reals, .ref m_factsOf, .ref m_possible, .int (nI q_undos), .int (nI q_models), .ref m_tape, .int (nI q_taped), .int q_fault, .int q_wrong, .int q_wrongAt, .int q_spot, .int q_place, .int q_token, .int q_value, .ref m_ends, .ref m_letters, .ref m_actOf, .ref m_whom, .ref m_actMany, .ref m_tokens, .ref m_afters, .ref m_afterOf, .int q_counted, .ref m_pile, .ref m_caseMany, .ref m_happen, .ref m_hasIf, .ref m_becomes, .ref m_goneOf, .ref m_heard, .ref m_pairs, .ref m_heaps, .int q_rounds, .int q_heapMany, .ref m_led, .ref m_newAt, .ref m_knowing, .ref m_firsts, .int (nI q_people), .ref m_secrets, .ref m_tried, .ref m_lanes, .ref m_lengths, .ref m_cells])), (m_manys, .inl (E.2.1 1, 18, .inl f_manysz_70)), (m_reals, .inl (E.2.1 1, 18, .inl f_realsz_71)), (m_factsOf, .inl (E.2.1 1, 432, .inl f_factsOfz_72)), (m_possible, .inl (E.2.1 1, 1728, .inl f_possiblez_73)), (m_pairs, .inl (E.2.1 1, 576, .inl f_pairsz_74)), (m_pile, .inl (E.2.1 1, 34, .inl f_pilez_75)), (m_caseMany, .inl (E.2.1 1, 4, .inl f_caseMany)), (m_happen, .inl (E.2.1 1, 4, .inl f_happen)), (m_hasIf, .inl (E.2.1 3, 16, .inl f_hasIf)), (m_becomes, .inl (E.2.1 1, 16, .inl f_becomes)), (m_goneOf, .inl (E.2.1 1, 16, .inl f_goneOf)), (m_heard, .inl (E.2.1 1, 64, .inl f_heard)), (m_actMany, .inl (E.2.1 1, 25, .inl f_actMany)), (m_actOf, .inl (E.2.1 1, 800, .inl f_actOf)), (m_whom, .inl (E.2.1 1, 800, .inl f_whom))]) ?_ rfl rfl rfl
                refine ww_if_lt (tgt := 88) C dX12_goes_81 (by decide) (fun c_90 => ?_) (fun c_90 => ?_)
                · have zc_90 : ((mz_69 : Nat) : Int) < 0 := i_lt (nI_toInt (n := mz_69) (by omega)) rfl c_90
                  omega
                · have zc_90 : ((mz_69 : Nat) : Int) ≥ 0 := i_nlt (nI_toInt (n := mz_69) (by omega)) rfl c_90
                  refine ww_iconst (v := 1) C dX12_goes_84 rfl ?_
                  refine ww_goto (tgt := 89) C dX12_goes_85 (by decide) ?_
                  have hcan_ : canL ((pgs gt_manys gt_reals gt_factsOf gt_possible) k1) ((rEv f_caseMany f_happen f_hasIf f_actMany f_actOf f_whom f_becomes f_goneOf f_heard) j_39) = true := canL_t (show ((pgs gt_manys gt_reals gt_factsOf gt_possible) k1).2.1 < ((pgs gt_manys gt_reals gt_factsOf gt_possible) k1).1 from hrl1) (show cN f_happen j_39 < cN f_caseMany j_39 by omega) (show cN f_happen j_39 < 4 by omega) h_44 (by rw [h_84]; omega)
                  have hrl_ : cN f_realsz_71 (k1 + 1) < cN f_manysz_70 (k1 + 1) := by have h9 := canL_in (show ((pgs gt_manys gt_reals gt_factsOf gt_possible) k1).2.1 < ((pgs gt_manys gt_reals gt_factsOf gt_possible) k1).1 from hrl1) (show cN f_happen j_39 < 4 by omega) hcan_; rw [← (h_85)] at h9; exact h9
                  refine ww_istore (lv' := [(5, .int 1), (7, .int (nI j_39)), (6, .int (nI k1)), (0, .ref hm), (1, .int (nI row)), (2, .int (nI n)), (3, .int (nI am)), (4, .int (-4))]) C dX12_goes_89 rfl rfl ?_
                  refine ww_iload C dX12_goes_91 0 rfl ?_
                  refine ww_if_eq_f (tgt := 120) C dX12_goes_93 (by decide) (by decide) ?_
                  refine ww_iload C dX12_goes_96 7 rfl ?_
                  refine ww_bipush (v := (-4)) C dX12_goes_98 rfl ?_
                  refine ww_icmp_eq_t (tgt := 116) C dX12_goes_100 (by decide) (rfl) ?_
                  refine ww_iconst (v := 1) C dX12_goes_116 rfl ?_
                  refine ww_goto (tgt := 121) C dX12_goes_117 (by decide) ?_
                  refine ww_istore (lv' := [(5, .int 1), (7, .int (nI j_39)), (6, .int (nI k1)), (0, .ref hm), (1, .int (nI row)), (2, .int (nI n)), (3, .int (nI am)), (4, .int (-4))]) C dX12_goes_121 rfl rfl ?_
                  refine ww_iinc (j := 2) (v := (nI (k1 + 1))) (lv' := [(6, .int (nI (k1 + 1))), (5, .int 1), (7, .int (nI j_39)), (0, .ref hm), (1, .int (nI row)), (2, .int (nI n)), (3, .int (nI am)), (4, .int (-4))]) C dX12_goes_123 rfl (nI_add k1 1) rfl rfl ?_
                  refine ww_goto (tgt := 27) C dX12_goes_126 (by decide) ?_
                  exact ww_lv [0, 1, 3, 4, 5, 6, 7] rfl (ww_sub [2, 3, 4, 5, 6, 7, 8, 9, 10, 11, 12, 13, 14, 15, 16, 17, 0, 1] rfl rfl (ih_27 (k1 + 1) 1 f_manysz_70 f_realsz_71 f_factsOfz_72 f_possiblez_73 f_pairsz_74 f_pilez_75 (by omega) (by omega) (fun _ => ⟨rfl, by rw [show n - (k1 + 1) = n - 1 - k1 by omega]; exact ((hca1 (by omega)).2.1.trans (by rw [show n - k1 = (n - 1 - k1) + 1 by omega]; exact gob_s (hca1 (by omega)).1 hdg_ hcan_ (h_85))), hrl_⟩) (fun h9 => absurd h9 (by decide)) (KPA.oth hoth h_82 (by omega) (by omega)) h_76 h_77 h_78 h_79 (by omega)))
            · refine ex1 hw ?_
              clear hw
              intro f_pilez_47 hw
              refine an2 hw ?_
              clear hw
              intro he_49 he_50 hw
              have h_48 := hw
              clear hw
              have he_49 := he_49.symm
              subst he_49
              subst he_50
              refine ww_eq (ws' := [(m_pairs, .inl (E.2.1 1, 576, .inl gt_pairs)), (m_afters, .inl (E.2.1 1, 9, .inl f_afters)), (m_afterOf, .inl (E.2.1 1, 18, .inl f_afterOf)), (hm, .inr (12, [.ref m_manys, .ref m_reals, .ref m_factsOf, .ref m_possible, .int (nI q_undos), .int (nI q_models), .ref m_tape, .int (nI q_taped), .int q_fault, .int q_wrong, .int q_wrongAt, .int q_spot, .int q_place, .int q_token, .int q_value, .ref m_ends, .ref m_letters, .ref m_actOf, .ref m_whom, .ref m_actMany, .ref m_tokens, .ref m_afters, .ref m_afterOf, .int q_counted, .ref m_pile, .ref m_caseMany, .ref m_happen, .ref m_hasIf, .ref m_becomes, .ref m_goneOf, .ref m_heard, .ref m_pairs, .ref m_heaps, .int q_rounds, .int q_heapMany, .ref m_led, .ref m_newAt, .ref m_knowing, .ref m_firsts, .int (nI q_people), .ref m_secrets, .ref m_tried, .ref m_lanes, .ref m_lengths, .ref m_cells])), (m_manys, .inl (E.2.1 1, 18, .inl gt_manys)), (m_reals, .inl (E.2.1 1, 18, .inl gt_reals)), (m_factsOf, .inl (E.2.1 1, 432, .inl gt_factsOf)), (m_possible, .inl (E.2.1 1, 1728, .inl gt_possible)), (m_caseMany, .inl (E.2.1 1, 4, .inl f_caseMany)), (m_happen, .inl (E.2.1 1, 4, .inl f_happen)), (m_hasIf, .inl (E.2.1 3, 16, .inl f_hasIf)), (m_becomes, .inl (E.2.1 1, 16, .inl f_becomes)), (m_goneOf, .inl (E.2.1 1, 16, .inl f_goneOf)), (m_heard, .inl (E.2.1 1, 64, .inl f_heard)), (m_actMany, .inl (E.2.1 1, 25, .inl f_actMany)), (m_actOf, .inl (E.2.1 1, 800, .inl f_actOf)), (m_whom, .inl (E.2.1 1, 800, .inl f_whom)), (m_pile, .inl (E.2.1 1, 34, .inl f_pilez_47))]) ?_ rfl rfl rfl
              refine ww_if_eq_t (tgt := 88) C dX12_goes_70 (by decide) (rfl) ?_
              refine ww_iconst (v := 0) C dX12_goes_88 rfl ?_
              have hcan_ : canL ((pgs gt_manys gt_reals gt_factsOf gt_possible) k1) ((rEv f_caseMany f_happen f_hasIf f_actMany f_actOf f_whom f_becomes f_goneOf f_heard) j_39) = false := canL_b (show ((pgs gt_manys gt_reals gt_factsOf gt_possible) k1).2.1 < ((pgs gt_manys gt_reals gt_factsOf gt_possible) k1).1 from hrl1) (show cN f_happen j_39 < cN f_caseMany j_39 by omega) (show cN f_happen j_39 < 4 by omega) h_48
              refine ww_istore (lv' := [(5, .int 0), (7, .int (nI j_39)), (6, .int (nI k1)), (0, .ref hm), (1, .int (nI row)), (2, .int (nI n)), (3, .int (nI am)), (4, .int (-4))]) C dX12_goes_89 rfl rfl ?_
              refine ww_iload C dX12_goes_91 0 rfl ?_
              refine ww_if_eq_t (tgt := 120) C dX12_goes_93 (by decide) (rfl) ?_
              refine ww_iconst (v := 0) C dX12_goes_120 rfl ?_
              refine ww_istore (lv' := [(5, .int 0), (7, .int (nI j_39)), (6, .int (nI k1)), (0, .ref hm), (1, .int (nI row)), (2, .int (nI n)), (3, .int (nI am)), (4, .int (-4))]) C dX12_goes_121 rfl rfl ?_
              refine ww_iinc (j := 2) (v := (nI (k1 + 1))) (lv' := [(6, .int (nI (k1 + 1))), (5, .int 0), (7, .int (nI j_39)), (0, .ref hm), (1, .int (nI row)), (2, .int (nI n)), (3, .int (nI am)), (4, .int (-4))]) C dX12_goes_123 rfl (nI_add k1 1) rfl rfl ?_
              refine ww_goto (tgt := 27) C dX12_goes_126 (by decide) ?_
              exact ww_lv [0, 1, 3, 4, 5, 6, 7] rfl (ww_sub [3, 4, 5, 6, 7, 0, 17, 8, 9, 10, 11, 12, 13, 14, 15, 16, 1, 2] rfl rfl (ih_27 (k1 + 1) 0 gt_manys gt_reals gt_factsOf gt_possible gt_pairs f_pilez_47 (by omega) (by omega) (fun h9 => absurd h9 (by decide)) (fun _ => (hca1 (by omega)).2.1.trans (by rw [show n - k1 = (n - 1 - k1) + 1 by omega]; exact (gob_c hdg_ hcan_))) hoth hnb_m_manys_27 hnb_m_reals_27 hpg_27 hwf_27 (by omega)))
  exact ww_lv [0, 1, 2, 3, 4, 5, 6] rfl (ww_sub [0, 1, 2, 3, 4, 5, 6, 7, 8, 9, 10, 11, 12, 13, 14, 15, 16, 17] rfl rfl (loop_27 _ 0 1 f_manys f_reals f_factsOf f_possible f_pairs f_pile (by omega) (by omega) (fun _ => ⟨rfl, by rw [Nat.sub_zero], hrl0⟩) (fun h9 => absurd h9 (by decide)) KPA.rf hb_manys hb_reals hpg hwf (Nat.lt_succ_self _)))
theorem dX12_goes_7 : decode cX12_goes 7 = .ok (.aload_n 0, 1) := by decide +kernel
theorem dX12_goes_8 : decode cX12_goes 8 = .ok (.iload 4, 2) := by decide +kernel
theorem dX12_goes_10 : decode cX12_goes 10 = .ok (.iconst 0, 1) := by decide +kernel
theorem dX12_goes_11 : decode cX12_goes 11 = .ok (.invokevirtual 276, 3) := by decide +kernel
theorem dX12_goes_14 : decode cX12_goes 14 = .ok (.ifCond .eq 7, 3) := by decide +kernel
theorem dX12_goes_103 : decode cX12_goes 103 = .ok (.aload_n 0, 1) := by decide +kernel
theorem dX12_goes_104 : decode cX12_goes 104 = .ok (.iload 4, 2) := by decide +kernel
theorem dX12_goes_106 : decode cX12_goes 106 = .ok (.iload 6, 2) := by decide +kernel
theorem dX12_goes_108 : decode cX12_goes 108 = .ok (.iconst 1, 1) := by decide +kernel
theorem dX12_goes_109 : decode cX12_goes 109 = .ok (.iadd, 1) := by decide +kernel
theorem dX12_goes_110 : decode cX12_goes 110 = .ok (.invokevirtual 276, 3) := by decide +kernel
theorem dX12_goes_113 : decode cX12_goes 113 = .ok (.ifCond .eq 7, 3) := by decide +kernel
theorem dX12_goes_21 : decode cX12_goes 21 = .ok (.iconst 0, 1) := by decide +kernel
set_option maxRecDepth 100000 in
set_option maxHeartbeats 4000000 in
theorem r_goesH (l : Launch) (E : EV) (ro : va_W) (hm : Nat) (row : Nat) (n : Nat) (am : Nat) (hd : Nat) (m_manys : Nat) (m_reals : Nat) (m_factsOf : Nat) (m_possible : Nat) (q_undos : Nat) (q_models : Nat) (m_tape : Nat) (q_taped : Nat) (q_fault : Int32) (q_wrong : Int32) (q_wrongAt : Int32) (q_spot : Int32) (q_place : Int32) (q_token : Int32) (q_value : Int32) (m_ends : Nat) (m_letters : Nat) (m_actOf : Nat) (m_whom : Nat) (m_actMany : Nat) (m_tokens : Nat) (m_afters : Nat) (m_afterOf : Nat) (q_counted : Int32) (m_pile : Nat) (m_caseMany : Nat) (m_happen : Nat) (m_hasIf : Nat) (m_becomes : Nat) (m_goneOf : Nat) (m_heard : Nat) (m_pairs : Nat) (m_heaps : Nat) (q_rounds : Int32) (q_heapMany : Int32) (m_led : Nat) (m_newAt : Nat) (m_knowing : Nat) (m_firsts : Nat) (q_people : Nat) (m_secrets : Nat) (m_tried : Nat) (m_lanes : Nat) (m_lengths : Nat) (m_cells : Nat) (f_manys : Nat → Int32) (f_reals : Nat → Int32) (f_factsOf : Nat → Int32) (f_possible : Nat → Int32) (f_pairs : Nat → Int32) (f_pile : Nat → Int32) (f_caseMany : Nat → Int32) (f_happen : Nat → Int32) (f_hasIf : Nat → Int32) (f_becomes : Nat → Int32) (f_goneOf : Nat → Int32) (f_heard : Nat → Int32) (f_actMany : Nat → Int32) (f_actOf : Nat → Int32) (f_whom : Nat → Int32) (f_afters : Nat → Int32) (f_afterOf : Nat → Int32) (hb_manys : NB 18 24 f_manys) (hb_reals : NB 18 23 f_reals) (hpg : PG f_manys f_reals) (hwf : WFP (pgs f_manys f_reals f_factsOf f_possible)) (hb_caseMany : NB 4 4 f_caseMany) (hb_happen : NB 4 3 f_happen) (hb_actMany : NB 25 32 f_actMany) (hhp : HP f_caseMany f_happen) (hsv : SV f_actOf f_actMany) (hb_afters : NB 9 2 f_afters) (hb_afterOf : NB 18 3 f_afterOf) (hrow : row < 64) (hn : n ≤ 3) (ham : am < 8) (hWa : WHs (cN f_actMany am) f_actOf f_whom am) (hrl0 : cN f_reals 0 < cN f_manys 0) (hhd : hd < 8) (hWh : WHs (cN f_actMany hd) f_actOf f_whom hd) (hWI : WHI f_hasIf f_actMany f_actOf f_whom) : CT l yX12_goes (Cond.code yX12_goes cX12_goes 8 (some .boolean) :: TB) ({ frames := 8, cells := 0, slots := 0, locals := 206 }) E ro [.ref hm, .int (nI row), .int (nI n), .int (nI am), .int (nI hd)] [(hm, .inr (12, [.ref m_manys, .ref m_reals, .ref m_factsOf, .ref m_possible, .int (nI q_undos), .int (nI q_models), .ref m_tape, .int (nI q_taped), .int q_fault, .int q_wrong, .int q_wrongAt, .int q_spot, .int q_place, .int q_token, .int q_value, .ref m_ends, .ref m_letters, .ref m_actOf, .ref m_whom, .ref m_actMany, .ref m_tokens, .ref m_afters, .ref m_afterOf, .int q_counted, .ref m_pile, .ref m_caseMany, .ref m_happen, .ref m_hasIf, .ref m_becomes, .ref m_goneOf, .ref m_heard, .ref m_pairs, .ref m_heaps, .int q_rounds, .int q_heapMany, .ref m_led, .ref m_newAt, .ref m_knowing, .ref m_firsts, .int (nI q_people), .ref m_secrets, .ref m_tried, .ref m_lanes, .ref m_lengths, .ref m_cells])), (m_manys, .inl (E.2.1 1, 18, .inl f_manys)), (m_reals, .inl (E.2.1 1, 18, .inl f_reals)), (m_factsOf, .inl (E.2.1 1, 432, .inl f_factsOf)), (m_possible, .inl (E.2.1 1, 1728, .inl f_possible)), (m_pairs, .inl (E.2.1 1, 576, .inl f_pairs)), (m_pile, .inl (E.2.1 1, 34, .inl f_pile)), (m_caseMany, .inl (E.2.1 1, 4, .inl f_caseMany)), (m_happen, .inl (E.2.1 1, 4, .inl f_happen)), (m_hasIf, .inl (E.2.1 3, 16, .inl f_hasIf)), (m_becomes, .inl (E.2.1 1, 16, .inl f_becomes)), (m_goneOf, .inl (E.2.1 1, 16, .inl f_goneOf)), (m_heard, .inl (E.2.1 1, 64, .inl f_heard)), (m_actMany, .inl (E.2.1 1, 25, .inl f_actMany)), (m_actOf, .inl (E.2.1 1, 800, .inl f_actOf)), (m_whom, .inl (E.2.1 1, 800, .inl f_whom)), (m_afters, .inl (E.2.1 1, 9, .inl f_afters)), (m_afterOf, .inl (E.2.1 1, 18, .inl f_afterOf))] (Qi E (fun (rz : Int32) uz => (∃ (f_manysz : Nat → Int32) (f_realsz : Nat → Int32) (f_factsOfz : Nat → Int32) (f_possiblez : Nat → Int32) (f_pairsz : Nat → Int32) (f_pilez : Nat → Int32), rz = 1 ∧ uz = [(hm, .inr (12, [.ref m_manys, .ref m_reals, .ref m_factsOf, .ref m_possible, .int (nI q_undos), .int (nI q_models), .ref m_tape, .int (nI q_taped), .int q_fault, .int q_wrong, .int q_wrongAt, .int q_spot, .int q_place, .int q_token, .int q_value, .ref m_ends, .ref m_letters, .ref m_actOf, .ref m_whom, .ref m_actMany, .ref m_tokens, .ref m_afters, .ref m_afterOf, .int q_counted, .ref m_pile, .ref m_caseMany, .ref m_happen, .ref m_hasIf, .ref m_becomes, .ref m_goneOf, .ref m_heard, .ref m_pairs, .ref m_heaps, .int q_rounds, .int q_heapMany, .ref m_led, .ref m_newAt, .ref m_knowing, .ref m_firsts, .int (nI q_people), .ref m_secrets, .ref m_tried, .ref m_lanes, .ref m_lengths, .ref m_cells])), (m_manys, .inl (E.2.1 1, 18, .inl f_manysz)), (m_reals, .inl (E.2.1 1, 18, .inl f_realsz)), (m_factsOf, .inl (E.2.1 1, 432, .inl f_factsOfz)), (m_possible, .inl (E.2.1 1, 1728, .inl f_possiblez)), (m_pairs, .inl (E.2.1 1, 576, .inl f_pairsz)), (m_pile, .inl (E.2.1 1, 34, .inl f_pilez)), (m_caseMany, .inl (E.2.1 1, 4, .inl f_caseMany)), (m_happen, .inl (E.2.1 1, 4, .inl f_happen)), (m_hasIf, .inl (E.2.1 3, 16, .inl f_hasIf)), (m_becomes, .inl (E.2.1 1, 16, .inl f_becomes)), (m_goneOf, .inl (E.2.1 1, 16, .inl f_goneOf)), (m_heard, .inl (E.2.1 1, 64, .inl f_heard)), (m_actMany, .inl (E.2.1 1, 25, .inl f_actMany)), (m_actOf, .inl (E.2.1 1, 800, .inl f_actOf)), (m_whom, .inl (E.2.1 1, 800, .inl f_whom)), (m_afters, .inl (E.2.1 1, 9, .inl f_afters)), (m_afterOf, .inl (E.2.1 1, 18, .inl f_afterOf))] ∧ (NB 18 24 f_manysz) ∧ (NB 18 23 f_realsz) ∧ (PG f_manysz f_realsz) ∧ (WFP (pgs f_manysz f_realsz f_factsOfz f_possiblez)) ∧ (gob (rEv f_caseMany f_happen f_hasIf f_actMany f_actOf f_whom f_becomes f_goneOf f_heard) (rT f_actMany f_actOf f_whom f_afterOf f_afters am) (some (rT f_actMany f_actOf f_whom f_afterOf f_afters hd)) (dgt row) (n) ((pgs f_manys f_reals f_factsOf f_possible) 0) = true) ∧ (KPA 0 (pgs f_manys f_reals f_factsOf f_possible) (pgs f_manysz f_realsz f_factsOfz f_possiblez))) ∨ (∃ (f_manysz : Nat → Int32) (f_realsz : Nat → Int32) (f_factsOfz : Nat → Int32) (f_possiblez : Nat → Int32) (f_pairsz : Nat → Int32) (f_pilez : Nat → Int32), rz = 0 ∧ uz = [(hm, .inr (12, [.ref m_manys, .ref m_reals, .ref m_factsOf, .ref m_possible, .int (nI q_undos), .int (nI q_models), .ref m_tape, .int (nI q_taped), .int q_fault, .int q_wrong, .int q_wrongAt, .int q_spot, .int q_place, .int q_token, .int q_value, .ref m_ends, .ref m_letters, .ref m_actOf, .ref m_whom, .ref m_actMany, .ref m_tokens, .ref m_afters, .ref m_afterOf, .int q_counted, .ref m_pile, .ref m_caseMany, .ref m_happen, .ref m_hasIf, .ref m_becomes, .ref m_goneOf, .ref m_heard, .ref m_pairs, .ref m_heaps, .int q_rounds, .int q_heapMany, .ref m_led, .ref m_newAt, .ref m_knowing, .ref m_firsts, .int (nI q_people), .ref m_secrets, .ref m_tried, .ref m_lanes, .ref m_lengths, .ref m_cells])), (m_manys, .inl (E.2.1 1, 18, .inl f_manysz)), (m_reals, .inl (E.2.1 1, 18, .inl f_realsz)), (m_factsOf, .inl (E.2.1 1, 432, .inl f_factsOfz)), (m_possible, .inl (E.2.1 1, 1728, .inl f_possiblez)), (m_pairs, .inl (E.2.1 1, 576, .inl f_pairsz)), (m_pile, .inl (E.2.1 1, 34, .inl f_pilez)), (m_caseMany, .inl (E.2.1 1, 4, .inl f_caseMany)), (m_happen, .inl (E.2.1 1, 4, .inl f_happen)), (m_hasIf, .inl (E.2.1 3, 16, .inl f_hasIf)), (m_becomes, .inl (E.2.1 1, 16, .inl f_becomes)), (m_goneOf, .inl (E.2.1 1, 16, .inl f_goneOf)), (m_heard, .inl (E.2.1 1, 64, .inl f_heard)), (m_actMany, .inl (E.2.1 1, 25, .inl f_actMany)), (m_actOf, .inl (E.2.1 1, 800, .inl f_actOf)), (m_whom, .inl (E.2.1 1, 800, .inl f_whom)), (m_afters, .inl (E.2.1 1, 9, .inl f_afters)), (m_afterOf, .inl (E.2.1 1, 18, .inl f_afterOf))] ∧ (NB 18 24 f_manysz) ∧ (NB 18 23 f_realsz) ∧ (PG f_manysz f_realsz) ∧ (WFP (pgs f_manysz f_realsz f_factsOfz f_possiblez)) ∧ (gob (rEv f_caseMany f_happen f_hasIf f_actMany f_actOf f_whom f_becomes f_goneOf f_heard) (rT f_actMany f_actOf f_whom f_afterOf f_afters am) (some (rT f_actMany f_actOf f_whom f_afterOf f_afters hd)) (dgt row) (n) ((pgs f_manys f_reals f_factsOf f_possible) 0) = false) ∧ (KPA 0 (pgs f_manys f_reals f_factsOf f_possible) (pgs f_manysz f_realsz f_factsOfz f_possiblez))))) 0 0 := by
  refine ct_of rfl rfl ?_
  intro X C hT hin hro
  show WW X 8 E 0 [(0, .ref hm), (1, .int (nI row)), (2, .int (nI n)), (3, .int (nI am)), (4, .int (nI hd))] [] [(hm, .inr (12, [.ref m_manys, .ref m_reals, .ref m_factsOf, .ref m_possible, .int (nI q_undos), .int (nI q_models), .ref m_tape, .int (nI q_taped), .int q_fault, .int q_wrong, .int q_wrongAt, .int q_spot, .int q_place, .int q_token, .int q_value, .ref m_ends, .ref m_letters, .ref m_actOf, .ref m_whom, .ref m_actMany, .ref m_tokens, .ref m_afters, .ref m_afterOf, .int q_counted, .ref m_pile, .ref m_caseMany, .ref m_happen, .ref m_hasIf, .ref m_becomes, .ref m_goneOf, .ref m_heard, .ref m_pairs, .ref m_heaps, .int q_rounds, .int q_heapMany, .ref m_led, .ref m_newAt, .ref m_knowing, .ref m_firsts, .int (nI q_people), .ref m_secrets, .ref m_tried, .ref m_lanes, .ref m_lengths, .ref m_cells])), (m_manys, .inl (E.2.1 1, 18, .inl f_manys)), (m_reals, .inl (E.2.1 1, 18, .inl f_reals)), (m_factsOf, .inl (E.2.1 1, 432, .inl f_factsOf)), (m_possible, .inl (E.2.1 1, 1728, .inl f_possible)), (m_pairs, .inl (E.2.1 1, 576, .inl f_pairs)), (m_pile, .inl (E.2.1 1, 34, .inl f_pile)), (m_caseMany, .inl (E.2.1 1, 4, .inl f_caseMany)), (m_happen, .inl (E.2.1 1, 4, .inl f_happen)), (m_hasIf, .inl (E.2.1 3, 16, .inl f_hasIf)), (m_becomes, .inl (E.2.1 1, 16, .inl f_becomes)), (m_goneOf, .inl (E.2.1 1, 16, .inl f_goneOf)), (m_heard, .inl (E.2.1 1, 64, .inl f_heard)), (m_actMany, .inl (E.2.1 1, 25, .inl f_actMany)), (m_actOf, .inl (E.2.1 1, 800, .inl f_actOf)), (m_whom, .inl (E.2.1 1, 800, .inl f_whom)), (m_afters, .inl (E.2.1 1, 9, .inl f_afters)), (m_afterOf, .inl (E.2.1 1, 18, .inl f_afterOf))] 0 0
  have hmn0 := (hb_manys 0 (by omega)).2
  refine ww_iload C dX12_goes_0 4 rfl ?_
  refine ww_bipush (v := (-4)) C dX12_goes_2 rfl ?_
  refine ww_icmp_eq (tgt := 17) C dX12_goes_4 (by decide) (fun c_1 => ?_) (fun c_1 => ?_)
  · have zc_1 : ((hd : Nat) : Int) = (-4) := i_eq (nI_toInt (n := hd) (by omega)) rfl c_1
    omega
  · have zc_1 : ((hd : Nat) : Int) ≠ (-4) := i_ne (nI_toInt (n := hd) (by omega)) rfl c_1
    refine ww_aload_n C dX12_goes_7 0 rfl rfl ?_
    refine ww_iload C dX12_goes_8 4 rfl ?_
    refine ww_iconst (v := 0) C dX12_goes_10 rfl ?_
    refine ww_ci (wr := []) (k' := 0) (n' := 0) C (run_V (As := [.int (nI hd), .int 0]) (rest := []) C (r_isTrue X.2.1 E ro hm hd 0 m_manys m_reals m_factsOf m_possible q_undos q_models m_tape q_taped q_fault q_wrong q_wrongAt q_spot q_place q_token q_value m_ends m_letters m_actOf m_whom m_actMany m_tokens m_afters m_afterOf q_counted m_pile m_caseMany m_happen m_hasIf m_becomes m_goneOf m_heard m_pairs m_heaps q_rounds q_heapMany m_led m_newAt m_knowing m_firsts q_people m_secrets m_tried m_lanes m_lengths m_cells f_manys f_reals f_factsOf f_possible f_pairs f_pile f_caseMany f_happen f_hasIf f_becomes f_goneOf f_heard f_actMany f_actOf f_whom f_afters f_afterOf hb_manys hb_reals hpg hwf hb_caseMany hb_happen hb_actMany hhp hsv hb_afters hb_afterOf (by omega) (by omega) hWh hWI) mi_X12_isTrue wl_X12_276 rfl 0 12 rfl rfl rfl rfl rfl dX12_goes_11) (roK hro) [0, 1, 2, 3, 4, 5, 6, 7, 8, 9, 10, 11, 12, 13, 14, 15, 16, 17] [] rfl rfl rfl rfl (fun r_2 uz hw => ?_)
    rcases hw with hw | hw
    · refine ex6 hw ?_
      clear hw
      intro f_manysz_3 f_realsz_4 f_factsOfz_5 f_possiblez_6 f_pairsz_7 f_pilez_8 hw
      refine an8 hw ?_
      clear hw
      intro he_17 he_18 h_9 h_10 h_11 h_12 h_13 h_14 hw
      refine an1 hw ?_
      clear hw
      intro h_15 hw
      have h_16 := hw
      clear hw
      have he_17 := he_17.symm
      subst he_17
      subst he_18
      refine ww_eq (ws' := [(hm, .inr (12, [.ref m_manys, .ref m_reals, .ref m_factsOf, .ref m_possible, .int (nI q_undos), .int (nI q_models), .ref m_tape, .int (nI q_taped), .int q_fault, .int q_wrong, .int q_wrongAt, .int q_spot, .int q_place, .int q_token, .int q_value, .ref m_ends, .ref m_letters, .ref m_actOf, .ref m_whom, .ref m_actMany, .ref m_tokens, .ref m_afters, .ref m_afterOf, .int q_counted, .ref m_pile, .ref m_caseMany, .ref m_happen, .ref m_hasIf, .ref m_becomes, .ref m_goneOf, .ref m_heard, .ref m_pairs, .ref m_heaps, .int q_rounds, .int q_heapMany, .ref m_led, .ref m_newAt, .ref m_knowing, .ref m_firsts, .int (nI q_people), .ref m_secrets, .ref m_tried, .ref m_lanes, .ref m_lengths, .ref m_cells])), (m_manys, .inl (E.2.1 1, 18, .inl f_manysz_3)), (m_reals, .inl (E.2.1 1, 18, .inl f_realsz_4)), (m_factsOf, .inl (E.2.1 1, 432, .inl f_factsOfz_5)), (m_possible, .inl (E.2.1 1, 1728, .inl f_possiblez_6)), (m_pairs, .inl (E.2.1 1, 576, .inl f_pairsz_7)), (m_pile, .inl (E.2.1 1, 34, .inl f_pilez_8)), (m_caseMany, .inl (E.2.1 1, 4, .inl f_caseMany)), (m_happen, .inl (E.2.1 1, 4, .inl f_happen)), (m_hasIf, .inl (E.2.1 3, 16, .inl f_hasIf)), (m_becomes, .inl (E.2.1 1, 16, .inl f_becomes)), (m_goneOf, .inl (E.2.1 1, 16, .inl f_goneOf)), (m_heard, .inl (E.2.1 1, 64, .inl f_heard)), (m_actMany, .inl (E.2.1 1, 25, .inl f_actMany)), (m_actOf, .inl (E.2.1 1, 800, .inl f_actOf)), (m_whom, .inl (E.2.1 1, 800, .inl f_whom)), (m_afters, .inl (E.2.1 1, 9, .inl f_afters)), (m_afterOf, .inl (E.2.1 1, 18, .inl f_afterOf))]) ?_ rfl rfl rfl
      refine ww_if_eq_f (tgt := 21) C dX12_goes_14 (by decide) (by decide) ?_
      refine ww_iconst (v := 1) C dX12_goes_17 rfl ?_
      refine ww_goto (tgt := 22) C dX12_goes_18 (by decide) ?_
      refine ww_istore (lv' := [(5, .int 1), (0, .ref hm), (1, .int (nI row)), (2, .int (nI n)), (3, .int (nI am)), (4, .int (nI hd))]) C dX12_goes_22 rfl rfl ?_
      refine ww_iconst (v := 0) C dX12_goes_24 rfl ?_
      refine ww_istore (lv' := [(6, .int 0), (5, .int 1), (0, .ref hm), (1, .int (nI row)), (2, .int (nI n)), (3, .int (nI am)), (4, .int (nI hd))]) C dX12_goes_25 rfl rfl ?_
      have loop_27 : ∀ (fu : Nat) (k1 : Nat) (ca : Nat) (gt_manys : Nat → Int32) (gt_reals : Nat → Int32) (gt_factsOf : Nat → Int32) (gt_possible : Nat → Int32) (gt_pairs : Nat → Int32) (gt_pile : Nat → Int32), (k1 ≤ n) → (ca ≤ 1) → (ca = 1 → hidO ((pgs gt_manys gt_reals gt_factsOf gt_possible) k1) (rEv f_caseMany f_happen f_hasIf f_actMany f_actOf f_whom f_becomes f_goneOf f_heard) (some (rT f_actMany f_actOf f_whom f_afterOf f_afters hd)) = true ∧ gob (rEv f_caseMany f_happen f_hasIf f_actMany f_actOf f_whom f_becomes f_goneOf f_heard) (rT f_actMany f_actOf f_whom f_afterOf f_afters am) (some (rT f_actMany f_actOf f_whom f_afterOf f_afters hd)) (dgt row) (n) ((pgs f_manys f_reals f_factsOf f_possible) 0) = gob (rEv f_caseMany f_happen f_hasIf f_actMany f_actOf f_whom f_becomes f_goneOf f_heard) (rT f_actMany f_actOf f_whom f_afterOf f_afters am) (some (rT f_actMany f_actOf f_whom f_afterOf f_afters hd)) (dgt row) (n - k1) ((pgs gt_manys gt_reals gt_factsOf gt_possible) k1) ∧ cN gt_reals k1 < cN gt_manys k1) → (ca = 0 → gob (rEv f_caseMany f_happen f_hasIf f_actMany f_actOf f_whom f_becomes f_goneOf f_heard) (rT f_actMany f_actOf f_whom f_afterOf f_afters am) (some (rT f_actMany f_actOf f_whom f_afterOf f_afters hd)) (dgt row) (n) ((pgs f_manys f_reals f_factsOf f_possible) 0) = false) → (KPA 0 (pgs f_manys f_reals f_factsOf f_possible) (pgs gt_manys gt_reals gt_factsOf gt_possible)) → (NB 18 24 gt_manys) → (NB 18 23 gt_reals) → (PG gt_manys gt_reals) → (WFP (pgs gt_manys gt_reals gt_factsOf gt_possible)) → n - k1 < fu → WW X 8 E 27 [(6, .int (nI k1)), (5, .int (nI ca)), (0, .ref hm), (1, .int (nI row)), (2, .int (nI n)), (3, .int (nI am)), (4, .int (nI hd))] [] [(hm, .inr (12, [.ref m_manys, .ref m_reals, .ref m_factsOf, .ref m_possible, .int (nI q_undos), .int (nI q_models), .ref m_tape, .int (nI q_taped), .int q_fault, .int q_wrong, .int q_wrongAt, .int q_spot, .int q_place, .int q_token, .int q_value, .ref m_ends, .ref m_letters, .ref m_actOf, .ref m_whom, .ref m_actMany, .ref m_tokens, .ref m_afters, .ref m_afterOf, .int q_counted, .ref m_pile, .ref m_caseMany, .ref m_happen, .ref m_hasIf, .ref m_becomes, .ref m_goneOf, .ref m_heard, .ref m_pairs, .ref m_heaps, .int q_rounds, .int q_heapMany, .ref m_led, .ref m_newAt, .ref m_knowing, .ref m_firsts, .int (nI q_people), .ref m_secrets, .ref m_tried, .ref m_lanes, .ref m_lengths, .ref m_cells])), (m_manys, .inl (E.2.1 1, 18, .inl gt_manys)), (m_reals, .inl (E.2.1 1, 18, .inl gt_reals)), (m_factsOf, .inl (E.2.1 1, 432, .inl gt_factsOf)), (m_possible, .inl (E.2.1 1, 1728, .inl gt_possible)), (m_pairs, .inl (E.2.1 1, 576, .inl gt_pairs)), (m_pile, .inl (E.2.1 1, 34, .inl gt_pile)), (m_caseMany, .inl (E.2.1 1, 4, .inl f_caseMany)), (m_happen, .inl (E.2.1 1, 4, .inl f_happen)), (m_hasIf, .inl (E.2.1 3, 16, .inl f_hasIf)), (m_becomes, .inl (E.2.1 1, 16, .inl f_becomes)), (m_goneOf, .inl (E.2.1 1, 16, .inl f_goneOf)), (m_heard, .inl (E.2.1 1, 64, .inl f_heard)), (m_actMany, .inl (E.2.1 1, 25, .inl f_actMany)), (m_actOf, .inl (E.2.1 1, 800, .inl f_actOf)), (m_whom, .inl (E.2.1 1, 800, .inl f_whom)), (m_afters, .inl (E.2.1 1, 9, .inl f_afters)), (m_afterOf, .inl (E.2.1 1, 18, .inl f_afterOf))] 0 0 := by
        intro fu
        induction fu with
        | zero => intro k1 ca gt_manys gt_reals gt_factsOf gt_possible gt_pairs gt_pile hk1 hca hca1 hca0 hoth hnb_m_manys_27 hnb_m_reals_27 hpg_27 hwf_27 hmeas; exact absurd hmeas (Nat.not_lt_zero _)
        | succ fu ih_27 =>
          intro k1 ca gt_manys gt_reals gt_factsOf gt_possible gt_pairs gt_pile hk1 hca hca1 hca0 hoth hnb_m_manys_27 hnb_m_reals_27 hpg_27 hwf_27 hmeas
          refine ww_iload C dX12_goes_27 0 rfl ?_
          refine ww_iload_n C dX12_goes_29 4 rfl rfl ?_
          refine ww_icmp_ge (tgt := 129) C dX12_goes_30 (by decide) (fun c_35 => ?_) (fun c_35 => ?_)
          · have zc_35 : ((k1 : Nat) : Int) ≥ ((n : Nat) : Int) := i_le (nI_toInt (n := n) (by omega)) (nI_toInt (n := k1) (by omega)) c_35
            refine ww_iload C dX12_goes_129 1 rfl ?_
            refine ww_if_eq (tgt := 147) C dX12_goes_131 (by decide) (fun c_36 => ?_) (fun c_36 => ?_)
            · have zc_36 : ((ca : Nat) : Int) = 0 := i_eq (nI_toInt (n := ca) (by omega)) rfl c_36
              refine ww_iconst (v := 0) C dX12_goes_147 rfl ?_
              exact ww_zret (u := [(hm, .inr (12, [.ref m_manys, .ref m_reals, .ref m_factsOf, .ref m_possible, .int (nI q_undos), .int (nI q_models), .ref m_tape, .int (nI q_taped), .int q_fault, .int q_wrong, .int q_wrongAt, .int q_spot, .int q_place, .int q_token, .int q_value, .ref m_ends, .ref m_letters, .ref m_actOf, .ref m_whom, .ref m_actMany, .ref m_tokens, .ref m_afters, .ref m_afterOf, .int q_counted, .ref m_pile, .ref m_caseMany, .ref m_happen, .ref m_hasIf, .ref m_becomes, .ref m_goneOf, .ref m_heard, .ref m_pairs, .ref m_heaps, .int q_rounds, .int q_heapMany, .ref m_led, .ref m_newAt, .ref m_knowing, .ref m_firsts, .int (nI q_people), .ref m_secrets, .ref m_tried, .ref m_lanes, .ref m_lengths, .ref m_cells])), (m_manys, .inl (E.2.1 1, 18, .inl gt_manys)), (m_reals, .inl (E.2.1 1, 18, .inl gt_reals)), (m_factsOf, .inl (E.2.1 1, 432, .inl gt_factsOf)), (m_possible, .inl (E.2.1 1, 1728, .inl gt_possible)), (m_pairs, .inl (E.2.1 1, 576, .inl gt_pairs)), (m_pile, .inl (E.2.1 1, 34, .inl gt_pile)), (m_caseMany, .inl (E.2.1 1, 4, .inl f_caseMany)), (m_happen, .inl (E.2.1 1, 4, .inl f_happen)), (m_hasIf, .inl (E.2.1 3, 16, .inl f_hasIf)), (m_becomes, .inl (E.2.1 1, 16, .inl f_becomes)), (m_goneOf, .inl (E.2.1 1, 16, .inl f_goneOf)), (m_heard, .inl (E.2.1 1, 64, .inl f_heard)), (m_actMany, .inl (E.2.1 1, 25, .inl f_actMany)), (m_actOf, .inl (E.2.1 1, 800, .inl f_actOf)), (m_whom, .inl (E.2.1 1, 800, .inl f_whom)), (m_afters, .inl (E.2.1 1, 9, .inl f_afters)), (m_afterOf, .inl (E.2.1 1, 18, .inl f_afterOf))]) C hT [0, 1, 2, 3, 4, 5, 6, 7, 8, 9, 10, 11, 12, 13, 14, 15, 16, 17] rfl rfl rfl rfl rfl dX12_goes_148 (Or.inr ⟨gt_manys, gt_reals, gt_factsOf, gt_possible, gt_pairs, gt_pile, rfl, rfl, hnb_m_manys_27, hnb_m_reals_27, hpg_27, hwf_27, (hca0 (by omega)), hoth⟩)
            · have zc_36 : ((ca : Nat) : Int) ≠ 0 := i_ne (nI_toInt (n := ca) (by omega)) rfl c_36
              refine ww_aload_n C dX12_goes_134 2 rfl rfl ?_
              refine ww_iload_n C dX12_goes_135 5 rfl rfl ?_
              refine ww_iload_n C dX12_goes_136 4 rfl rfl ?_
              refine ww_ci (wr := []) (k' := 0) (n' := 0) C (run_V (As := [.int (nI am), .int (nI n)]) (rest := []) C (r_isTrue X.2.1 E ro hm am n m_manys m_reals m_factsOf m_possible q_undos q_models m_tape q_taped q_fault q_wrong q_wrongAt q_spot q_place q_token q_value m_ends m_letters m_actOf m_whom m_actMany m_tokens m_afters m_afterOf q_counted m_pile m_caseMany m_happen m_hasIf m_becomes m_goneOf m_heard m_pairs m_heaps q_rounds q_heapMany m_led m_newAt m_knowing m_firsts q_people m_secrets m_tried m_lanes m_lengths m_cells gt_manys gt_reals gt_factsOf gt_possible gt_pairs gt_pile f_caseMany f_happen f_hasIf f_becomes f_goneOf f_heard f_actMany f_actOf f_whom f_afters f_afterOf hnb_m_manys_27 hnb_m_reals_27 hpg_27 hwf_27 hb_caseMany hb_happen hb_actMany hhp hsv hb_afters hb_afterOf (by omega) (by omega) hWa hWI) mi_X12_isTrue wl_X12_276 rfl 0 12 rfl rfl rfl rfl rfl dX12_goes_137) (roK hro) [0, 1, 2, 3, 4, 5, 6, 7, 8, 9, 10, 11, 12, 13, 14, 15, 16, 17] [] rfl rfl rfl rfl (fun r_37 uz hw => ?_)
              rcases hw with hw | hw
              · refine ex6 hw ?_
                clear hw
                intro f_manysz_38 f_realsz_39 f_factsOfz_40 f_possiblez_41 f_pairsz_42 f_pilez_43 hw
                refine an8 hw ?_
                clear hw
                intro he_52 he_53 h_44 h_45 h_46 h_47 h_48 h_49 hw
                refine an1 hw ?_
                clear hw
                intro h_50 hw
                have h_51 := hw
                clear hw
                have he_52 := he_52.symm
                subst he_52
                subst he_53
                refine ww_eq (ws' := [(hm, .inr (12, [.ref m_manys, .ref m_reals, .ref m_factsOf, .ref m_possible, .int (nI q_undos), .int (nI q_models), .ref m_tape, .int (nI q_taped), .int q_fault, .int q_wrong, .int q_wrongAt, .int q_spot, .int q_place, .int q_token, .int q_value, .ref m_ends, .ref m_letters, .ref m_actOf, .ref m_whom, .ref m_actMany, .ref m_tokens, .ref m_afters, .ref m_afterOf, .int q_counted, .ref m_pile, .ref m_caseMany, .ref m_happen, .ref m_hasIf, .ref m_becomes, .ref m_goneOf, .ref m_heard, .ref m_pairs, .ref m_heaps, .int q_rounds, .int q_heapMany, .ref m_led, .ref m_newAt, .ref m_knowing, .ref m_firsts, .int (nI q_people), .ref m_secrets, .ref m_tried, .ref m_lanes, .ref m_lengths, .ref m_cells])), (m_manys, .inl (E.2.1 1, 18, .inl f_manysz_38)), (m_reals, .inl (E.2.1 1, 18, .inl f_realsz_39)), (m_factsOf, .inl (E.2.1 1, 432, .inl f_factsOfz_40)), (m_possible, .inl (E.2.1 1, 1728, .inl f_possiblez_41)), (m_pairs, .inl (E.2.1 1, 576, .inl f_pairsz_42)), (m_pile, .inl (E.2.1 1, 34, .inl f_pilez_43)), (m_caseMany, .inl (E.2.1 1, 4, .inl f_caseMany)), (m_happen, .inl (E.2.1 1, 4, .inl f_happen)), (m_hasIf, .inl (E.2.1 3, 16, .inl f_hasIf)), (m_becomes, .inl (E.2.1 1, 16, .inl f_becomes)), (m_goneOf, .inl (E.2.1 1, 16, .inl f_goneOf)), (m_heard, .inl (E.2.1 1, 64, .inl f_heard)), (m_actMany, .inl (E.2.1 1, 25, .inl f_actMany)), (m_actOf, .inl (E.2.1 1, 800, .inl f_actOf)), (m_whom, .inl (E.2.1 1, 800, .inl f_whom)), (m_afters, .inl (E.2.1 1, 9, .inl f_afters)), (m_afterOf, .inl (E.2.1 1, 18, .inl f_afterOf))]) ?_ rfl rfl rfl
                refine ww_if_eq_f (tgt := 147) C dX12_goes_140 (by decide) (by decide) ?_
                refine ww_iconst (v := 1) C dX12_goes_143 rfl ?_
                refine ww_goto (tgt := 148) C dX12_goes_144 (by decide) ?_
                exact ww_zret (u := [(hm, .inr (12, [.ref m_manys, .ref m_reals, .ref m_factsOf, .ref m_possible, .int (nI q_undos), .int (nI q_models), .ref m_tape, .int (nI q_taped), .int q_fault, .int q_wrong, .int q_wrongAt, .int q_spot, .int q_place, .int q_token, .int q_value, .ref m_ends, .ref m_letters, .ref m_actOf, .ref m_whom, .ref m_actMany, .ref m_tokens, .ref m_afters, .ref m_afterOf, .int q_counted, .ref m_pile, .ref m_caseMany, .ref m_happen, .ref m_hasIf, .ref m_becomes, .ref m_goneOf, .ref m_heard, .ref m_pairs, .ref m_heaps, .int q_rounds, .int q_heapMany, .ref m_led, .ref m_newAt, .ref m_knowing, .ref m_firsts, .int (nI q_people), .ref m_secrets, .ref m_tried, .ref m_lanes, .ref m_lengths, .ref m_cells])), (m_manys, .inl (E.2.1 1, 18, .inl f_manysz_38)), (m_reals, .inl (E.2.1 1, 18, .inl f_realsz_39)), (m_factsOf, .inl (E.2.1 1, 432, .inl f_factsOfz_40)), (m_possible, .inl (E.2.1 1, 1728, .inl f_possiblez_41)), (m_pairs, .inl (E.2.1 1, 576, .inl f_pairsz_42)), (m_pile, .inl (E.2.1 1, 34, .inl f_pilez_43)), (m_caseMany, .inl (E.2.1 1, 4, .inl f_caseMany)), (m_happen, .inl (E.2.1 1, 4, .inl f_happen)), (m_hasIf, .inl (E.2.1 3, 16, .inl f_hasIf)), (m_becomes, .inl (E.2.1 1, 16, .inl f_becomes)), (m_goneOf, .inl (E.2.1 1, 16, .inl f_goneOf)), (m_heard, .inl (E.2.1 1, 64, .inl f_heard)), (m_actMany, .inl (E.2.1 1, 25, .inl f_actMany)), (m_actOf, .inl (E.2.1 1, 800, .inl f_actOf)), (m_whom, .inl (E.2.1 1, 800, .inl f_whom)), (m_afters, .inl (E.2.1 1, 9, .inl f_afters)), (m_afterOf, .inl (E.2.1 1, 18, .inl f_afterOf))]) C hT [0, 1, 2, 3, 4, 5, 6, 7, 8, 9, 10, 11, 12, 13, 14, 15, 16, 17] rfl rfl rfl rfl rfl dX12_goes_148 (Or.inl ⟨f_manysz_38, f_realsz_39, f_factsOfz_40, f_possiblez_41, f_pairsz_42, f_pilez_43, rfl, rfl, h_44, h_45, h_46, h_47, ((hca1 (by omega)).2.1.trans (by rw [show n - k1 = 0 by omega]; exact gob_0 (hca1 (by omega)).1 (by have h9 : k1 = n := (by omega); rw [h9]; exact h_50))), (KPA.tr hoth h_51 (Nat.zero_le _))⟩)
              · refine ex6 hw ?_
                clear hw
                intro f_manysz_54 f_realsz_55 f_factsOfz_56 f_possiblez_57 f_pairsz_58 f_pilez_59 hw
                refine an8 hw ?_
                clear hw
                intro he_68 he_69 h_60 h_61 h_62 h_63 h_64 h_65 hw
                refine an1 hw ?_
                clear hw
                intro h_66 hw
                have h_67 := hw
                clear hw
                have he_68 := he_68.symm
                subst he_68
                subst he_69
                refine ww_eq (ws' := [(hm, .inr (12, [.ref m_manys, .ref m_reals, .ref m_factsOf, .ref m_possible, .int (nI q_undos), .int (nI q_models), .ref m_tape, .int (nI q_taped), .int q_fault, .int q_wrong, .int q_wrongAt, .int q_spot, .int q_place, .int q_token, .int q_value, .ref m_ends, .ref m_letters, .ref m_actOf, .ref m_whom, .ref m_actMany, .ref m_tokens, .ref m_afters, .ref m_afterOf, .int q_counted, .ref m_pile, .ref m_caseMany, .ref m_happen, .ref m_hasIf, .ref m_becomes, .ref m_goneOf, .ref m_heard, .ref m_pairs, .ref m_heaps, .int q_rounds, .int q_heapMany, .ref m_led, .ref m_newAt, .ref m_knowing, .ref m_firsts, .int (nI q_people), .ref m_secrets, .ref m_tried, .ref m_lanes, .ref m_lengths, .ref m_cells])), (m_manys, .inl (E.2.1 1, 18, .inl f_manysz_54)), (m_reals, .inl (E.2.1 1, 18, .inl f_realsz_55)), (m_factsOf, .inl (E.2.1 1, 432, .inl f_factsOfz_56)), (m_possible, .inl (E.2.1 1, 1728, .inl f_possiblez_57)), (m_pairs, .inl (E.2.1 1, 576, .inl f_pairsz_58)), (m_pile, .inl (E.2.1 1, 34, .inl f_pilez_59)), (m_caseMany, .inl (E.2.1 1, 4, .inl f_caseMany)), (m_happen, .inl (E.2.1 1, 4, .inl f_happen)), (m_hasIf, .inl (E.2.1 3, 16, .inl f_hasIf)), (m_becomes, .inl (E.2.1 1, 16, .inl f_becomes)), (m_goneOf, .inl (E.2.1 1, 16, .inl f_goneOf)), (m_heard, .inl (E.2.1 1, 64, .inl f_heard)), (m_actMany, .inl (E.2.1 1, 25, .inl f_actMany)), (m_actOf, .inl (E.2.1 1, 800, .inl f_actOf)), (m_whom, .inl (E.2.1 1, 800, .inl f_whom)), (m_afters, .inl (E.2.1 1, 9, .inl f_afters)), (m_afterOf, .inl (E.2.1 1, 18, .inl f_afterOf))]) ?_ rfl rfl rfl
                refine ww_if_eq_t (tgt := 147) C dX12_goes_140 (by decide) (rfl) ?_
                refine ww_iconst (v := 0) C dX12_goes_147 rfl ?_
                exact ww_zret (u := [(hm, .inr (12, [.ref m_manys, .ref m_reals, .ref m_factsOf, .ref m_possible, .int (nI q_undos), .int (nI q_models), .ref m_tape, .int (nI q_taped), .int q_fault, .int q_wrong, .int q_wrongAt, .int q_spot, .int q_place, .int q_token, .int q_value, .ref m_ends, .ref m_letters, .ref m_actOf, .ref m_whom, .ref m_actMany, .ref m_tokens, .ref m_afters, .ref m_afterOf, .int q_counted, .ref m_pile, .ref m_caseMany, .ref m_happen, .ref m_hasIf, .ref m_becomes, .ref m_goneOf, .ref m_heard, .ref m_pairs, .ref m_heaps, .int q_rounds, .int q_heapMany, .ref m_led, .ref m_newAt, .ref m_knowing, .ref m_firsts, .int (nI q_people), .ref m_secrets, .ref m_tried, .ref m_lanes, .ref m_lengths, .ref m_cells])), (m_manys, .inl (E.2.1 1, 18, .inl f_manysz_54)), (m_reals, .inl (E.2.1 1, 18, .inl f_realsz_55)), (m_factsOf, .inl (E.2.1 1, 432, .inl f_factsOfz_56)), (m_possible, .inl (E.2.1 1, 1728, .inl f_possiblez_57)), (m_pairs, .inl (E.2.1 1, 576, .inl f_pairsz_58)), (m_pile, .inl (E.2.1 1, 34, .inl f_pilez_59)), (m_caseMany, .inl (E.2.1 1, 4, .inl f_caseMany)), (m_happen, .inl (E.2.1 1, 4, .inl f_happen)), (m_hasIf, .inl (E.2.1 3, 16, .inl f_hasIf)), (m_becomes, .inl (E.2.1 1, 16, .inl f_becomes)), (m_goneOf, .inl (E.2.1 1, 16, .inl f_goneOf)), (m_heard, .inl (E.2.1 1, 64, .inl f_heard)), (m_actMany, .inl (E.2.1 1, 25, .inl f_actMany)), (m_actOf, .inl (E.2.1 1, 800, .inl f_actOf)), (m_whom, .inl (E.2.1 1, 800, .inl f_whom)), (m_afters, .inl (E.2.1 1, 9, .inl f_afters)), (m_afterOf, .inl (E.2.1 1, 18, .inl f_afterOf))]) C hT [0, 1, 2, 3, 4, 5, 6, 7, 8, 9, 10, 11, 12, 13, 14, 15, 16, 17] rfl rfl rfl rfl rfl dX12_goes_148 (Or.inr ⟨f_manysz_54, f_realsz_55, f_factsOfz_56, f_possiblez_57, f_pairsz_58, f_pilez_59, rfl, rfl, h_60, h_61, h_62, h_63, ((hca1 (by omega)).2.1.trans (by rw [show n - k1 = 0 by omega]; exact gob_0 (hca1 (by omega)).1 (by have h9 : k1 = n := (by omega); rw [h9]; exact h_66))), (KPA.tr hoth h_67 (Nat.zero_le _))⟩)
          · have zc_35 : ((k1 : Nat) : Int) < ((n : Nat) : Int) := i_nle (nI_toInt (n := n) (by omega)) (nI_toInt (n := k1) (by omega)) c_35
            refine ww_iload C dX12_goes_33 1 rfl ?_
            refine ww_if_eq (tgt := 129) C dX12_goes_35 (by decide) (fun c_70 => ?_) (fun c_70 => ?_)
            · have zc_70 : ((ca : Nat) : Int) = 0 := i_eq (nI_toInt (n := ca) (by omega)) rfl c_70
              refine ww_iload C dX12_goes_129 1 rfl ?_
              refine ww_if_eq (tgt := 147) C dX12_goes_131 (by decide) (fun c_71 => ?_) (fun c_71 => ?_)
              · have zc_71 : ((ca : Nat) : Int) = 0 := i_eq (nI_toInt (n := ca) (by omega)) rfl c_71
                refine ww_iconst (v := 0) C dX12_goes_147 rfl ?_
                exact ww_zret (u := [(hm, .inr (12, [.ref m_manys, .ref m_reals, .ref m_factsOf, .ref m_possible, .int (nI q_undos), .int (nI q_models), .ref m_tape, .int (nI q_taped), .int q_fault, .int q_wrong, .int q_wrongAt, .int q_spot, .int q_place, .int q_token, .int q_value, .ref m_ends, .ref m_letters, .ref m_actOf, .ref m_whom, .ref m_actMany, .ref m_tokens, .ref m_afters, .ref m_afterOf, .int q_counted, .ref m_pile, .ref m_caseMany, .ref m_happen, .ref m_hasIf, .ref m_becomes, .ref m_goneOf, .ref m_heard, .ref m_pairs, .ref m_heaps, .int q_rounds, .int q_heapMany, .ref m_led, .ref m_newAt, .ref m_knowing, .ref m_firsts, .int (nI q_people), .ref m_secrets, .ref m_tried, .ref m_lanes, .ref m_lengths, .ref m_cells])), (m_manys, .inl (E.2.1 1, 18, .inl gt_manys)), (m_reals, .inl (E.2.1 1, 18, .inl gt_reals)), (m_factsOf, .inl (E.2.1 1, 432, .inl gt_factsOf)), (m_possible, .inl (E.2.1 1, 1728, .inl gt_possible)), (m_pairs, .inl (E.2.1 1, 576, .inl gt_pairs)), (m_pile, .inl (E.2.1 1, 34, .inl gt_pile)), (m_caseMany, .inl (E.2.1 1, 4, .inl f_caseMany)), (m_happen, .inl (E.2.1 1, 4, .inl f_happen)), (m_hasIf, .inl (E.2.1 3, 16, .inl f_hasIf)), (m_becomes, .inl (E.2.1 1, 16, .inl f_becomes)), (m_goneOf, .inl (E.2.1 1, 16, .inl f_goneOf)), (m_heard, .inl (E.2.1 1, 64, .inl f_heard)), (m_actMany, .inl (E.2.1 1, 25, .inl f_actMany)), (m_actOf, .inl (E.2.1 1, 800, .inl f_actOf)), (m_whom, .inl (E.2.1 1, 800, .inl f_whom)), (m_afters, .inl (E.2.1 1, 9, .inl f_afters)), (m_afterOf, .inl (E.2.1 1, 18, .inl f_afterOf))]) C hT [0, 1, 2, 3, 4, 5, 6, 7, 8, 9, 10, 11, 12, 13, 14, 15, 16, 17] rfl rfl rfl rfl rfl dX12_goes_148 (Or.inr ⟨gt_manys, gt_reals, gt_factsOf, gt_possible, gt_pairs, gt_pile, rfl, rfl, hnb_m_manys_27, hnb_m_reals_27, hpg_27, hwf_27, (hca0 (by omega)), hoth⟩)
              · have zc_71 : ((ca : Nat) : Int) ≠ 0 := i_ne (nI_toInt (n := ca) (by omega)) rfl c_71
                omega
            · have zc_70 : ((ca : Nat) : Int) ≠ 0 := i_ne (nI_toInt (n := ca) (by omega)) rfl c_70
              refine ww_iload_n C dX12_goes_38 3 rfl rfl ?_
              refine ww_iconst (v := 2) C dX12_goes_39 rfl ?_
              refine ww_iload_n C dX12_goes_40 4 rfl rfl ?_
              refine ww_iconst (v := 1) C dX12_goes_41 rfl ?_
              refine ww_isub (v := (nI (n - 1))) C dX12_goes_42 (pk_sub (a := n) (b := 1) (by omega)) ?_
              refine ww_iload C dX12_goes_43 0 rfl ?_
              refine ww_isub (v := (nI ((n - 1) - k1))) C dX12_goes_45 (pk_sub (a := (n - 1)) (b := k1) (by omega)) ?_
              refine ww_imul (v := (nI (2 * ((n - 1) - k1)))) C dX12_goes_46 (pk_mul 2 ((n - 1) - k1)) ?_
              obtain ⟨x_72, ex_72⟩ : ∃ z : Int32, (nI row) >>> ((nI (2 * ((n - 1) - k1))) &&& 31) = z := ⟨_, rfl⟩
              refine ww_ishr (v := x_72) C dX12_goes_47 ex_72 ?_
              refine ww_iconst (v := 3) C dX12_goes_48 rfl ?_
              obtain ⟨j_73, hj_73, ej_73⟩ := pk_andE x_72 (m := 3) 2 rfl
              refine ww_iand (v := (nI j_73)) C dX12_goes_49 ej_73 ?_
              refine ww_istore (lv' := [(7, .int (nI j_73)), (6, .int (nI k1)), (5, .int (nI ca)), (0, .ref hm), (1, .int (nI row)), (2, .int (nI n)), (3, .int (nI am)), (4, .int (nI hd))]) C dX12_goes_50 rfl rfl ?_
              have hdg_ : j_73 = dgt row (n - 1 - k1) := dg_of (by omega) hrow ex_72 ej_73 (by omega)
              have hrl1 := (hca1 (by omega)).2.2
              have hhp_ := hhp j_73 (by omega)
              have hh4_ := (hb_happen j_73 (by omega)).2
              have hc4_ := (hb_caseMany j_73 (by omega)).2
              refine ww_aload_n C dX12_goes_52 3 rfl rfl ?_
              refine ww_get C fg_X12_52 0 rfl rfl dX12_goes_53 ?_
              refine ww_iload C dX12_goes_56 0 rfl ?_
              have hbx_74 := (hb_caseMany j_73 (by omega)).2
              refine ww_iald (v := (nI (cN f_caseMany j_73))) C 7 rfl (vp_in_nI (by omega) (by omega)) (ldn (by omega) (hb_caseMany j_73 (by omega)).1) dX12_goes_58 ?_
              refine ww_if_le (tgt := 88) C dX12_goes_59 (by decide) (fun c_75 => ?_) (fun c_75 => ?_)
              · have zc_75 : ((cN f_caseMany j_73 : Nat) : Int) ≤ 0 := i_le (nI_toInt (n := cN f_caseMany j_73) (by omega)) rfl c_75
                refine ww_iconst (v := 0) C dX12_goes_88 rfl ?_
                have hcan_ : canL ((pgs gt_manys gt_reals gt_factsOf gt_possible) k1) ((rEv f_caseMany f_happen f_hasIf f_actMany f_actOf f_whom f_becomes f_goneOf f_heard) j_73) = false := canL_z (show cN f_caseMany j_73 = 0 by omega)
                refine ww_istore (lv' := [(5, .int 0), (7, .int (nI j_73)), (6, .int (nI k1)), (0, .ref hm), (1, .int (nI row)), (2, .int (nI n)), (3, .int (nI am)), (4, .int (nI hd))]) C dX12_goes_89 rfl rfl ?_
                refine ww_iload C dX12_goes_91 0 rfl ?_
                refine ww_if_eq_t (tgt := 120) C dX12_goes_93 (by decide) (rfl) ?_
                refine ww_iconst (v := 0) C dX12_goes_120 rfl ?_
                refine ww_istore (lv' := [(5, .int 0), (7, .int (nI j_73)), (6, .int (nI k1)), (0, .ref hm), (1, .int (nI row)), (2, .int (nI n)), (3, .int (nI am)), (4, .int (nI hd))]) C dX12_goes_121 rfl rfl ?_
                refine ww_iinc (j := 2) (v := (nI (k1 + 1))) (lv' := [(6, .int (nI (k1 + 1))), (5, .int 0), (7, .int (nI j_73)), (0, .ref hm), (1, .int (nI row)), (2, .int (nI n)), (3, .int (nI am)), (4, .int (nI hd))]) C dX12_goes_123 rfl (nI_add k1 1) rfl rfl ?_
                refine ww_goto (tgt := 27) C dX12_goes_126 (by decide) ?_
                exact ww_lv [0, 1, 3, 4, 5, 6, 7] rfl (ww_sub [0, 1, 2, 3, 4, 5, 6, 7, 8, 9, 10, 11, 12, 13, 14, 15, 16, 17] rfl rfl (ih_27 (k1 + 1) 0 gt_manys gt_reals gt_factsOf gt_possible gt_pairs gt_pile (by omega) (by omega) (fun h9 => absurd h9 (by decide)) (fun _ => (hca1 (by omega)).2.1.trans (by rw [show n - k1 = (n - 1 - k1) + 1 by omega]; exact (gob_c hdg_ hcan_))) hoth hnb_m_manys_27 hnb_m_reals_27 hpg_27 hwf_27 (by omega)))
              · have zc_75 : ((cN f_caseMany j_73 : Nat) : Int) > 0 := i_nle (nI_toInt (n := cN f_caseMany j_73) (by omega)) rfl c_75
                refine ww_aload_n C dX12_goes_62 3 rfl rfl ?_
                refine ww_iload C dX12_goes_63 0 rfl ?_
                refine ww_iload C dX12_goes_65 1 rfl ?_
                refine ww_ci (wr := [(m_pairs, .inl (E.2.1 1, 576, .inl gt_pairs)), (m_afters, .inl (E.2.1 1, 9, .inl f_afters)), (m_afterOf, .inl (E.2.1 1, 18, .inl f_afterOf))]) (k' := 0) (n' := 0) C (run_V (As := [.int (nI j_73), .int (nI k1)]) (rest := []) C (r_canHappen X.2.1 E ro hm j_73 k1 m_manys m_reals m_factsOf m_possible q_undos q_models m_tape q_taped q_fault q_wrong q_wrongAt q_spot q_place q_token q_value m_ends m_letters m_actOf m_whom m_actMany m_tokens m_afters m_afterOf q_counted m_pile m_caseMany m_happen m_hasIf m_becomes m_goneOf m_heard m_pairs m_heaps q_rounds q_heapMany m_led m_newAt m_knowing m_firsts q_people m_secrets m_tried m_lanes m_lengths m_cells gt_manys gt_reals gt_factsOf gt_possible f_caseMany f_happen f_hasIf f_becomes f_goneOf f_heard f_actMany f_actOf f_whom gt_pile hnb_m_manys_27 hnb_m_reals_27 hb_caseMany hb_happen hb_actMany hpg_27 hhp hsv hwf_27 (by omega) (by omega) hWI) mi_X12_canHappen wl_X12_279 rfl 0 12 rfl rfl rfl rfl rfl dX12_goes_67) (roK hro) [0, 1, 2, 3, 4, 7, 8, 9, 10, 11, 12, 13, 14, 15, 6] [5, 16, 17] rfl rfl rfl rfl (fun r_76 uz hw => ?_)
                rcases hw with hw | hw
                · refine ex1 hw ?_
                  clear hw
                  intro f_pilez_77 hw
                  refine an2 hw ?_
                  clear hw
                  intro he_79 he_80 hw
                  have h_78 := hw
                  clear hw
                  have he_79 := he_79.symm
                  subst he_79
                  subst he_80
                  refine ww_eq (ws' := [(m_pairs, .inl (E.2.1 1, 576, .inl gt_pairs)), (m_afters, .inl (E.2.1 1, 9, .inl f_afters)), (m_afterOf, .inl (E.2.1 1, 18, .inl f_afterOf)), (hm, .inr (12, [.ref m_manys, .ref m_reals, .ref m_factsOf, .ref m_possible, .int (nI q_undos), .int (nI q_models), .ref m_tape, .int (nI q_taped), .int q_fault, .int q_wrong, .int q_wrongAt, .int q_spot, .int q_place, .int q_token, .int q_value, .ref m_ends, .ref m_letters, .ref m_actOf, .ref m_whom, .ref m_actMany, .ref m_tokens, .ref m_afters, .ref m_afterOf, .int q_counted, .ref m_pile, .ref m_caseMany, .ref m_happen, .ref m_hasIf, .ref m_becomes, .ref m_goneOf, .ref m_heard, .ref m_pairs, .ref m_heaps, .int q_rounds, .int q_heapMany, .ref m_led, .ref m_newAt, .ref m_knowing, .ref m_firsts, .int (nI q_people), .ref m_secrets, .ref m_tried, .ref m_lanes, .ref m_lengths, .ref m_cells])), (m_manys, .inl (E.2.1 1, 18, .inl gt_manys)), (m_reals, .inl (E.2.1 1, 18, .inl gt_reals)), (m_factsOf, .inl (E.2.1 1, 432, .inl gt_factsOf)), (m_possible, .inl (E.2.1 1, 1728, .inl gt_possible)), (m_caseMany, .inl (E.2.1 1, 4, .inl f_caseMany)), (m_happen, .inl (E.2.1 1, 4, .inl f_happen)), (m_hasIf, .inl (E.2.1 3, 16, .inl f_hasIf)), (m_becomes, .inl (E.2.1 1, 16, .inl f_becomes)), (m_goneOf, .inl (E.2.1 1, 16, .inl f_goneOf)), (m_heard, .inl (E.2.1 1, 64, .inl f_heard)), (m_actMany, .inl (E.2.1 1, 25, .inl f_actMany)), (m_actOf, .inl (E.2.1 1, 800, .inl f_actOf)), (m_whom, .inl (E.2.1 1, 800, .inl f_whom)), (m_pile, .inl (E.2.1 1, 34, .inl f_pilez_77))]) ?_ rfl rfl rfl
                  refine ww_if_eq_f (tgt := 88) C dX12_goes_70 (by decide) (by decide) ?_
                  refine ww_aload_n C dX12_goes_73 3 rfl rfl ?_
                  refine ww_iload C dX12_goes_74 0 rfl ?_
                  refine ww_iload C dX12_goes_76 1 rfl ?_
                  refine ww_ci (wr := [(m_afters, .inl (E.2.1 1, 9, .inl f_afters)), (m_afterOf, .inl (E.2.1 1, 18, .inl f_afterOf))]) (k' := 0) (n' := 0) C (run_V (As := [.int (nI j_73), .int (nI k1)]) (rest := []) C (r_laid X.2.1 E ro hm j_73 k1 m_manys m_reals m_factsOf m_possible q_undos q_models m_tape q_taped q_fault q_wrong q_wrongAt q_spot q_place q_token q_value m_ends m_letters m_actOf m_whom m_actMany m_tokens m_afters m_afterOf q_counted m_pile m_caseMany m_happen m_hasIf m_becomes m_goneOf m_heard m_pairs m_heaps q_rounds q_heapMany m_led m_newAt m_knowing m_firsts q_people m_secrets m_tried m_lanes m_lengths m_cells gt_manys gt_reals gt_factsOf gt_possible gt_pairs f_pilez_77 f_caseMany f_happen f_hasIf f_becomes f_goneOf f_heard f_actMany f_actOf f_whom hnb_m_manys_27 hnb_m_reals_27 hpg_27 hwf_27 hb_caseMany hb_happen hb_actMany hhp hsv (by omega) (by omega) (by omega) hWI) mi_X12_laid wl_X12_267 rfl 0 12 rfl rfl rfl rfl rfl dX12_goes_78) (roK hro) [3, 4, 5, 6, 7, 0, 17, 8, 9, 10, 11, 12, 13, 14, 15, 16] [1, 2] rfl rfl rfl rfl (fun r_85 uz hw => ?_)
                  rcases hw with hw | hw
                  · refine ex6 hw ?_
                    clear hw
                    intro f_manysz_86 f_realsz_87 f_factsOfz_88 f_possiblez_89 f_pairsz_90 f_pilez_91 hw
                    refine an8 hw ?_
                    clear hw
                    intro he_101 he_102 h_92 h_93 h_94 h_95 h_96 h_97 hw
                    refine an2 hw ?_
                    clear hw
                    intro h_98 h_99 hw
                    have h_100 := hw
                    clear hw
                    have he_101 := he_101.symm
                    subst he_101
                    subst he_102
                    refine ww_eq (ws' := [(m_afters, .inl (E.2.1 1, 9, .inl f_afters)), (m_afterOf, .inl (E.2.1 1, 18, .inl f_afterOf)), (hm, .inr (12, [.ref m_manys, .ref m_reals, .ref m_factsOf, .ref m_possible, .int (nI q_undos), .int (nI q_models), .ref m_tape, .int (nI q_taped), .int q_fault, .int q_wrong, .int q_wrongAt, .int q_spot, .int q_place, .int q_token, .int q_value, .ref m_ends, .ref m_letters, .ref m_actOf, .ref m_whom, .ref m_actMany, .ref m_tokens, .ref m_afters, .ref m_afterOf, .int q_counted, .ref m_pile, .ref m_caseMany, .ref m_happen, .ref m_hasIf, .ref m_becomes, .ref m_goneOf, .ref m_heard, .ref m_pairs, .ref m_heaps, .int q_rounds, .int q_heapMany, .ref m_led, .ref m_newAt, .ref m_knowing, .ref m_firsts, .int (nI q_people), .ref m_secrets, .ref m_tried, .ref m_lanes, .ref m_lengths, .ref m_cells])), (m_manys, .inl (E.2.1 1, 18, .inl f_manysz_86)), (m_reals, .inl (E.2.1 1, 18, .inl f_realsz_87)), (m_factsOf, .inl (E.2.1 1, 432, .inl f_factsOfz_88)), (m_possible, .inl (E.2.1 1, 1728, .inl f_possiblez_89)), (m_pairs, .inl (E.2.1 1, 576, .inl f_pairsz_90)), (m_pile, .inl (E.2.1 1, 34, .inl f_pilez_91)), (m_caseMany, .inl (E.2.1 1, 4, .inl f_caseMany)), (m_happen, .inl (E.2.1 1, 4, .inl f_happen)), (m_hasIf, .inl (E.2.1 3, 16, .inl f_hasIf)), (m_becomes, .inl (E.2.1 1, 16, .inl f_becomes)), (m_goneOf, .inl (E.2.1 1, 16, .inl f_goneOf)), (m_heard, .inl (E.2.1 1, 64, .inl f_heard)), (m_actMany, .inl (E.2.1 1, 25, .inl f_actMany)), (m_actOf, .inl (E.2.1 1, 800, .inl f_actOf)), (m_whom, .inl (E.2.1 1, 800, .inl f_whom))]) ?_ rfl rfl rfl
                    refine ww_if_lt_t (tgt := 88) C dX12_goes_81 (by decide) (by decide) ?_
                    refine ww_iconst (v := 0) C dX12_goes_88 rfl ?_
                    have hcan_ : canL ((pgs gt_manys gt_reals gt_factsOf gt_possible) k1) ((rEv f_caseMany f_happen f_hasIf f_actMany f_actOf f_whom f_becomes f_goneOf f_heard) j_73) = false := canL_f h_100
                    refine ww_istore (lv' := [(5, .int 0), (7, .int (nI j_73)), (6, .int (nI k1)), (0, .ref hm), (1, .int (nI row)), (2, .int (nI n)), (3, .int (nI am)), (4, .int (nI hd))]) C dX12_goes_89 rfl rfl ?_
                    refine ww_iload C dX12_goes_91 0 rfl ?_
                    refine ww_if_eq_t (tgt := 120) C dX12_goes_93 (by decide) (rfl) ?_
                    refine ww_iconst (v := 0) C dX12_goes_120 rfl ?_
                    refine ww_istore (lv' := [(5, .int 0), (7, .int (nI j_73)), (6, .int (nI k1)), (0, .ref hm), (1, .int (nI row)), (2, .int (nI n)), (3, .int (nI am)), (4, .int (nI hd))]) C dX12_goes_121 rfl rfl ?_
                    refine ww_iinc (j := 2) (v := (nI (k1 + 1))) (lv' := [(6, .int (nI (k1 + 1))), (5, .int 0), (7, .int (nI j_73)), (0, .ref hm), (1, .int (nI row)), (2, .int (nI n)), (3, .int (nI am)), (4, .int (nI hd))]) C dX12_goes_123 rfl (nI_add k1 1) rfl rfl ?_
                    refine ww_goto (tgt := 27) C dX12_goes_126 (by decide) ?_
                    exact ww_lv [0, 1, 3, 4, 5, 6, 7] rfl (ww_sub [2, 3, 4, 5, 6, 7, 8, 9, 10, 11, 12, 13, 14, 15, 16, 17, 0, 1] rfl rfl (ih_27 (k1 + 1) 0 f_manysz_86 f_realsz_87 f_factsOfz_88 f_possiblez_89 f_pairsz_90 f_pilez_91 (by omega) (by omega) (fun h9 => absurd h9 (by decide)) (fun _ => (hca1 (by omega)).2.1.trans (by rw [show n - k1 = (n - 1 - k1) + 1 by omega]; exact (gob_c hdg_ hcan_))) (KPA.oth hoth h_98 (by omega) (by omega)) h_92 h_93 h_94 h_95 (by omega)))
                  · refine ex7 hw ?_
                    clear hw
                    intro mz_103 f_manysz_104 f_realsz_105 f_factsOfz_106 f_possiblez_107 f_pairsz_108 f_pilez_109 hw
                    refine an8 hw ?_
                    clear hw
                    intro he_122 he_123 h_110 h_111 h_112 h_113 h_114 h_115 hw
                    refine an5 hw ?_
                    clear hw
                    intro h_116 h_117 h_118 h_119 h_120 hw
                    have h_121 := hw
                    clear hw
                    have he_122 := he_122.symm
                    subst he_122
                    subst he_123
                    refine ww_eq (ws' := [(m_afters, .inl (E.2.1 1, 9, .inl f_afters)), (m_afterOf, .inl (E.2.1 1, 18, .inl f_afterOf)), (hm, .inr (12, [.ref m_manys, .ref m_reals, .ref m_factsOf, .ref m_possible, .int (nI q_undos), .int (nI q_models), .ref m_tape, .int (nI q_taped), .int q_fault, .int q_wrong, .int q_wrongAt, .int q_spot, .int q_place, .int q_token, .int q_value, .ref m_ends, .ref m_letters, .ref m_actOf, .ref m_whom, .ref m_actMany, .ref m_tokens, .ref m_afters, .ref m_afterOf, .int q_counted, .ref m_pile, .ref m_caseMany, .ref m_happen, .ref m_hasIf, .ref m_becomes, .ref m_goneOf, .ref m_heard, .ref m_pairs, .ref m_heaps, .int q_rounds, .int q_heapMany, .ref m_led, .ref m_newAt, .ref m_knowing, .ref m_firsts, .int (nI q_people), .ref m_secrets, .ref m_tried, .ref m_lanes, .ref m_lengths, .ref m_cells])), (m_manys, .inl (E.2.1 1, 18, .inl f_manysz_104)), (m_reals, .inl (E.2.1 1, 18, .inl f_realsz_105)), (m_factsOf, .inl (E.2.1 1, 432, .inl f_factsOfz_106)), (m_possible, .inl (E.2.1 1, 1728, .inl f_possiblez_107)), (m_pairs, .inl (E.2.1 1, 576, .inl f_pairsz_108)), (m_pile, .inl (E.2.1 1, 34, .inl f_pilez_109)), (m_caseMany, .inl (E.2.1 1, 4, .inl f_caseMany)), (m_happen, .inl (E.2.1 1, 4, .inl f_happen)), (m_hasIf, .inl (E.2.1 3, 16, .inl f_hasIf)), (m_becomes, .inl (E.2.1 1, 16, .inl f_becomes)), (m_goneOf, .inl (E.2.1 1, 16, .inl f_goneOf)), (m_heard, .inl (E.2.1 1, 64, .inl f_heard)), (m_actMany, .inl (E.2.1 1, 25, .inl f_actMany)), (m_actOf, .inl (E.2.1 1, 800, .inl f_actOf)), (m_whom, .inl (E.2.1 1, 800, .inl f_whom))]) ?_ rfl rfl rfl
                    refine ww_if_lt (tgt := 88) C dX12_goes_81 (by decide) (fun c_124 => ?_) (fun c_124 => ?_)
                    · have zc_124 : ((mz_103 : Nat) : Int) < 0 := i_lt (nI_toInt (n := mz_103) (by omega)) rfl c_124
                      omega
                    · have zc_124 : ((mz_103 : Nat) : Int) ≥ 0 := i_nlt (nI_toInt (n := mz_103) (by omega)) rfl c_124
                      refine ww_iconst (v := 1) C dX12_goes_84 rfl ?_
                      refine ww_goto (tgt := 89) C dX12_goes_85 (by decide) ?_
                      have hcan_ : canL ((pgs gt_manys gt_reals gt_factsOf gt_possible) k1) ((rEv f_caseMany f_happen f_hasIf f_actMany f_actOf f_whom f_becomes f_goneOf f_heard) j_73) = true := canL_t (show ((pgs gt_manys gt_reals gt_factsOf gt_possible) k1).2.1 < ((pgs gt_manys gt_reals gt_factsOf gt_possible) k1).1 from hrl1) (show cN f_happen j_73 < cN f_caseMany j_73 by omega) (show cN f_happen j_73 < 4 by omega) h_78 (by rw [h_118]; omega)
                      have hrl_ : cN f_realsz_105 (k1 + 1) < cN f_manysz_104 (k1 + 1) := by have h9 := canL_in (show ((pgs gt_manys gt_reals gt_factsOf gt_possible) k1).2.1 < ((pgs gt_manys gt_reals gt_factsOf gt_possible) k1).1 from hrl1) (show cN f_happen j_73 < 4 by omega) hcan_; rw [← (h_119)] at h9; exact h9
                      refine ww_istore (lv' := [(5, .int 1), (7, .int (nI j_73)), (6, .int (nI k1)), (0, .ref hm), (1, .int (nI row)), (2, .int (nI n)), (3, .int (nI am)), (4, .int (nI hd))]) C dX12_goes_89 rfl rfl ?_
                      refine ww_iload C dX12_goes_91 0 rfl ?_
                      refine ww_if_eq_f (tgt := 120) C dX12_goes_93 (by decide) (by decide) ?_
                      refine ww_iload C dX12_goes_96 7 rfl ?_
                      refine ww_bipush (v := (-4)) C dX12_goes_98 rfl ?_
                      refine ww_icmp_eq (tgt := 116) C dX12_goes_100 (by decide) (fun c_125 => ?_) (fun c_125 => ?_)
                      · have zc_125 : ((hd : Nat) : Int) = (-4) := i_eq (nI_toInt (n := hd) (by omega)) rfl c_125
                        omega
                      · have zc_125 : ((hd : Nat) : Int) ≠ (-4) := i_ne (nI_toInt (n := hd) (by omega)) rfl c_125
                        refine ww_aload_n C dX12_goes_103 3 rfl rfl ?_
                        refine ww_iload C dX12_goes_104 7 rfl ?_
                        refine ww_iload C dX12_goes_106 2 rfl ?_
                        refine ww_iconst (v := 1) C dX12_goes_108 rfl ?_
                        refine ww_iadd (v := (nI (k1 + 1))) C dX12_goes_109 (nI_add k1 1) ?_
                        refine ww_ci (wr := []) (k' := 0) (n' := 0) C (run_V (As := [.int (nI hd), .int (nI (k1 + 1))]) (rest := []) C (r_isTrue X.2.1 E ro hm hd (k1 + 1) m_manys m_reals m_factsOf m_possible q_undos q_models m_tape q_taped q_fault q_wrong q_wrongAt q_spot q_place q_token q_value m_ends m_letters m_actOf m_whom m_actMany m_tokens m_afters m_afterOf q_counted m_pile m_caseMany m_happen m_hasIf m_becomes m_goneOf m_heard m_pairs m_heaps q_rounds q_heapMany m_led m_newAt m_knowing m_firsts q_people m_secrets m_tried m_lanes m_lengths m_cells f_manysz_104 f_realsz_105 f_factsOfz_106 f_possiblez_107 f_pairsz_108 f_pilez_109 f_caseMany f_happen f_hasIf f_becomes f_goneOf f_heard f_actMany f_actOf f_whom f_afters f_afterOf h_110 h_111 h_112 h_113 hb_caseMany hb_happen hb_actMany hhp hsv hb_afters hb_afterOf (by omega) (by omega) hWh hWI) mi_X12_isTrue wl_X12_276 rfl 0 12 rfl rfl rfl rfl rfl dX12_goes_110) (roK hro) [2, 3, 4, 5, 6, 7, 8, 9, 10, 11, 12, 13, 14, 15, 16, 17, 0, 1] [] rfl rfl rfl rfl (fun r_126 uz hw => ?_)
                        rcases hw with hw | hw
                        · refine ex6 hw ?_
                          clear hw
                          intro f_manysz_127 f_realsz_128 f_factsOfz_129 f_possiblez_130 f_pairsz_131 f_pilez_132 hw
                          refine an8 hw ?_
                          clear hw
                          intro he_141 he_142 h_133 h_134 h_135 h_136 h_137 h_138 hw
                          refine an1 hw ?_
                          clear hw
                          intro h_139 hw
                          have h_140 := hw
                          clear hw
                          have he_141 := he_141.symm
                          subst he_141
                          subst he_142
                          refine ww_eq (ws' := [(hm, .inr (12, [.ref m_manys, .ref m_reals, .ref m_factsOf, .ref m_possible, .int (nI q_undos), .int (nI q_models), .ref m_tape, .int (nI q_taped), .int q_fault, .int q_wrong, .int q_wrongAt, .int q_spot, .int q_place, .int q_token, .int q_value, .ref m_ends, .ref m_letters, .ref m_actOf, .ref m_whom, .ref m_actMany, .ref m_tokens, .ref m_afters, .ref m_afterOf, .int q_counted, .ref m_pile, .ref m_caseMany, .ref m_happen, .ref m_hasIf, .ref m_becomes, .ref m_goneOf, .ref m_heard, .ref m_pairs, .ref m_heaps, .int q_rounds, .int q_heapMany, .ref m_led, .ref m_newAt, .ref m_knowing, .ref m_firsts, .int (nI q_people), .ref m_secrets, .ref m_tried, .ref m_lanes, .ref m_lengths, .ref m_cells])), (m_manys, .inl (E.2.1 1, 18, .inl f_manysz_127)), (m_reals, .inl (E.2.1 1, 18, .inl f_realsz_128)), (m_factsOf, .inl (E.2.1 1, 432, .inl f_factsOfz_129)), (m_possible, .inl (E.2.1 1, 1728, .inl f_possiblez_130)), (m_pairs, .inl (E.2.1 1, 576, .inl f_pairsz_131)), (m_pile, .inl (E.2.1 1, 34, .inl f_pilez_132)), (m_caseMany, .inl (E.2.1 1, 4, .inl f_caseMany)), (m_happen, .inl (E.2.1 1, 4, .inl f_happen)), (m_hasIf, .inl (E.2.1 3, 16, .inl f_hasIf)), (m_becomes, .inl (E.2.1 1, 16, .inl f_becomes)), (m_goneOf, .inl (E.2.1 1, 16, .inl f_goneOf)), (m_heard, .inl (E.2.1 1, 64, .inl f_heard)), (m_actMany, .inl (E.2.1 1, 25, .inl f_actMany)), (m_actOf, .inl (E.2.1 1, 800, .inl f_actOf)), (m_whom, .inl (E.2.1 1, 800, .inl f_whom)), (m_afters, .inl (E.2.1 1, 9, .inl f_afters)), (m_afterOf, .inl (E.2.1 1, 18, .inl f_afterOf))]) ?_ rfl rfl rfl
                          refine ww_if_eq_f (tgt := 120) C dX12_goes_113 (by decide) (by decide) ?_
                          refine ww_iconst (v := 1) C dX12_goes_116 rfl ?_
                          refine ww_goto (tgt := 121) C dX12_goes_117 (by decide) ?_
                          have hrl2 := hrl_
                          have hrl_ : cN f_realsz_128 (k1 + 1) < cN f_manysz_127 (k1 + 1) := by rw [KP.at h_138 (p := k1 + 1) (by omega), KP.at h_137 (p := k1 + 1) (by omega)]; exact hrl2
                          refine ww_istore (lv' := [(5, .int 1), (7, .int (nI j_73)), (6, .int (nI k1)), (0, .ref hm), (1, .int (nI row)), (2, .int (nI n)), (3, .int (nI am)), (4, .int (nI hd))]) C dX12_goes_121 rfl rfl ?_
                          refine ww_iinc (j := 2) (v := (nI (k1 + 1))) (lv' := [(6, .int (nI (k1 + 1))), (5, .int 1), (7, .int (nI j_73)), (0, .ref hm), (1, .int (nI row)), (2, .int (nI n)), (3, .int (nI am)), (4, .int (nI hd))]) C dX12_goes_123 rfl (nI_add k1 1) rfl rfl ?_
                          refine ww_goto (tgt := 27) C dX12_goes_126 (by decide) ?_
                          exact ww_lv [0, 1, 3, 4, 5, 6, 7] rfl (ww_sub [0, 1, 2, 3, 4, 5, 6, 7, 8, 9, 10, 11, 12, 13, 14, 15, 16, 17] rfl rfl (ih_27 (k1 + 1) 1 f_manysz_127 f_realsz_128 f_factsOfz_129 f_possiblez_130 f_pairsz_131 f_pilez_132 (by omega) (by omega) (fun _ => ⟨by rw [(h_140 (k1 + 1) (by omega) (Or.inl (Nat.le_refl _)))]; exact h_139, by rw [show n - (k1 + 1) = n - 1 - k1 by omega, (h_140 (k1 + 1) (by omega) (Or.inl (Nat.le_refl _)))]; exact ((hca1 (by omega)).2.1.trans (by rw [show n - k1 = (n - 1 - k1) + 1 by omega]; exact gob_s (hca1 (by omega)).1 hdg_ hcan_ (h_119))), hrl_⟩) (fun h9 => absurd h9 (by decide)) (KPA.tr (KPA.oth hoth h_116 (by omega) (by omega)) h_140 (Nat.zero_le _)) h_133 h_134 h_135 h_136 (by omega)))
                        · refine ex6 hw ?_
                          clear hw
                          intro f_manysz_143 f_realsz_144 f_factsOfz_145 f_possiblez_146 f_pairsz_147 f_pilez_148 hw
                          refine an8 hw ?_
                          clear hw
                          intro he_157 he_158 h_149 h_150 h_151 h_152 h_153 h_154 hw
                          refine an1 hw ?_
                          clear hw
                          intro h_155 hw
                          have h_156 := hw
                          clear hw
                          have he_157 := he_157.symm
                          subst he_157
                          subst he_158
                          refine ww_eq (ws' := [(hm, .inr (12, [.ref m_manys, .ref m_reals, .ref m_factsOf, .ref m_possible, .int (nI q_undos), .int (nI q_models), .ref m_tape, .int (nI q_taped), .int q_fault, .int q_wrong, .int q_wrongAt, .int q_spot, .int q_place, .int q_token, .int q_value, .ref m_ends, .ref m_letters, .ref m_actOf, .ref m_whom, .ref m_actMany, .ref m_tokens, .ref m_afters, .ref m_afterOf, .int q_counted, .ref m_pile, .ref m_caseMany, .ref m_happen, .ref m_hasIf, .ref m_becomes, .ref m_goneOf, .ref m_heard, .ref m_pairs, .ref m_heaps, .int q_rounds, .int q_heapMany, .ref m_led, .ref m_newAt, .ref m_knowing, .ref m_firsts, .int (nI q_people), .ref m_secrets, .ref m_tried, .ref m_lanes, .ref m_lengths, .ref m_cells])), (m_manys, .inl (E.2.1 1, 18, .inl f_manysz_143)), (m_reals, .inl (E.2.1 1, 18, .inl f_realsz_144)), (m_factsOf, .inl (E.2.1 1, 432, .inl f_factsOfz_145)), (m_possible, .inl (E.2.1 1, 1728, .inl f_possiblez_146)), (m_pairs, .inl (E.2.1 1, 576, .inl f_pairsz_147)), (m_pile, .inl (E.2.1 1, 34, .inl f_pilez_148)), (m_caseMany, .inl (E.2.1 1, 4, .inl f_caseMany)), (m_happen, .inl (E.2.1 1, 4, .inl f_happen)), (m_hasIf, .inl (E.2.1 3, 16, .inl f_hasIf)), (m_becomes, .inl (E.2.1 1, 16, .inl f_becomes)), (m_goneOf, .inl (E.2.1 1, 16, .inl f_goneOf)), (m_heard, .inl (E.2.1 1, 64, .inl f_heard)), (m_actMany, .inl (E.2.1 1, 25, .inl f_actMany)), (m_actOf, .inl (E.2.1 1, 800, .inl f_actOf)), (m_whom, .inl (E.2.1 1, 800, .inl f_whom)), (m_afters, .inl (E.2.1 1, 9, .inl f_afters)), (m_afterOf, .inl (E.2.1 1, 18, .inl f_afterOf))]) ?_ rfl rfl rfl
                          refine ww_if_eq_t (tgt := 120) C dX12_goes_113 (by decide) (rfl) ?_
                          refine ww_iconst (v := 0) C dX12_goes_120 rfl ?_
                          have hrl2 := hrl_
                          refine ww_istore (lv' := [(5, .int 0), (7, .int (nI j_73)), (6, .int (nI k1)), (0, .ref hm), (1, .int (nI row)), (2, .int (nI n)), (3, .int (nI am)), (4, .int (nI hd))]) C dX12_goes_121 rfl rfl ?_
                          refine ww_iinc (j := 2) (v := (nI (k1 + 1))) (lv' := [(6, .int (nI (k1 + 1))), (5, .int 0), (7, .int (nI j_73)), (0, .ref hm), (1, .int (nI row)), (2, .int (nI n)), (3, .int (nI am)), (4, .int (nI hd))]) C dX12_goes_123 rfl (nI_add k1 1) rfl rfl ?_
                          refine ww_goto (tgt := 27) C dX12_goes_126 (by decide) ?_
                          exact ww_lv [0, 1, 3, 4, 5, 6, 7] rfl (ww_sub [0, 1, 2, 3, 4, 5, 6, 7, 8, 9, 10, 11, 12, 13, 14, 15, 16, 17] rfl rfl (ih_27 (k1 + 1) 0 f_manysz_143 f_realsz_144 f_factsOfz_145 f_possiblez_146 f_pairsz_147 f_pilez_148 (by omega) (by omega) (fun h9 => absurd h9 (by decide)) (fun _ => (hca1 (by omega)).2.1.trans (by rw [show n - k1 = (n - 1 - k1) + 1 by omega]; exact ((gob_s (hca1 (by omega)).1 hdg_ hcan_ (h_119)).trans (gob_h h_155)))) (KPA.tr (KPA.oth hoth h_116 (by omega) (by omega)) h_156 (Nat.zero_le _)) h_149 h_150 h_151 h_152 (by omega)))
                · refine ex1 hw ?_
                  clear hw
                  intro f_pilez_81 hw
                  refine an2 hw ?_
                  clear hw
                  intro he_83 he_84 hw
                  have h_82 := hw
                  clear hw
                  have he_83 := he_83.symm
                  subst he_83
                  subst he_84
                  refine ww_eq (ws' := [(m_pairs, .inl (E.2.1 1, 576, .inl gt_pairs)), (m_afters, .inl (E.2.1 1, 9, .inl f_afters)), (m_afterOf, .inl (E.2.1 1, 18, .inl f_afterOf)), (hm, .inr (12, [.ref m_manys, .ref m_reals, .ref m_factsOf, .ref m_possible, .int (nI q_undos), .int (nI q_models), .ref m_tape, .int (nI q_taped), .int q_fault, .int q_wrong, .int q_wrongAt, .int q_spot, .int q_place, .int q_token, .int q_value, .ref m_ends, .ref m_letters, .ref m_actOf, .ref m_whom, .ref m_actMany, .ref m_tokens, .ref m_afters, .ref m_afterOf, .int q_counted, .ref m_pile, .ref m_caseMany, .ref m_happen, .ref m_hasIf, .ref m_becomes, .ref m_goneOf, .ref m_heard, .ref m_pairs, .ref m_heaps, .int q_rounds, .int q_heapMany, .ref m_led, .ref m_newAt, .ref m_knowing, .ref m_firsts, .int (nI q_people), .ref m_secrets, .ref m_tried, .ref m_lanes, .ref m_lengths, .ref m_cells])), (m_manys, .inl (E.2.1 1, 18, .inl gt_manys)), (m_reals, .inl (E.2.1 1, 18, .inl gt_reals)), (m_factsOf, .inl (E.2.1 1, 432, .inl gt_factsOf)), (m_possible, .inl (E.2.1 1, 1728, .inl gt_possible)), (m_caseMany, .inl (E.2.1 1, 4, .inl f_caseMany)), (m_happen, .inl (E.2.1 1, 4, .inl f_happen)), (m_hasIf, .inl (E.2.1 3, 16, .inl f_hasIf)), (m_becomes, .inl (E.2.1 1, 16, .inl f_becomes)), (m_goneOf, .inl (E.2.1 1, 16, .inl f_goneOf)), (m_heard, .inl (E.2.1 1, 64, .inl f_heard)), (m_actMany, .inl (E.2.1 1, 25, .inl f_actMany)), (m_actOf, .inl (E.2.1 1, 800, .inl f_actOf)), (m_whom, .inl (E.2.1 1, 800, .inl f_whom)), (m_pile, .inl (E.2.1 1, 34, .inl f_pilez_81))]) ?_ rfl rfl rfl
                  refine ww_if_eq_t (tgt := 88) C dX12_goes_70 (by decide) (rfl) ?_
                  refine ww_iconst (v := 0) C dX12_goes_88 rfl ?_
                  have hcan_ : canL ((pgs gt_manys gt_reals gt_factsOf gt_possible) k1) ((rEv f_caseMany f_happen f_hasIf f_actMany f_actOf f_whom f_becomes f_goneOf f_heard) j_73) = false := canL_b (show ((pgs gt_manys gt_reals gt_factsOf gt_possible) k1).2.1 < ((pgs gt_manys gt_reals gt_factsOf gt_possible) k1).1 from hrl1) (show cN f_happen j_73 < cN f_caseMany j_73 by omega) (show cN f_happen j_73 < 4 by omega) h_82
                  refine ww_istore (lv' := [(5, .int 0), (7, .int (nI j_73)), (6, .int (nI k1)), (0, .ref hm), (1, .int (nI row)), (2, .int (nI n)), (3, .int (nI am)), (4, .int (nI hd))]) C dX12_goes_89 rfl rfl ?_
                  refine ww_iload C dX12_goes_91 0 rfl ?_
                  refine ww_if_eq_t (tgt := 120) C dX12_goes_93 (by decide) (rfl) ?_
                  refine ww_iconst (v := 0) C dX12_goes_120 rfl ?_
                  refine ww_istore (lv' := [(5, .int 0), (7, .int (nI j_73)), (6, .int (nI k1)), (0, .ref hm), (1, .int (nI row)), (2, .int (nI n)), (3, .int (nI am)), (4, .int (nI hd))]) C dX12_goes_121 rfl rfl ?_
                  refine ww_iinc (j := 2) (v := (nI (k1 + 1))) (lv' := [(6, .int (nI (k1 + 1))), (5, .int 0), (7, .int (nI j_73)), (0, .ref hm), (1, .int (nI row)), (2, .int (nI n)), (3, .int (nI am)), (4, .int (nI hd))]) C dX12_goes_123 rfl (nI_add k1 1) rfl rfl ?_
                  refine ww_goto (tgt := 27) C dX12_goes_126 (by decide) ?_
                  exact ww_lv [0, 1, 3, 4, 5, 6, 7] rfl (ww_sub [3, 4, 5, 6, 7, 0, 17, 8, 9, 10, 11, 12, 13, 14, 15, 16, 1, 2] rfl rfl (ih_27 (k1 + 1) 0 gt_manys gt_reals gt_factsOf gt_possible gt_pairs f_pilez_81 (by omega) (by omega) (fun h9 => absurd h9 (by decide)) (fun _ => (hca1 (by omega)).2.1.trans (by rw [show n - k1 = (n - 1 - k1) + 1 by omega]; exact (gob_c hdg_ hcan_))) hoth hnb_m_manys_27 hnb_m_reals_27 hpg_27 hwf_27 (by omega)))
      exact ww_lv [0, 1, 2, 3, 4, 5, 6] rfl (ww_sub [0, 1, 2, 3, 4, 5, 6, 7, 8, 9, 10, 11, 12, 13, 14, 15, 16, 17] rfl rfl (loop_27 _ 0 1 f_manysz_3 f_realsz_4 f_factsOfz_5 f_possiblez_6 f_pairsz_7 f_pilez_8 (by omega) (by omega) (fun _ => ⟨by rw [h_16 0 (by omega) (Or.inl (Nat.le_refl _))]; exact h_15, by rw [Nat.sub_zero, h_16 0 (by omega) (Or.inl (Nat.le_refl _))], by rw [KP.at h_14 (p := 0) (by omega), KP.at h_13 (p := 0) (by omega)]; exact hrl0⟩) (fun h9 => absurd h9 (by decide)) h_16 h_9 h_10 h_11 h_12 (Nat.lt_succ_self _)))
    · refine ex6 hw ?_
      clear hw
      intro f_manysz_19 f_realsz_20 f_factsOfz_21 f_possiblez_22 f_pairsz_23 f_pilez_24 hw
      refine an8 hw ?_
      clear hw
      intro he_33 he_34 h_25 h_26 h_27 h_28 h_29 h_30 hw
      refine an1 hw ?_
      clear hw
      intro h_31 hw
      have h_32 := hw
      clear hw
      have he_33 := he_33.symm
      subst he_33
      subst he_34
      refine ww_eq (ws' := [(hm, .inr (12, [.ref m_manys, .ref m_reals, .ref m_factsOf, .ref m_possible, .int (nI q_undos), .int (nI q_models), .ref m_tape, .int (nI q_taped), .int q_fault, .int q_wrong, .int q_wrongAt, .int q_spot, .int q_place, .int q_token, .int q_value, .ref m_ends, .ref m_letters, .ref m_actOf, .ref m_whom, .ref m_actMany, .ref m_tokens, .ref m_afters, .ref m_afterOf, .int q_counted, .ref m_pile, .ref m_caseMany, .ref m_happen, .ref m_hasIf, .ref m_becomes, .ref m_goneOf, .ref m_heard, .ref m_pairs, .ref m_heaps, .int q_rounds, .int q_heapMany, .ref m_led, .ref m_newAt, .ref m_knowing, .ref m_firsts, .int (nI q_people), .ref m_secrets, .ref m_tried, .ref m_lanes, .ref m_lengths, .ref m_cells])), (m_manys, .inl (E.2.1 1, 18, .inl f_manysz_19)), (m_reals, .inl (E.2.1 1, 18, .inl f_realsz_20)), (m_factsOf, .inl (E.2.1 1, 432, .inl f_factsOfz_21)), (m_possible, .inl (E.2.1 1, 1728, .inl f_possiblez_22)), (m_pairs, .inl (E.2.1 1, 576, .inl f_pairsz_23)), (m_pile, .inl (E.2.1 1, 34, .inl f_pilez_24)), (m_caseMany, .inl (E.2.1 1, 4, .inl f_caseMany)), (m_happen, .inl (E.2.1 1, 4, .inl f_happen)), (m_hasIf, .inl (E.2.1 3, 16, .inl f_hasIf)), (m_becomes, .inl (E.2.1 1, 16, .inl f_becomes)), (m_goneOf, .inl (E.2.1 1, 16, .inl f_goneOf)), (m_heard, .inl (E.2.1 1, 64, .inl f_heard)), (m_actMany, .inl (E.2.1 1, 25, .inl f_actMany)), (m_actOf, .inl (E.2.1 1, 800, .inl f_actOf)), (m_whom, .inl (E.2.1 1, 800, .inl f_whom)), (m_afters, .inl (E.2.1 1, 9, .inl f_afters)), (m_afterOf, .inl (E.2.1 1, 18, .inl f_afterOf))]) ?_ rfl rfl rfl
      refine ww_if_eq_t (tgt := 21) C dX12_goes_14 (by decide) (rfl) ?_
      refine ww_iconst (v := 0) C dX12_goes_21 rfl ?_
      refine ww_istore (lv' := [(5, .int 0), (0, .ref hm), (1, .int (nI row)), (2, .int (nI n)), (3, .int (nI am)), (4, .int (nI hd))]) C dX12_goes_22 rfl rfl ?_
      refine ww_iconst (v := 0) C dX12_goes_24 rfl ?_
      refine ww_istore (lv' := [(6, .int 0), (5, .int 0), (0, .ref hm), (1, .int (nI row)), (2, .int (nI n)), (3, .int (nI am)), (4, .int (nI hd))]) C dX12_goes_25 rfl rfl ?_
      refine ww_iload C dX12_goes_27 0 rfl ?_
      refine ww_iload_n C dX12_goes_29 4 rfl rfl ?_
      refine ww_icmp_ge (tgt := 129) C dX12_goes_30 (by decide) (fun c_159 => ?_) (fun c_159 => ?_)
      · have zc_159 : 0 ≥ ((n : Nat) : Int) := i_le (nI_toInt (n := n) (by omega)) rfl c_159
        refine ww_iload C dX12_goes_129 1 rfl ?_
        refine ww_if_eq_t (tgt := 147) C dX12_goes_131 (by decide) (rfl) ?_
        refine ww_iconst (v := 0) C dX12_goes_147 rfl ?_
        exact ww_zret (u := [(hm, .inr (12, [.ref m_manys, .ref m_reals, .ref m_factsOf, .ref m_possible, .int (nI q_undos), .int (nI q_models), .ref m_tape, .int (nI q_taped), .int q_fault, .int q_wrong, .int q_wrongAt, .int q_spot, .int q_place, .int q_token, .int q_value, .ref m_ends, .ref m_letters, .ref m_actOf, .ref m_whom, .ref m_actMany, .ref m_tokens, .ref m_afters, .ref m_afterOf, .int q_counted, .ref m_pile, .ref m_caseMany, .ref m_happen, .ref m_hasIf, .ref m_becomes, .ref m_goneOf, .ref m_heard, .ref m_pairs, .ref m_heaps, .int q_rounds, .int q_heapMany, .ref m_led, .ref m_newAt, .ref m_knowing, .ref m_firsts, .int (nI q_people), .ref m_secrets, .ref m_tried, .ref m_lanes, .ref m_lengths, .ref m_cells])), (m_manys, .inl (E.2.1 1, 18, .inl f_manysz_19)), (m_reals, .inl (E.2.1 1, 18, .inl f_realsz_20)), (m_factsOf, .inl (E.2.1 1, 432, .inl f_factsOfz_21)), (m_possible, .inl (E.2.1 1, 1728, .inl f_possiblez_22)), (m_pairs, .inl (E.2.1 1, 576, .inl f_pairsz_23)), (m_pile, .inl (E.2.1 1, 34, .inl f_pilez_24)), (m_caseMany, .inl (E.2.1 1, 4, .inl f_caseMany)), (m_happen, .inl (E.2.1 1, 4, .inl f_happen)), (m_hasIf, .inl (E.2.1 3, 16, .inl f_hasIf)), (m_becomes, .inl (E.2.1 1, 16, .inl f_becomes)), (m_goneOf, .inl (E.2.1 1, 16, .inl f_goneOf)), (m_heard, .inl (E.2.1 1, 64, .inl f_heard)), (m_actMany, .inl (E.2.1 1, 25, .inl f_actMany)), (m_actOf, .inl (E.2.1 1, 800, .inl f_actOf)), (m_whom, .inl (E.2.1 1, 800, .inl f_whom)), (m_afters, .inl (E.2.1 1, 9, .inl f_afters)), (m_afterOf, .inl (E.2.1 1, 18, .inl f_afterOf))]) C hT [0, 1, 2, 3, 4, 5, 6, 7, 8, 9, 10, 11, 12, 13, 14, 15, 16, 17] rfl rfl rfl rfl rfl dX12_goes_148 (Or.inr ⟨f_manysz_19, f_realsz_20, f_factsOfz_21, f_possiblez_22, f_pairsz_23, f_pilez_24, rfl, rfl, h_25, h_26, h_27, h_28, (gob_h h_31), h_32⟩)
      · have zc_159 : 0 < ((n : Nat) : Int) := i_nle (nI_toInt (n := n) (by omega)) rfl c_159
        refine ww_iload C dX12_goes_33 1 rfl ?_
        refine ww_if_eq_t (tgt := 129) C dX12_goes_35 (by decide) (rfl) ?_
        refine ww_iload C dX12_goes_129 1 rfl ?_
        refine ww_if_eq_t (tgt := 147) C dX12_goes_131 (by decide) (rfl) ?_
        refine ww_iconst (v := 0) C dX12_goes_147 rfl ?_
        exact ww_zret (u := [(hm, .inr (12, [.ref m_manys, .ref m_reals, .ref m_factsOf, .ref m_possible, .int (nI q_undos), .int (nI q_models), .ref m_tape, .int (nI q_taped), .int q_fault, .int q_wrong, .int q_wrongAt, .int q_spot, .int q_place, .int q_token, .int q_value, .ref m_ends, .ref m_letters, .ref m_actOf, .ref m_whom, .ref m_actMany, .ref m_tokens, .ref m_afters, .ref m_afterOf, .int q_counted, .ref m_pile, .ref m_caseMany, .ref m_happen, .ref m_hasIf, .ref m_becomes, .ref m_goneOf, .ref m_heard, .ref m_pairs, .ref m_heaps, .int q_rounds, .int q_heapMany, .ref m_led, .ref m_newAt, .ref m_knowing, .ref m_firsts, .int (nI q_people), .ref m_secrets, .ref m_tried, .ref m_lanes, .ref m_lengths, .ref m_cells])), (m_manys, .inl (E.2.1 1, 18, .inl f_manysz_19)), (m_reals, .inl (E.2.1 1, 18, .inl f_realsz_20)), (m_factsOf, .inl (E.2.1 1, 432, .inl f_factsOfz_21)), (m_possible, .inl (E.2.1 1, 1728, .inl f_possiblez_22)), (m_pairs, .inl (E.2.1 1, 576, .inl f_pairsz_23)), (m_pile, .inl (E.2.1 1, 34, .inl f_pilez_24)), (m_caseMany, .inl (E.2.1 1, 4, .inl f_caseMany)), (m_happen, .inl (E.2.1 1, 4, .inl f_happen)), (m_hasIf, .inl (E.2.1 3, 16, .inl f_hasIf)), (m_becomes, .inl (E.2.1 1, 16, .inl f_becomes)), (m_goneOf, .inl (E.2.1 1, 16, .inl f_goneOf)), (m_heard, .inl (E.2.1 1, 64, .inl f_heard)), (m_actMany, .inl (E.2.1 1, 25, .inl f_actMany)), (m_actOf, .inl (E.2.1 1, 800, .inl f_actOf)), (m_whom, .inl (E.2.1 1, 800, .inl f_whom)), (m_afters, .inl (E.2.1 1, 9, .inl f_afters)), (m_afterOf, .inl (E.2.1 1, 18, .inl f_afterOf))]) C hT [0, 1, 2, 3, 4, 5, 6, 7, 8, 9, 10, 11, 12, 13, 14, 15, 16, 17] rfl rfl rfl rfl rfl dX12_goes_148 (Or.inr ⟨f_manysz_19, f_realsz_20, f_factsOfz_21, f_possiblez_22, f_pairsz_23, f_pilez_24, rfl, rfl, h_25, h_26, h_27, h_28, (gob_h h_31), h_32⟩)
