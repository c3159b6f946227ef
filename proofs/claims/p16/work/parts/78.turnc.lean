theorem dX12_goes_0 : decode cX12_goes 0 = .ok (.iload 4, 2) := by decide +kernel
theorem dX12_goes_2 : decode cX12_goes 2 = .ok (.bipush (-4), 2) := by decide +kernel
theorem dX12_goes_4 : decode cX12_goes 4 = .ok (.if_icmp .eq 13, 3) := by decide +kernel
theorem dX12_goes_17 : decode cX12_goes 17 = .ok (.iconst 1, 1) := by decide +kernel
theorem dX12_goes_18 : decode cX12_goes 18 = .ok (.goto 4, 3) := by decide +kernel
theorem dX12_goes_22 : decode cX12_goes 22 = .ok (.istore 5, 2) := by decide +kernel
theorem dX12_goes_24 : decode cX12_goes 24 = .ok (.iconst 0, 1) := by decide +kernel
theorem dX12_goes_25 : decode cX12_goes 25 = .ok (.istore 6, 2) := by decide +kernel
theorem dX12_goes_27 : decode cX12_goes 27 = .ok (.iload 6, 2) := by decide +kernel
theorem dX12_goes_29 : decode cX12_goes 29 = .ok (.iload_n 2, 1) := by decide +kernel
theorem dX12_goes_30 : decode cX12_goes 30 = .ok (.if_icmp .ge 99, 3) := by decide +kernel
theorem dX12_goes_129 : decode cX12_goes 129 = .ok (.iload 5, 2) := by decide +kernel
theorem dX12_goes_131 : decode cX12_goes 131 = .ok (.ifCond .eq 16, 3) := by decide +kernel
theorem dX12_goes_147 : decode cX12_goes 147 = .ok (.iconst 0, 1) := by decide +kernel
theorem dX12_goes_148 : decode cX12_goes 148 = .ok (.ireturn, 1) := by decide +kernel
theorem dX12_goes_134 : decode cX12_goes 134 = .ok (.aload_n 0, 1) := by decide +kernel
theorem dX12_goes_135 : decode cX12_goes 135 = .ok (.iload_n 3, 1) := by decide +kernel
theorem dX12_goes_136 : decode cX12_goes 136 = .ok (.iload_n 2, 1) := by decide +kernel
theorem dX12_goes_137 : decode cX12_goes 137 = .ok (.invokevirtual 276, 3) := by decide +kernel
theorem dX12_goes_140 : decode cX12_goes 140 = .ok (.ifCond .eq 7, 3) := by decide +kernel
theorem dX12_goes_143 : decode cX12_goes 143 = .ok (.iconst 1, 1) := by decide +kernel
theorem dX12_goes_144 : decode cX12_goes 144 = .ok (.goto 4, 3) := by decide +kernel
theorem dX12_goes_33 : decode cX12_goes 33 = .ok (.iload 5, 2) := by decide +kernel
theorem dX12_goes_35 : decode cX12_goes 35 = .ok (.ifCond .eq 94, 3) := by decide +kernel
theorem dX12_goes_38 : decode cX12_goes 38 = .ok (.iload_n 1, 1) := by decide +kernel
theorem dX12_goes_39 : decode cX12_goes 39 = .ok (.iconst 2, 1) := by decide +kernel
theorem dX12_goes_40 : decode cX12_goes 40 = .ok (.iload_n 2, 1) := by decide +kernel
theorem dX12_goes_41 : decode cX12_goes 41 = .ok (.iconst 1, 1) := by decide +kernel
theorem dX12_goes_42 : decode cX12_goes 42 = .ok (.isub, 1) := by decide +kernel
theorem dX12_goes_43 : decode cX12_goes 43 = .ok (.iload 6, 2) := by decide +kernel
theorem dX12_goes_45 : decode cX12_goes 45 = .ok (.isub, 1) := by decide +kernel
theorem dX12_goes_46 : decode cX12_goes 46 = .ok (.imul, 1) := by decide +kernel
theorem dX12_goes_47 : decode cX12_goes 47 = .ok (.ishr, 1) := by decide +kernel
theorem dX12_goes_48 : decode cX12_goes 48 = .ok (.iconst 3, 1) := by decide +kernel
theorem dX12_goes_49 : decode cX12_goes 49 = .ok (.iand, 1) := by decide +kernel
theorem dX12_goes_50 : decode cX12_goes 50 = .ok (.istore 7, 2) := by decide +kernel
theorem dX12_goes_52 : decode cX12_goes 52 = .ok (.aload_n 0, 1) := by decide +kernel
theorem dX12_goes_53 : decode cX12_goes 53 = .ok (.getfield 52, 3) := by decide +kernel
theorem dX12_goes_56 : decode cX12_goes 56 = .ok (.iload 7, 2) := by decide +kernel
theorem dX12_goes_58 : decode cX12_goes 58 = .ok (.iaload, 1) := by decide +kernel
theorem dX12_goes_59 : decode cX12_goes 59 = .ok (.ifCond .le 29, 3) := by decide +kernel
theorem dX12_goes_88 : decode cX12_goes 88 = .ok (.iconst 0, 1) := by decide +kernel
theorem dX12_goes_89 : decode cX12_goes 89 = .ok (.istore 5, 2) := by decide +kernel
theorem dX12_goes_91 : decode cX12_goes 91 = .ok (.iload 5, 2) := by decide +kernel
theorem dX12_goes_93 : decode cX12_goes 93 = .ok (.ifCond .eq 27, 3) := by decide +kernel
theorem dX12_goes_120 : decode cX12_goes 120 = .ok (.iconst 0, 1) := by decide +kernel
theorem dX12_goes_121 : decode cX12_goes 121 = .ok (.istore 5, 2) := by decide +kernel
theorem dX12_goes_123 : decode cX12_goes 123 = .ok (.iinc 6 1, 3) := by decide +kernel
theorem dX12_goes_126 : decode cX12_goes 126 = .ok (.goto (-99), 3) := by decide +kernel
theorem dX12_goes_62 : decode cX12_goes 62 = .ok (.aload_n 0, 1) := by decide +kernel
theorem dX12_goes_63 : decode cX12_goes 63 = .ok (.iload 7, 2) := by decide +kernel
theorem dX12_goes_65 : decode cX12_goes 65 = .ok (.iload 6, 2) := by decide +kernel
theorem dX12_goes_67 : decode cX12_goes 67 = .ok (.invokevirtual 279, 3) := by decide +kernel
theorem dX12_goes_70 : decode cX12_goes 70 = .ok (.ifCond .eq 18, 3) := by decide +kernel
theorem dX12_goes_73 : decode cX12_goes 73 = .ok (.aload_n 0, 1) := by decide +kernel
theorem dX12_goes_74 : decode cX12_goes 74 = .ok (.iload 7, 2) := by decide +kernel
theorem dX12_goes_76 : decode cX12_goes 76 = .ok (.iload 6, 2) := by decide +kernel
theorem dX12_goes_78 : decode cX12_goes 78 = .ok (.invokevirtual 267, 3) := by decide +kernel
theorem dX12_goes_81 : decode cX12_goes 81 = .ok (.ifCond .lt 7, 3) := by decide +kernel
theorem dX12_goes_84 : decode cX12_goes 84 = .ok (.iconst 1, 1) := by decide +kernel
theorem dX12_goes_85 : decode cX12_goes 85 = .ok (.goto 4, 3) := by decide +kernel
theorem dX12_goes_96 : decode cX12_goes 96 = .ok (.iload 4, 2) := by decide +kernel
theorem dX12_goes_98 : decode cX12_goes 98 = .ok (.bipush (-4), 2) := by decide +kernel
theorem dX12_goes_100 : decode cX12_goes 100 = .ok (.if_icmp .eq 16, 3) := by decide +kernel
theorem dX12_goes_116 : decode cX12_goes 116 = .ok (.iconst 1, 1) := by decide +kernel
theorem dX12_goes_117 : decode cX12_goes 117 = .ok (.goto 4, 3) := by decide +kernel
set_option maxRecDepth 100000 in
set_option maxHeartbeats 4000000 in
theorem r_goesN (l : Launch) (E : EV) (ro : va_W) (hm : Nat) (row : Int32) (n : Nat) (am : Nat) (m_manys : Nat) (m_reals : Nat) (m_factsOf : Nat) (m_possible : Nat) (q_undos : Nat) (q_models : Nat) (m_tape : Nat) (q_taped : Nat) (q_fault : Int32) (q_wrong : Int32) (q_wrongAt : Int32) (q_spot : Int32) (q_place : Int32) (q_token : Int32) (q_value : Int32) (m_ends : Nat) (m_letters : Nat) (m_actOf : Nat) (m_whom : Nat) (m_actMany : Nat) (m_tokens : Nat) (m_afters : Nat) (m_afterOf : Nat) (q_counted : Int32) (m_pile : Nat) (m_caseMany : Nat) (m_happen : Nat) (m_hasIf : Nat) (m_becomes : Nat) (m_goneOf : Nat) (m_heard : Nat) (m_pairs : Nat) (m_heaps : Nat) (q_rounds : Int32) (q_heapMany : Int32) (m_led : Nat) (m_newAt : Nat) (m_knowing : Nat) (m_firsts : Nat) (q_people : Nat) (m_secrets : Nat) (m_tried : Nat) (m_lanes : Nat) (m_lengths : Nat) (m_cells : Nat) (f_manys : Nat → Int32) (f_reals : Nat → Int32) (f_factsOf : Nat → Int32) (f_possible : Nat → Int32) (f_pairs : Nat → Int32) (f_pile : Nat → Int32) (f_caseMany : Nat → Int32) (f_happen : Nat → Int32) (f_hasIf : Nat → Int32) (f_becomes : Nat → Int32) (f_goneOf : Nat → Int32) (f_heard : Nat → Int32) (f_actMany : Nat → Int32) (f_actOf : Nat → Int32) (f_whom : Nat → Int32) (f_afters : Nat → Int32) (f_afterOf : Nat → Int32) (hb_manys : NB 18 24 f_manys) (hb_reals : NB 18 23 f_reals) (hpg : PG f_manys f_reals) (hb_caseMany : NB 4 4 f_caseMany) (hb_happen : NB 4 3 f_happen) (hb_actMany : NB 25 32 f_actMany) (hhp : HP f_caseMany f_happen) (hsv : SV f_actOf f_actMany) (hb_afters : NB 9 2 f_afters) (hb_afterOf : NB 18 3 f_afterOf) (hn : n ≤ 3) (ham : am < 8) : CT l yX12_goes (Cond.code yX12_goes cX12_goes 8 (some .boolean) :: TB) ({ frames := 8, cells := 0, slots := 0, locals := 206 }) E ro [.ref hm, .int row, .int (nI n), .int (nI am), .int (-4)] [(hm, .inr (12, [.ref m_manys, .ref m_reals, .ref m_factsOf, .ref m_possible, .int (nI q_undos), .int (nI q_models), .ref m_tape, .int (nI q_taped), .int q_fault, .int q_wrong, .int q_wrongAt, .int q_spot, .int q_place, .int q_token, .int q_value, .ref m_ends, .ref m_letters, .ref m_actOf, .ref m_whom, .ref m_actMany, .ref m_tokens, .ref m_afters, .ref m_afterOf, .int q_counted, .ref m_pile, .ref m_caseMany, .ref m_happen, .ref m_hasIf, .ref m_becomes, .ref m_goneOf, .ref m_heard, .ref m_pairs, .ref m_heaps, .int q_rounds, .int q_heapMany, .ref m_led, .ref m_newAt, .ref m_knowing, .ref m_firsts, .int (nI q_people), .ref m_secrets, .ref m_tried, .ref m_lanes, .ref m_lengths, .ref m_cells])), (m_manys, .inl (E.2.1 1, 18, .inl f_manys)), (m_reals, .inl (E.2.1 1, 18, .inl f_reals)), (m_factsOf, .inl (E.2.1 1, 432, .inl f_factsOf)), (m_possible, .inl (E.2.1 1, 1728, .inl f_possible)), (m_pairs, .inl (E.2.1 1, 576, .inl f_pairs)), (m_pile, .inl (E.2.1 1, 34, .inl f_pile)), (m_caseMany, .inl (E.2.1 1, 4, .inl f_caseMany)), (m_happen, .inl (E.2.1 1, 4, .inl f_happen)), (m_hasIf, .inl (E.2.1 3, 16, .inl f_hasIf)), (m_becomes, .inl (E.2.1 1, 16, .inl f_becomes)), (m_goneOf, .inl (E.2.1 1, 16, .inl f_goneOf)), (m_heard, .inl (E.2.1 1, 64, .inl f_heard)), (m_actMany, .inl (E.2.1 1, 25, .inl f_actMany)), (m_actOf, .inl (E.2.1 1, 800, .inl f_actOf)), (m_whom, .inl (E.2.1 1, 800, .inl f_whom)), (m_afters, .inl (E.2.1 1, 9, .inl f_afters)), (m_afterOf, .inl (E.2.1 1, 18, .inl f_afterOf))] (Qi E (fun (rz : Int32) uz => (∃ (f_manysz : Nat → Int32) (f_realsz : Nat → Int32) (f_factsOfz : Nat → Int32) (f_possiblez : Nat → Int32) (f_pairsz : Nat → Int32) (f_pilez : Nat → Int32), rz = 1 ∧ uz = [(hm, .inr (12, [.ref m_manys, .ref m_reals, .ref m_factsOf, .ref m_possible, .int (nI q_undos), .int (nI q_models), .ref m_tape, .int (nI q_taped), .int q_fault, .int q_wrong, .int q_wrongAt, .int q_spot, .int q_place, .int q_token, .int q_value, .ref m_ends, .ref m_letters, .ref m_actOf, .ref m_whom, .ref m_actMany, .ref m_tokens, .ref m_afters, .ref m_afterOf, .int q_counted, .ref m_pile, .ref m_caseMany, .ref m_happen, .ref m_hasIf, .ref m_becomes, .ref m_goneOf, .ref m_heard, .ref m_pairs, .ref m_heaps, .int q_rounds, .int q_heapMany, .ref m_led, .ref m_newAt, .ref m_knowing, .ref m_firsts, .int (nI q_people), .ref m_secrets, .ref m_tried, .ref m_lanes, .ref m_lengths, .ref m_cells])), (m_manys, .inl (E.2.1 1, 18, .inl f_manysz)), (m_reals, .inl (E.2.1 1, 18, .inl f_realsz)), (m_factsOf, .inl (E.2.1 1, 432, .inl f_factsOfz)), (m_possible, .inl (E.2.1 1, 1728, .inl f_possiblez)), (m_pairs, .inl (E.2.1 1, 576, .inl f_pairsz)), (m_pile, .inl (E.2.1 1, 34, .inl f_pilez)), (m_caseMany, .inl (E.2.1 1, 4, .inl f_caseMany)), (m_happen, .inl (E.2.1 1, 4, .inl f_happen)), (m_hasIf, .inl (E.2.1 3, 16, .inl f_hasIf)), (m_becomes, .inl (E.2.1 1, 16, .inl f_becomes)), (m_goneOf, .inl (E.2.1 1, 16, .inl f_goneOf)), (m_heard, .inl (E.2.1 1, 64, .inl f_heard)), (m_actMany, .inl (E.2.1 1, 25, .inl f_actMany)), (m_actOf, .inl (E.2.1 1, 800, .inl f_actOf)), (m_whom, .inl (E.2.1 1, 800, .inl f_whom)), (m_afters, .inl (E.2.1 1, 9, .inl f_afters)), (m_afterOf, .inl (E.2.1 1, 18, .inl f_afterOf))] ∧ (NB 18 24 f_manysz) ∧ (NB 18 23 f_realsz) ∧ (PG f_manysz f_realsz)) ∨ (∃ (f_manysz : Nat → Int32) (f_realsz : Nat → Int32) (f_factsOfz : Nat → Int32) (f_possiblez : Nat → Int32) (f_pairsz : Nat → Int32) (f_pilez : Nat → Int32), rz = 0 ∧ uz = [(hm, .inr (12, [.ref m_manys, .ref m_reals, .ref m_factsOf, .ref m_possible, .int (nI q_undos), .int (nI q_models), .ref m_tape, .int (nI q_taped), .int q_fault, .int q_wrong, .int q_wrongAt, .int q_spot, .int q_place, .int q_token, .int q_value, .ref m_ends, .ref m_letters, .ref m_actOf, .ref m_whom, .ref m_actMany, .ref m_tokens, .ref m_afters, .ref m_afterOf, .int q_counted, .ref m_pile, .ref m_caseMany, .ref m_happen, .ref m_hasIf, .ref m_becomes, .ref m_goneOf, .ref m_heard, .ref m_pairs, .ref m_heaps, .int q_rounds, .int q_heapMany, .ref m_led, .ref m_newAt, .ref m_knowing, .ref m_firsts, .int (nI q_people), .ref m_secrets, .ref m_tried, .ref m_lanes, .ref m_lengths, .ref m_cells])), (m_manys, .inl (E.2.1 1, 18, .inl f_manysz)), (m_reals, .inl (E.2.1 1, 18, .inl f_realsz)), (m_factsOf, .inl (E.2.1 1, 432, .inl f_factsOfz)), (m_possible, .inl (E.2.1 1, 1728, .inl f_possiblez)), (m_pairs, .inl (E.2.1 1, 576, .inl f_pairsz)), (m_pile, .inl (E.2.1 1, 34, .inl f_pilez)), (m_caseMany, .inl (E.2.1 1, 4, .inl f_caseMany)), (m_happen, .inl (E.2.1 1, 4, .inl f_happen)), (m_hasIf, .inl (E.2.1 3, 16, .inl f_hasIf)), (m_becomes, .inl (E.2.1 1, 16, .inl f_becomes)), (m_goneOf, .inl (E.2.1 1, 16, .inl f_goneOf)), (m_heard, .inl (E.2.1 1, 64, .inl f_heard)), (m_actMany, .inl (E.2.1 1, 25, .inl f_actMany)), (m_actOf, .inl (E.2.1 1, 800, .inl f_actOf)), (m_whom, .inl (E.2.1 1, 800, .inl f_whom)), (m_afters, .inl (E.2.1 1, 9, .inl f_afters)), (m_afterOf, .inl (E.2.1 1, 18, .inl f_afterOf))] ∧ (NB 18 24 f_manysz) ∧ (NB 18 23 f_realsz) ∧ (PG f_manysz f_realsz)))) 0 0 := by
  refine ct_of rfl rfl ?_
  intro X C hT hin hro
  show WW X 8 E 0 [(0, .ref hm), (1, .int row), (2, .int (nI n)), (3, .int (nI am)), (4, .int (-4))] [] [(hm, .inr (12, [.ref m_manys, .ref m_reals, .ref m_factsOf, .ref m_possible, .int (nI q_undos), .int (nI q_models), .ref m_tape, .int (nI q_taped), .int q_fault, .int q_wrong, .int q_wrongAt, .int q_spot, .int q_place, .int q_token, .int q_value, .ref m_ends, .ref m_letters, .ref m_actOf, .ref m_whom, .ref m_actMany, .ref m_tokens, .ref m_afters, .ref m_afterOf, .int q_counted, .ref m_pile, .ref m_caseMany, .ref m_happen, .ref m_hasIf, .ref m_becomes, .ref m_goneOf, .ref m_heard, .ref m_pairs, .ref m_heaps, .int q_rounds, .int q_heapMany, .ref m_led, .ref m_newAt, .ref m_knowing, .ref m_firsts, .int (nI q_people), .ref m_secrets, .ref m_tried, .ref m_lanes, .ref m_lengths, .ref m_cells])), (m_manys, .inl (E.2.1 1, 18, .inl f_manys)), (m_reals, .inl (E.2.1 1, 18, .inl f_reals)), (m_factsOf, .inl (E.2.1 1, 432, .inl f_factsOf)), (m_possible, .inl (E.2.1 1, 1728, .inl f_possible)), (m_pairs, .inl (E.2.1 1, 576, .inl f_pairs)), (m_pile, .inl (E.2.1 1, 34, .inl f_pile)), (m_caseMany, .inl (E.2.1 1, 4, .inl f_caseMany)), (m_happen, .inl (E.2.1 1, 4, .inl f_happen)), (m_hasIf, .inl (E.2.1 3, 16, .inl f_hasIf)), (m_becomes, .inl (E.2.1 1, 16, .inl f_becomes)), (m_goneOf, .inl (E.2.1 1, 16, .inl f_goneOf)), (m_heard, .inl (E.2.1 1, 64, .inl f_heard)), (m_actMany, .inl (E.2.1 1, 25, .inl f_actMany)), (m_actOf, .inl (E.2.1 1, 800, .inl f_actOf)), (m_whom, .inl (E.2.1 1, 800, .inl f_whom)), (m_afters, .inl (E.2.1 1, 9, .inl f_afters)), (m_afterOf, .inl (E.2.1 1, 18, .inl f_afterOf))] 0 0
  have hmn0 := (hb_manys 0 (by omega)).2
  refine ww_iload C dX12_goes_0 4 rfl ?_
  refine ww_bipush (v := (-4)) C dX12_goes_2 rfl ?_
  refine ww_icmp_eq_t (tgt := 17) C dX12_goes_4 (by decide) (rfl) ?_
  refine ww_iconst (v := 1) C dX12_goes_17 rfl ?_
  refine ww_goto (tgt := 22) C dX12_goes_18 (by decide) ?_
  refine ww_istore (lv' := [(5, .int 1), (0, .ref hm), (1, .int row), (2, .int (nI n)), (3, .int (nI am)), (4, .int (-4))]) C dX12_goes_22 rfl rfl ?_
  refine ww_iconst (v := 0) C dX12_goes_24 rfl ?_
  refine ww_istore (lv' := [(6, .int 0), (5, .int 1), (0, .ref hm), (1, .int row), (2, .int (nI n)), (3, .int (nI am)), (4, .int (-4))]) C dX12_goes_25 rfl rfl ?_
  have loop_27 : ∀ (fu : Nat) (k1 : Nat) (ca : Nat) (gt_manys : Nat → Int32) (gt_reals : Nat → Int32) (gt_factsOf : Nat → Int32) (gt_possible : Nat → Int32) (gt_pairs : Nat → Int32) (gt_pile : Nat → Int32), (k1 ≤ n) → (ca ≤ 1) → (NB 18 24 gt_manys) → (NB 18 23 gt_reals) → (PG gt_manys gt_reals) → n - k1 < fu → WW X 8 E 27 [(6, .int (nI k1)), (5, .int (nI ca)), (0, .ref hm), (1, .int row), (2, .int (nI n)), (3, .int (nI am)), (4, .int (-4))] [] [(hm, .inr (12, [.ref m_manys, .ref m_reals, .ref m_factsOf, .ref m_possible, .int (nI q_undos), .int (nI q_models), .ref m_tape, .int (nI q_taped), .int q_fault, .int q_wrong, .int q_wrongAt, .int q_spot, .int q_place, .int q_token, .int q_value, .ref m_ends, .ref m_letters, .ref m_actOf, .ref m_whom, .ref m_actMany, .ref m_tokens, .ref m_afters, .ref m_afterOf, .int q_counted, .ref m_pile, .ref m_caseMany, .ref m_happen, .ref m_hasIf, .ref m_becomes, .ref m_goneOf, .ref m_heard, .ref m_pairs, .ref m_heaps, .int q_rounds, .int q_heapMany, .ref m_led, .ref m_newAt, .ref m_knowing, .ref m_firsts, .int (nI q_people), .ref m_secrets, .ref m_tried, .ref m_lanes, .ref m_lengths, .ref m_cells])), (m_manys, .inl (E.2.1 1, 18, .inl gt_manys)), (m_reals, .inl (E.2.1 1, 18, .inl gt_reals)), (m_factsOf, .inl (E.2.1 1, 432, .inl gt_factsOf)), (m_possible, .inl (E.2.1 1, 1728, .inl gt_possible)), (m_pairs, .inl (E.2.1 1, 576, .inl gt_pairs)), (m_pile, .inl (E.2.1 1, 34, .inl gt_pile)), (m_caseMany, .inl (E.2.1 1, 4, .inl f_caseMany)), (m_happen, .inl (E.2.1 1, 4, .inl f_happen)), (m_hasIf, .inl (E.2.1 3, 16, .inl f_hasIf)), (m_becomes, .inl (E.2.1 1, 16, .inl f_becomes)), (m_goneOf, .inl (E.2.1 1, 16, .inl f_goneOf)), (m_heard, .inl (E.2.1 1, 64, .inl f_heard)), (m_actMany, .inl (E.2.1 1, 25, .inl f_actMany)), (m_actOf, .inl (E.2.1 1, 800, .inl f_actOf)), (m_whom, .inl (E.2.1 1, 800, .inl f_whom)), (m_afters, .inl (E.2.1 1, 9, .inl f_afters)), (m_afterOf, .inl (E.2.1 1, 18, .inl f_afterOf))] 0 0 := by
    intro fu
    induction fu with
    | zero => intro k1 ca gt_manys gt_reals gt_factsOf gt_possible gt_pairs gt_pile hk1 hca hnb_m_manys_27 hnb_m_reals_27 hpg_27 hmeas; exact absurd hmeas (Nat.not_lt_zero _)
    | succ fu ih_27 =>
      intro k1 ca gt_manys gt_reals gt_factsOf gt_possible gt_pairs gt_pile hk1 hca hnb_m_manys_27 hnb_m_reals_27 hpg_27 hmeas
      refine ww_iload C dX12_goes_27 0 rfl ?_
      refine ww_iload_n C dX12_goes_29 4 rfl rfl ?_
      refine ww_icmp_ge (tgt := 129) C dX12_goes_30 (by decide) (fun c_1 => ?_) (fun c_1 => ?_)
      · have zc_1 : ((k1 : Nat) : Int) ≥ ((n : Nat) : Int) := i_le (nI_toInt (n := n) (by omega)) (nI_toInt (n := k1) (by omega)) c_1
        refine ww_iload C dX12_goes_129 1 rfl ?_
        refine ww_if_eq (tgt := 147) C dX12_goes_131 (by decide) (fun c_2 => ?_) (fun c_2 => ?_)
        · have zc_2 : ((ca : Nat) : Int) = 0 := i_eq (nI_toInt (n := ca) (by omega)) rfl c_2
          refine ww_iconst (v := 0) C dX12_goes_147 rfl ?_
          exact ww_zret (u := [(hm, .inr (12, [.ref m_manys, .ref m_reals, .ref m_factsOf, .ref m_possible, .int (nI q_undos), .int (nI q_models), .ref m_tape, .int (nI q_taped), .int q_fault, .int q_wrong, .int q_wrongAt, .int q_spot, .int q_place, .int q_token, .int q_value, .ref m_ends, .ref m_letters, .ref m_actOf, .ref m_whom, .ref m_actMany, .ref m_tokens, .ref m_afters, .ref m_afterOf, .int q_counted, .ref m_pile, .ref m_caseMany, .ref m_happen, .ref m_hasIf, .ref m_becomes, .ref m_goneOf, .ref m_heard, .ref m_pairs, .ref m_heaps, .int q_rounds, .int q_heapMany, .ref m_led, .ref m_newAt, .ref m_knowing, .ref m_firsts, .int (nI q_people), .ref m_secrets, .ref m_tried, .ref m_lanes, .ref m_lengths, .ref m_cells])), (m_manys, .inl (E.2.1 1, 18, .inl gt_manys)), (m_reals, .inl (E.2.1 1, 18, .inl gt_reals)), (m_factsOf, .inl (E.2.1 1, 432, .inl gt_factsOf)), (m_possible, .inl (E.2.1 1, 1728, .inl gt_possible)), (m_pairs, .inl (E.2.1 1, 576, .inl gt_pairs)), (m_pile, .inl (E.2.1 1, 34, .inl gt_pile)), (m_caseMany, .inl (E.2.1 1, 4, .inl f_caseMany)), (m_happen, .inl (E.2.1 1, 4, .inl f_happen)), (m_hasIf, .inl (E.2.1 3, 16, .inl f_hasIf)), (m_becomes, .inl (E.2.1 1, 16, .inl f_becomes)), (m_goneOf, .inl (E.2.1 1, 16, .inl f_goneOf)), (m_heard, .inl (E.2.1 1, 64, .inl f_heard)), (m_actMany, .inl (E.2.1 1, 25, .inl f_actMany)), (m_actOf, .inl (E.2.1 1, 800, .inl f_actOf)), (m_whom, .inl (E.2.1 1, 800, .inl f_whom)), (m_afters, .inl (E.2.1 1, 9, .inl f_afters)), (m_afterOf, .inl (E.2.1 1, 18, .inl f_afterOf))]) C hT [0, 1, 2, 3, 4, 5, 6, 7, 8, 9, 10, 11, 12, 13, 14, 15, 16, 17] rfl rfl rfl rfl rfl dX12_goes_148 (Or.inr ⟨gt_manys, gt_reals, gt_factsOf, gt_possible, gt_pairs, gt_pile, rfl, rfl, hnb_m_manys_27, hnb_m_reals_27, hpg_27⟩)
        · have zc_2 : ((ca : Nat) : Int) ≠ 0 := i_ne (nI_toInt (n := ca) (by omega)) rfl c_2
          refine ww_aload_n C dX12_goes_134 2 rfl rfl ?_
          refine ww_iload_n C dX12_goes_135 5 rfl rfl ?_
          refine ww_iload_n C dX12_goes_136 4 rfl rfl ?_
          refine ww_ci (wr := []) (k' := 0) (n' := 0) C (run_V (As := [.int (nI am), .int (nI n)]) (rest := []) C (r_isTrue X.2.1 E ro hm am n m_manys m_reals m_factsOf m_possible q_undos q_models m_tape q_taped q_fault q_wrong q_wrongAt q_spot q_place q_token q_value m_ends m_letters m_actOf m_whom m_actMany m_tokens m_afters m_afterOf q_counted m_pile m_caseMany m_happen m_hasIf m_becomes m_goneOf m_heard m_pairs m_heaps q_rounds q_heapMany m_led m_newAt m_knowing m_firsts q_people m_secrets m_tried m_lanes m_lengths m_cells gt_manys gt_reals gt_factsOf gt_possible gt_pairs gt_pile f_caseMany f_happen f_hasIf f_becomes f_goneOf f_heard f_actMany f_actOf f_whom f_afters f_afterOf hnb_m_manys_27 hnb_m_reals_27 hpg_27 hb_caseMany hb_happen hb_actMany hhp hsv hb_afters hb_afterOf (by omega) (by omega)) mi_X12_isTrue wl_X12_276 rfl 0 12 rfl rfl rfl rfl rfl dX12_goes_137) (roK hro) [0, 1, 2, 3, 4, 5, 6, 7, 8, 9, 10, 11, 12, 13, 14, 15, 16, 17] [] rfl rfl rfl rfl (fun r_3 uz hw => ?_)
          rcases hw with hw | hw
          · refine ex6 hw ?_
            clear hw
            intro f_manysz_4 f_realsz_5 f_factsOfz_6 f_possiblez_7 f_pairsz_8 f_pilez_9 hw
            refine an6 hw ?_
            clear hw
            intro he_15 he_16 h_10 h_11 h_12 h_13 hw
            have h_14 := hw
            clear hw
            have he_15 := he_15.symm
            subst he_15
            subst he_16
            refine ww_eq (ws' := [(hm, .inr (12, [.ref m_manys, .ref m_reals, .ref m_factsOf, .ref m_possible, .int (nI q_undos), .int (nI q_models), .ref m_tape, .int (nI q_taped), .int q_fault, .int q_wrong, .int q_wrongAt, .int q_spot, .int q_place, .int q_token, .int q_value, .ref m_ends, .ref m_letters, .ref m_actOf, .ref m_whom, .ref m_actMany, .ref m_tokens, .ref m_afters, .ref m_afterOf, .int q_counted, .ref m_pile, .ref m_caseMany, .ref m_happen, .ref m_hasIf, .ref m_becomes, .ref m_goneOf, .ref m_heard, .ref m_pairs, .ref m_heaps, .int q_rounds, .int q_heapMany, .ref m_led, .ref m_newAt, .ref m_knowing, .ref m_firsts, .int (nI q_people), .ref m_secrets, .ref m_tried, .ref m_lanes, .ref m_lengths, .ref m_cells])), (m_manys, .inl (E.2.1 1, 18, .inl f_manysz_4)), (m_reals, .inl (E.2.1 1, 18, .inl f_realsz_5)), (m_factsOf, .inl (E.2.1 1, 432, .inl f_factsOfz_6)), (m_possible, .inl (E.2.1 1, 1728, .inl f_possiblez_7)), (m_pairs, .inl (E.2.1 1, 576, .inl f_pairsz_8)), (m_pile, .inl (E.2.1 1, 34, .inl f_pilez_9)), (m_caseMany, .inl (E.2.1 1, 4, .inl f_caseMany)), (m_happen, .inl (E.2.1 1, 4, .inl f_happen)), (m_hasIf, .inl (E.2.1 3, 16, .inl f_hasIf)), (m_becomes, .inl (E.2.1 1, 16, .inl f_becomes)), (m_goneOf, .inl (E.2.1 1, 16, .inl f_goneOf)), (m_heard, .inl (E.2.1 1, 64, .inl f_heard)), (m_actMany, .inl (E.2.1 1, 25, .inl f_actMany)), (m_actOf, .inl (E.2.1 1, 800, .inl f_actOf)), (m_whom, .inl (E.2.1 1, 800, .inl f_whom)), (m_afters, .inl (E.2.1 1, 9, .inl f_afters)), (m_afterOf, .inl (E.2.1 1, 18, .inl f_afterOf))]) ?_ rfl rfl rfl
            refine ww_if_eq_f (tgt := 147) C dX12_goes_140 (by decide) (by decide) ?_
            refine ww_iconst (v := 1) C dX12_goes_143 rfl ?_
            refine ww_goto (tgt := 148) C dX12_goes_144 (by decide) ?_
            exact ww_zret (u := [(hm, .inr (12, [.ref m_manys, .ref m_reals, .ref m_factsOf, .ref m_possible, .int (nI q_undos), .int (nI q_models), .ref m_tape, .int (nI q_taped), .int q_fault, .int q_wrong, .int q_wrongAt, .int q_spot, .int q_place, .int q_token, .int q_value, .ref m_ends, .ref m_letters, .ref m_actOf, .ref m_whom, .ref m_actMany, .ref m_tokens, .ref m_afters, .ref m_afterOf, .int q_counted, .ref m_pile, .ref m_caseMany, .ref m_happen, .ref m_hasIf, .ref m_becomes, .ref m_goneOf, .ref m_heard, .ref m_pairs, .ref m_heaps, .int q_rounds, .int q_heapMany, .ref m_led, .ref m_newAt, .ref m_knowing, .ref m_firsts, .int (nI q_people), .ref m_secrets, .ref m_tried, .ref m_lanes, .ref m_lengths, .ref m_cells])), (m_manys, .inl (E.2.1 1, 18, .inl f_manysz_4)), (m_reals, .inl (E.2.1 1, 18, .inl f_realsz_5)), (m_factsOf, .inl (E.2.1 1, 432, .inl f_factsOfz_6)), (m_possible, .inl (E.2.1 1, 1728, .inl f_possiblez_7)), (m_pairs, .inl (E.2.1 1, 576, .inl f_pairsz_8)), (m_pile, .inl (E.2.1 1, 34, .inl f_pilez_9)), (m_caseMany, .inl (E.2.1 1, 4, .inl f_caseMany)), (m_happen, .inl (E.2.1 1, 4, .inl f_happen)), (m_hasIf, .inl (E.2.1 3, 16, .inl f_hasIf)), (m_becomes, .inl (E.2.1 1, 16, .inl f_becomes)), (m_goneOf, .inl (E.2.1 1, 16, .inl f_goneOf)), (m_heard, .inl (E.2.1 1, 64, .inl f_heard)), (m_actMany, .inl (E.2.1 1, 25, .inl f_actMany)), (m_actOf, .inl (E.2.1 1, 800, .inl f_actOf)), (m_whom, .inl (E.2.1 1, 800, .inl f_whom)), (m_afters, .inl (E.2.1 1, 9, .inl f_afters)), (m_afterOf, .inl (E.2.1 1, 18, .inl f_afterOf))]) C hT [0, 1, 2, 3, 4, 5, 6, 7, 8, 9, 10, 11, 12, 13, 14, 15, 16, 17] rfl rfl rfl rfl rfl dX12_goes_148 (Or.inl ⟨f_manysz_4, f_realsz_5, f_factsOfz_6, f_possiblez_7, f_pairsz_8, f_pilez_9, rfl, rfl, h_10, h_11, h_12⟩)
          · refine ex6 hw ?_
            clear hw
            intro f_manysz_17 f_realsz_18 f_factsOfz_19 f_possiblez_20 f_pairsz_21 f_pilez_22 hw
            refine an6 hw ?_
            clear hw
            intro he_28 he_29 h_23 h_24 h_25 h_26 hw
            have h_27 := hw
            clear hw
            have he_28 := he_28.symm
            subst he_28
            subst he_29
            refine ww_eq (ws' := [(hm, .inr (12, [.ref m_manys, .ref m_reals, .ref m_factsOf, .ref m_possible, .int (nI q_undos), .int (nI q_models), .ref m_tape, .int (nI q_taped), .int q_fault, .int q_wrong, .int q_wrongAt, .int q_spot, .int q_place, .int q_token, .int q_value, .ref m_ends, .ref m_letters, .ref m_actOf, .ref m_whom, .ref m_actMany, .ref m_tokens, .ref m_afters, .ref m_afterOf, .int q_counted, .ref m_pile, .ref m_caseMany, .ref m_happen, .ref m_hasIf, .ref m_becomes, .ref m_goneOf, .ref m_heard, .ref m_pairs, .ref m_heaps, .int q_rounds, .int q_heapMany, .ref m_led, .ref m_newAt, .ref m_knowing, .ref m_firsts, .int (nI q_people), .ref m_secrets, .ref m_tried, .ref m_lanes, .ref m_lengths, .ref m_cells])), (m_manys, .inl (E.2.1 1, 18, .inl f_manysz_17)), (m_reals, .inl (E.2.1 1, 18, .inl f_realsz_18)), (m_factsOf, .inl (E.2.1 1, 432, .inl f_factsOfz_19)), (m_possible, .inl (E.2.1 1, 1728, .inl f_possiblez_20)), (m_pairs, .inl (E.2.1 1, 576, .inl f_pairsz_21)), (m_pile, .inl (E.2.1 1, 34, .inl f_pilez_22)), (m_caseMany, .inl (E.2.1 1, 4, .inl f_caseMany)), (m_happen, .inl (E.2.1 1, 4, .inl f_happen)), (m_hasIf, .inl (E.2.1 3, 16, .inl f_hasIf)), (m_becomes, .inl (E.2.1 1, 16, .inl f_becomes)), (m_goneOf, .inl (E.2.1 1, 16, .inl f_goneOf)), (m_heard, .inl (E.2.1 1, 64, .inl f_heard)), (m_actMany, .inl (E.2.1 1, 25, .inl f_actMany)), (m_actOf, .inl (E.2.1 1, 800, .inl f_actOf)), (m_whom, .inl (E.2.1 1, 800, .inl f_whom)), (m_afters, .inl (E.2.1 1, 9, .inl f_afters)), (m_afterOf, .inl (E.2.1 1, 18, .inl f_afterOf))]) ?_ rfl rfl rfl
            refine ww_if_eq_t (tgt := 147) C dX12_goes_140 (by decide) (rfl) ?_
            refine ww_iconst (v := 0) C dX12_goes_147 rfl ?_
            exact ww_zret (u := [(hm, .inr (12, [.ref m_manys, .ref m_reals, .ref m_factsOf, .ref m_possible, .int (nI q_undos), .int (nI q_models), .ref m_tape, .int (nI q_taped), .int q_fault, .int q_wrong, .int q_wrongAt, .int q_spot, .int q_place, .int q_token, .int q_value, .ref m_ends, .ref m_letters, .ref m_actOf, .ref m_whom, .ref m_actMany, .ref m_tokens, .ref m_afters, .ref m_afterOf, .int q_counted, .ref m_pile, .ref m_caseMany, .ref m_happen, .ref m_hasIf, .ref m_becomes, .ref m_goneOf, .ref m_heard, .ref m_pairs, .ref m_heaps, .int q_rounds, .int q_heapMany, .ref m_led, .ref m_newAt, .ref m_knowing, .ref m_firsts, .int (nI q_people), .ref m_secrets, .ref m_tried, .ref m_lanes, .ref m_lengths, .ref m_cells])), (m_manys, .inl (E.2.1 1, 18, .inl f_manysz_17)), (m_reals, .inl (E.2.1 1, 18, .inl f_realsz_18)), (m_factsOf, .inl (E.2.1 1, 432, .inl f_factsOfz_19)), (m_possible, .inl (E.2.1 1, 1728, .inl f_possiblez_20)), (m_pairs, .inl (E.2.1 1, 576, .inl f_pairsz_21)), (m_pile, .inl (E.2.1 1, 34, .inl f_pilez_22)), (m_caseMany, .inl (E.2.1 1, 4, .inl f_caseMany)), (m_happen, .inl (E.2.1 1, 4, .inl f_happen)), (m_hasIf, .inl (E.2.1 3, 16, .inl f_hasIf)), (m_becomes, .inl (E.2.1 1, 16, .inl f_becomes)), (m_goneOf, .inl (E.2.1 1, 16, .inl f_goneOf)), (m_heard, .inl (E.2.1 1, 64, .inl f_heard)), (m_actMany, .inl (E.2.1 1, 25, .inl f_actMany)), (m_actOf, .inl (E.2.1 1, 800, .inl f_actOf)), (m_whom, .inl (E.2.1 1, 800, .inl f_whom)), (m_afters, .inl (E.2.1 1, 9, .inl f_afters)), (m_afterOf, .inl (E.2.1 1, 18, .inl f_afterOf))]) C hT [0, 1, 2, 3, 4, 5, 6, 7, 8, 9, 10, 11, 12, 13, 14, 15, 16, 17] rfl rfl rfl rfl rfl dX12_goes_148 (Or.inr ⟨f_manysz_17, f_realsz_18, f_factsOfz_19, f_possiblez_20, f_pairsz_21, f_pilez_22, rfl, rfl, h_23, h_24, h_25⟩)
      · have zc_1 : ((k1 : Nat) : Int) < ((n : Nat) : Int) := i_nle (nI_toInt (n := n) (by omega)) (nI_toInt (n := k1) (by omega)) c_1
        refine ww_iload C dX12_goes_33 1 rfl ?_
        refine ww_if_eq (tgt := 129) C dX12_goes_35 (by decide) (fun c_30 => ?_) (fun c_30 => ?_)
        · have zc_30 : ((ca : Nat) : Int) = 0 := i_eq (nI_toInt (n := ca) (by omega)) rfl c_30
          refine ww_iload C dX12_goes_129 1 rfl ?_
          refine ww_if_eq (tgt := 147) C dX12_goes_131 (by decide) (fun c_31 => ?_) (fun c_31 => ?_)
          · have zc_31 : ((ca : Nat) : Int) = 0 := i_eq (nI_toInt (n := ca) (by omega)) rfl c_31
            refine ww_iconst (v := 0) C dX12_goes_147 rfl ?_
            exact ww_zret (u := [(hm, .inr (12, [.ref m_manys, .ref m_reals, .ref m_factsOf, .ref m_possible, .int (nI q_undos), .int (nI q_models), .ref m_tape, .int (nI q_taped), .int q_fault, .int q_wrong, .int q_wrongAt, .int q_spot, .int q_place, .int q_token, .int q_value, .ref m_ends, .ref m_letters, .ref m_actOf, .ref m_whom, .ref m_actMany, .ref m_tokens, .ref m_afters, .ref m_afterOf, .int q_counted, .ref m_pile, .ref m_caseMany, .ref m_happen, .ref m_hasIf, .ref m_becomes, .ref m_goneOf, .ref m_heard, .ref m_pairs, .ref m_heaps, .int q_rounds, .int q_heapMany, .ref m_led, .ref m_newAt, .ref m_knowing, .ref m_firsts, .int (nI q_people), .ref m_secrets, .ref m_tried, .ref m_lanes, .ref m_lengths, .ref m_cells])), (m_manys, .inl (E.2.1 1, 18, .inl gt_manys)), (m_reals, .inl (E.2.1 1, 18, .inl gt_reals)), (m_factsOf, .inl (E.2.1 1, 432, .inl gt_factsOf)), (m_possible, .inl (E.2.1 1, 1728, .inl gt_possible)), (m_pairs, .inl (E.2.1 1, 576, .inl gt_pairs)), (m_pile, .inl (E.2.1 1, 34, .inl gt_pile)), (m_caseMany, .inl (E.2.1 1, 4, .inl f_caseMany)), (m_happen, .inl (E.2.1 1, 4, .inl f_happen)), (m_hasIf, .inl (E.2.1 3, 16, .inl f_hasIf)), (m_becomes, .inl (E.2.1 1, 16, .inl f_becomes)), (m_goneOf, .inl (E.2.1 1, 16, .inl f_goneOf)), (m_heard, .inl (E.2.1 1, 64, .inl f_heard)), (m_actMany, .inl (E.2.1 1, 25, .inl f_actMany)), (m_actOf, .inl (E.2.1 1, 800, .inl f_actOf)), (m_whom, .inl (E.2.1 1, 800, .inl f_whom)), (m_afters, .inl (E.2.1 1, 9, .inl f_afters)), (m_afterOf, .inl (E.2.1 1, 18, .inl f_afterOf))]) C hT [0, 1, 2, 3, 4, 5, 6, 7, 8, 9, 10, 11, 12, 13, 14, 15, 16, 17] rfl rfl rfl rfl rfl dX12_goes_148 (Or.inr ⟨gt_manys, gt_reals, gt_factsOf, gt_possible, gt_pairs, gt_pile, rfl, rfl, hnb_m_manys_27, hnb_m_reals_27, hpg_27⟩)
          · have zc_31 : ((ca : Nat) : Int) ≠ 0 := i_ne (nI_toInt (n := ca) (by omega)) rfl c_31
            omega
        · have zc_30 : ((ca : Nat) : Int) ≠ 0 := i_ne (nI_toInt (n := ca) (by omega)) rfl c_30
          refine ww_iload_n C dX12_goes_38 3 rfl rfl ?_
          refine ww_iconst (v := 2) C dX12_goes_39 rfl ?_
          refine ww_iload_n C dX12_goes_40 4 rfl rfl ?_
          refine ww_iconst (v := 1) C dX12_goes_41 rfl ?_
          refine ww_isub (v := (nI (n - 1))) C dX12_goes_42 (pk_sub (a := n) (b := 1) (by omega)) ?_
          refine ww_iload C dX12_goes_43 0 rfl ?_
          refine ww_isub (v := (nI ((n - 1) - k1))) C dX12_goes_45 (pk_sub (a := (n - 1)) (b := k1) (by omega)) ?_
          refine ww_imul (v := (nI (2 * ((n - 1) - k1)))) C dX12_goes_46 (pk_mul 2 ((n - 1) - k1)) ?_
          obtain ⟨x_32, ex_32⟩ : ∃ z : Int32, row >>> ((nI (2 * ((n - 1) - k1))) &&& 31) = z := ⟨_, rfl⟩
          refine ww_ishr (v := x_32) C dX12_goes_47 ex_32 ?_
          refine ww_iconst (v := 3) C dX12_goes_48 rfl ?_
          obtain ⟨j_33, hj_33, ej_33⟩ := pk_andE x_32 (m := 3) 2 rfl
          refine ww_iand (v := (nI j_33)) C dX12_goes_49 ej_33 ?_
          refine ww_istore (lv' := [(7, .int (nI j_33)), (6, .int (nI k1)), (5, .int (nI ca)), (0, .ref hm), (1, .int row), (2, .int (nI n)), (3, .int (nI am)), (4, .int (-4))]) C dX12_goes_50 rfl rfl ?_
          refine ww_aload_n C dX12_goes_52 3 rfl rfl ?_
          refine ww_get C fg_X12_52 0 rfl rfl dX12_goes_53 ?_
          refine ww_iload C dX12_goes_56 0 rfl ?_
          have hbx_34 := (hb_caseMany j_33 (by omega)).2
          refine ww_iald (v := (nI (cN f_caseMany j_33))) C 7 rfl (vp_in_nI (by omega) (by omega)) (ldn (by omega) (hb_caseMany j_33 (by omega)).1) dX12_goes_58 ?_
          refine ww_if_le (tgt := 88) C dX12_goes_59 (by decide) (fun c_35 => ?_) (fun c_35 => ?_)
          · have zc_35 : ((cN f_caseMany j_33 : Nat) : Int) ≤ 0 := i_le (nI_toInt (n := cN f_caseMany j_33) (by omega)) rfl c_35
            refine ww_iconst (v := 0) C dX12_goes_88 rfl ?_
            refine ww_istore (lv' := [(5, .int 0), (7, .int (nI j_33)), (6, .int (nI k1)), (0, .ref hm), (1, .int row), (2, .int (nI n)), (3, .int (nI am)), (4, .int (-4))]) C dX12_goes_89 rfl rfl ?_
            refine ww_iload C dX12_goes_91 0 rfl ?_
            refine ww_if_eq_t (tgt := 120) C dX12_goes_93 (by decide) (rfl) ?_
            refine ww_iconst (v := 0) C dX12_goes_120 rfl ?_
            refine ww_istore (lv' := [(5, .int 0), (7, .int (nI j_33)), (6, .int (nI k1)), (0, .ref hm), (1, .int row), (2, .int (nI n)), (3, .int (nI am)), (4, .int (-4))]) C dX12_goes_121 rfl rfl ?_
            refine ww_iinc (j := 2) (v := (nI (k1 + 1))) (lv' := [(6, .int (nI (k1 + 1))), (5, .int 0), (7, .int (nI j_33)), (0, .ref hm), (1, .int row), (2, .int (nI n)), (3, .int (nI am)), (4, .int (-4))]) C dX12_goes_123 rfl (nI_add k1 1) rfl rfl ?_
            refine ww_goto (tgt := 27) C dX12_goes_126 (by decide) ?_
            exact ww_lv [0, 1, 3, 4, 5, 6, 7] rfl (ww_sub [0, 1, 2, 3, 4, 5, 6, 7, 8, 9, 10, 11, 12, 13, 14, 15, 16, 17] rfl rfl (ih_27 (k1 + 1) 0 gt_manys gt_reals gt_factsOf gt_possible gt_pairs gt_pile (by omega) (by omega) hnb_m_manys_27 hnb_m_reals_27 hpg_27 (by omega)))
          · have zc_35 : ((cN f_caseMany j_33 : Nat) : Int) > 0 := i_nle (nI_toInt (n := cN f_caseMany j_33) (by omega)) rfl c_35
            refine ww_aload_n C dX12_goes_62 3 rfl rfl ?_
            refine ww_iload C dX12_goes_63 0 rfl ?_
            refine ww_iload C dX12_goes_65 1 rfl ?_
            refine ww_ci (wr := [(m_pairs, .inl (E.2.1 1, 576, .inl gt_pairs)), (m_afters, .inl (E.2.1 1, 9, .inl f_afters)), (m_afterOf, .inl (E.2.1 1, 18, .inl f_afterOf))]) (k' := 0) (n' := 0) C (run_V (As := [.int (nI j_33), .int (nI k1)]) (rest := []) C (r_canHappen X.2.1 E ro hm j_33 k1 m_manys m_reals m_factsOf m_possible q_undos q_models m_tape q_taped q_fault q_wrong q_wrongAt q_spot q_place q_token q_value m_ends m_letters m_actOf m_whom m_actMany m_tokens m_afters m_afterOf q_counted m_pile m_caseMany m_happen m_hasIf m_becomes m_goneOf m_heard m_pairs m_heaps q_rounds q_heapMany m_led m_newAt m_knowing m_firsts q_people m_secrets m_tried m_lanes m_lengths m_cells gt_manys gt_reals gt_factsOf gt_possible f_caseMany f_happen f_hasIf f_becomes f_goneOf f_heard f_actMany f_actOf f_whom gt_pile hnb_m_manys_27 hnb_m_reals_27 hb_caseMany hb_happen hb_actMany hpg_27 hhp hsv (by omega) (by omega)) mi_X12_canHappen wl_X12_279 rfl 0 12 rfl rfl rfl rfl rfl dX12_goes_67) (roK hro) [0, 1, 2, 3, 4, 7, 8, 9, 10, 11, 12, 13, 14, 15, 6] [5, 16, 17] rfl rfl rfl rfl (fun r_36 uz hw => ?_)
            rcases hw with hw | hw
            · refine ex1 hw ?_
              clear hw
              intro f_pilez_37 hw
              refine an1 hw ?_
              clear hw
              intro he_38 hw
              have he_39 := hw
              clear hw
              have he_38 := he_38.symm
              subst he_38
              subst he_39
              refine ww_eq (ws' := [(m_pairs, .inl (E.2.1 1, 576, .inl gt_pairs)), (m_afters, .inl (E.2.1 1, 9, .inl f_afters)), (m_afterOf, .inl (E.2.1 1, 18, .inl f_afterOf)), (hm, .inr (12, [.ref m_manys, .ref m_reals, .ref m_factsOf, .ref m_possible, .int (nI q_undos), .int (nI q_models), .ref m_tape, .int (nI q_taped), .int q_fault, .int q_wrong, .int q_wrongAt, .int q_spot, .int q_place, .int q_token, .int q_value, .ref m_ends, .ref m_letters, .ref m_actOf, .ref m_whom, .ref m_actMany, .ref m_tokens, .ref m_afters, .ref m_afterOf, .int q_counted, .ref m_pile, .ref m_caseMany, .ref m_happen, .ref m_hasIf, .ref m_becomes, .ref m_goneOf, .ref m_heard, .ref m_pairs, .ref m_heaps, .int q_rounds, .int q_heapMany, .ref m_led, .ref m_newAt, .ref m_knowing, .ref m_firsts, .int (nI q_people), .ref m_secrets, .ref m_tried, .ref m_lanes, .ref m_lengths, .ref m_cells])), (m_manys, .inl (E.2.1 1, 18, .inl gt_manys)), (m_reals, .inl (E.2.1 1, 18, .inl gt_reals)), (m_factsOf, .inl (E.2.1 1, 432, .inl gt_factsOf)), (m_possible, .inl (E.2.1 1, 1728, .inl gt_possible)), (m_caseMany, .inl (E.2.1 1, 4, .inl f_caseMany)), (m_happen, .inl (E.2.1 1, 4, .inl f_happen)), (m_hasIf, .inl (E.2.1 3, 16, .inl f_hasIf)), (m_becomes, .inl (E.2.1 1, 16, .inl f_becomes)), (m_goneOf, .inl (E.2.1 1, 16, .inl f_goneOf)), (m_heard, .inl (E.2.1 1, 64, .inl f_heard)), (m_actMany, .inl (E.2.1 1, 25, .inl f_actMany)), (m_actOf, .inl (E.2.1 1, 800, .inl f_actOf)), (m_whom, .inl (E.2.1 1, 800, .inl f_whom)), (m_pile, .inl (E.2.1 1, 34, .inl f_pilez_37))]) ?_ rfl rfl rfl
              refine ww_if_eq_f (tgt := 88) C dX12_goes_70 (by decide) (by decide) ?_
              refine ww_aload_n C dX12_goes_73 3 rfl rfl ?_
              refine ww_iload C dX12_goes_74 0 rfl ?_
              refine ww_iload C dX12_goes_76 1 rfl ?_
              refine ww_ci (wr := [(m_afters, .inl (E.2.1 1, 9, .inl f_afters)), (m_afterOf, .inl (E.2.1 1, 18, .inl f_afterOf))]) (k' := 0) (n' := 0) C (run_V (As := [.int (nI j_33), .int (nI k1)]) (rest := []) C (r_laid X.2.1 E ro hm j_33 k1 m_manys m_reals m_factsOf m_possible q_undos q_models m_tape q_taped q_fault q_wrong q_wrongAt q_spot q_place q_token q_value m_ends m_letters m_actOf m_whom m_actMany m_tokens m_afters m_afterOf q_counted m_pile m_caseMany m_happen m_hasIf m_becomes m_goneOf m_heard m_pairs m_heaps q_rounds q_heapMany m_led m_newAt m_knowing m_firsts q_people m_secrets m_tried m_lanes m_lengths m_cells gt_manys gt_reals gt_factsOf gt_possible gt_pairs f_pilez_37 f_caseMany f_happen f_hasIf f_becomes f_goneOf f_heard f_actMany f_actOf f_whom hnb_m_manys_27 hnb_m_reals_27 hpg_27 hb_caseMany hb_happen hb_actMany hhp hsv (by omega) (by omega) (by omega)) mi_X12_laid wl_X12_267 rfl 0 12 rfl rfl rfl rfl rfl dX12_goes_78) (roK hro) [3, 4, 5, 6, 7, 0, 17, 8, 9, 10, 11, 12, 13, 14, 15, 16] [1, 2] rfl rfl rfl rfl (fun r_43 uz hw => ?_)
              rcases hw with hw | hw
              · refine ex6 hw ?_
                clear hw
                intro f_manysz_44 f_realsz_45 f_factsOfz_46 f_possiblez_47 f_pairsz_48 f_pilez_49 hw
                refine an6 hw ?_
                clear hw
                intro he_55 he_56 h_50 h_51 h_52 h_53 hw
                have h_54 := hw
                clear hw
                have he_55 := he_55.symm
                subst he_55
                subst he_56
                refine ww_eq (ws' := [(m_afters, .inl (E.2.1 1, 9, .inl f_afters)), (m_afterOf, .inl (E.2.1 1, 18, .inl f_afterOf)), (hm, .inr (12, [.ref m_manys, .ref m_reals, .ref m_factsOf, .ref m_possible, .int (nI q_undos), .int (nI q_models), .ref m_tape, .int (nI q_taped), .int q_fault, .int q_wrong, .int q_wrongAt, .int q_spot, .int q_place, .int q_token, .int q_value, .ref m_ends, .ref m_letters, .ref m_actOf, .ref m_whom, .ref m_actMany, .ref m_tokens, .ref m_afters, .ref m_afterOf, .int q_counted, .ref m_pile, .ref m_caseMany, .ref m_happen, .ref m_hasIf, .ref m_becomes, .ref m_goneOf, .ref m_heard, .ref m_pairs, .ref m_heaps, .int q_rounds, .int q_heapMany, .ref m_led, .ref m_newAt, .ref m_knowing, .ref m_firsts, .int (nI q_people), .ref m_secrets, .ref m_tried, .ref m_lanes, .ref m_lengths, .ref m_cells])), (m_manys, .inl (E.2.1 1, 18, .inl f_manysz_44)), (m_reals, .inl (E.2.1 1, 18, .inl f_realsz_45)), (m_factsOf, .inl (E.2.1 1, 432, .inl f_factsOfz_46)), (m_possible, .inl (E.2.1 1, 1728, .inl f_possiblez_47)), (m_pairs, .inl (E.2.1 1, 576, .inl f_pairsz_48)), (m_pile, .inl (E.2.1 1, 34, .inl f_pilez_49)), (m_caseMany, .inl (E.2.1 1, 4, .inl f_caseMany)), (m_happen, .inl (E.2.1 1, 4, .inl f_happen)), (m_hasIf, .inl (E.2.1 3, 16, .inl f_hasIf)), (m_becomes, .inl (E.2.1 1, 16, .inl f_becomes)), (m_goneOf, .inl (E.2.1 1, 16, .inl f_goneOf)), (m_heard, .inl (E.2.1 1, 64, .inl f_heard)), (m_actMany, .inl (E.2.1 1, 25, .inl f_actMany)), (m_actOf, .inl (E.2.1 1, 800, .inl f_actOf)), (m_whom, .inl (E.2.1 1, 800, .inl f_whom))]) ?_ rfl rfl rfl
                refine ww_if_lt_t (tgt := 88) C dX12_goes_81 (by decide) (by decide) ?_
                refine ww_iconst (v := 0) C dX12_goes_88 rfl ?_
                refine ww_istore (lv' := [(5, .int 0), (7, .int (nI j_33)), (6, .int (nI k1)), (0, .ref hm), (1, .int row), (2, .int (nI n)), (3, .int (nI am)), (4, .int (-4))]) C dX12_goes_89 rfl rfl ?_
                refine ww_iload C dX12_goes_91 0 rfl ?_
                refine ww_if_eq_t (tgt := 120) C dX12_goes_93 (by decide) (rfl) ?_
                refine ww_iconst (v := 0) C dX12_goes_120 rfl ?_
                refine ww_istore (lv' := [(5, .int 0), (7, .int (nI j_33)), (6, .int (nI k1)), (0, .ref hm), (1, .int row), (2, .int (nI n)), (3, .int (nI am)), (4, .int (-4))]) C dX12_goes_121 rfl rfl ?_
                refine ww_iinc (j := 2) (v := (nI (k1 + 1))) (lv' := [(6, .int (nI (k1 + 1))), (5, .int 0), (7, .int (nI j_33)), (0, .ref hm), (1, .int row), (2, .int (nI n)), (3, .int (nI am)), (4, .int (-4))]) C dX12_goes_123 rfl (nI_add k1 1) rfl rfl ?_
                refine ww_goto (tgt := 27) C dX12_goes_126 (by decide) ?_
                exact ww_lv [0, 1, 3, 4, 5, 6, 7] rfl (ww_sub [2, 3, 4, 5, 6, 7, 8, 9, 10, 11, 12, 13, 14, 15, 16, 17, 0, 1] rfl rfl (ih_27 (k1 + 1) 0 f_manysz_44 f_realsz_45 f_factsOfz_46 f_possiblez_47 f_pairsz_48 f_pilez_49 (by omega) (by omega) h_50 h_51 h_52 (by omega)))
              · refine ex7 hw ?_
                clear hw
                intro mz_57 f_manysz_58 f_realsz_59 f_factsOfz_60 f_possiblez_61 f_pairsz_62 f_pilez_63 hw
                refine an7 hw ?_
                clear hw
                intro he_70 he_71 h_64 h_65 h_66 h_67 h_68 hw
                have h_69 := hw
                clear hw
                have he_70 := he_70.symm
                subst he_70
                subst he_71
                refine ww_eq (ws' := [(m_afters, .inl (E.2.1 1, 9, .inl f_afters)), (m_afterOf, .inl (E.2.1 1, 18, .inl f_afterOf)), (hm, .inr (12, [.ref m_manys, .ref m_reals, .ref m_factsOf, .ref m_possible, .int (nI q_undos), .int (nI q_models), .ref m_tape, .int (nI q_taped), .int q_fault, .int q_wrong, .int q_wrongAt, .int q_spot, .int q_place, .int q_token, .int q_value, .ref m_ends, .ref m_letters, .ref m_actOf, .ref m_whom, .ref m_actMany, .ref m_tokens, .ref m_afters, .ref m_afterOf, .int q_counted, .ref m_pile, .ref m_caseMany, .ref m_happen, .ref m_hasIf, .ref m_becomes, .ref m_goneOf, .ref m_heard, .ref m_pairs, .ref m_heaps, .int q_rounds, .int q_heapMany, .ref m_led, .ref m_newAt, .ref m_knowing, .ref m_firsts, .int (nI q_people), .ref m_secrets, .ref m_tried, .ref m_lanes, .ref m_lengths, .ref m_cells])), (m_manys, .inl (E.2.1 1, 18, .inl f_manysz_58)), (m_reals, .inl (E.2.1 1, 18, .inl f_realsz_59)), (m_factsOf, .inl (E.2.1 1, 432, .inl f_factsOfz_60)), (m_possible, .inl (E.2.1 1, 1728, .inl f_possiblez_61)), (m_pairs, .inl (E.2.1 1, 576, .inl f_pairsz_62)), (m_pile, .inl (E.2.1 1, 34, .inl f_pilez_63)), (m_caseMany, .inl (E.2.1 1, 4, .inl f_caseMany)), (m_happen, .inl (E.2.1 1, 4, .inl f_happen)), (m_hasIf, .inl (E.2.1 3, 16, .inl f_hasIf)), (m_becomes, .inl (E.2.1 1, 16, .inl f_becomes)), (m_goneOf, .inl (E.2.1 1, 16, .inl f_goneOf)), (m_heard, .inl (E.2.1 1, 64, .inl f_heard)), (m_actMany, .inl (E.2.1 1, 25, .inl f_actMany)), (m_actOf, .inl (E.2.1 1, 800, .inl f_actOf)), (m_whom, .inl (E.2.1 1, 800, .inl f_whom))]) ?_ rfl rfl rfl
                refine ww_if_lt (tgt := 88) C dX12_goes_81 (by decide) (fun c_72 => ?_) (fun c_72 => ?_)
                · have zc_72 : ((mz_57 : Nat) : Int) < 0 := i_lt (nI_toInt (n := mz_57) (by omega)) rfl c_72
                  omega
                · have zc_72 : ((mz_57 : Nat) : Int) ≥ 0 := i_nlt (nI_toInt (n := mz_57) (by omega)) rfl c_72
                  refine ww_iconst (v := 1) C dX12_goes_84 rfl ?_
                  refine ww_goto (tgt := 89) C dX12_goes_85 (by decide) ?_
                  refine ww_istore (lv' := [(5, .int 1), (7, .int (nI j_33)), (6, .int (nI k1)), (0, .ref hm), (1, .int row), (2, .int (nI n)), (3, .int (nI am)), (4, .int (-4))]) C dX12_goes_89 rfl rfl ?_
                  refine ww_iload C dX12_goes_91 0 rfl ?_
                  refine ww_if_eq_f (tgt := 120) C dX12_goes_93 (by decide) (by decide) ?_
                  refine ww_iload C dX12_goes_96 7 rfl ?_
                  refine ww_bipush (v := (-4)) C dX12_goes_98 rfl ?_
                  refine ww_icmp_eq_t (tgt := 116) C dX12_goes_100 (by decide) (rfl) ?_
                  refine ww_iconst (v := 1) C dX12_goes_116 rfl ?_
                  refine ww_goto (tgt := 121) C dX12_goes_117 (by decide) ?_
                  refine ww_istore (lv' := [(5, .int 1), (7, .int (nI j_33)), (6, .int (nI k1)), (0, .ref hm), (1, .int row), (2, .int (nI n)), (3, .int (nI am)), (4, .int (-4))]) C dX12_goes_121 rfl rfl ?_
                  refine ww_iinc (j := 2) (v := (nI (k1 + 1))) (lv' := [(6, .int (nI (k1 + 1))), (5, .int 1), (7, .int (nI j_33)), (0, .ref hm), (1, .int row), (2, .int (nI n)), (3, .int (nI am)), (4, .int (-4))]) C dX12_goes_123 rfl (nI_add k1 1) rfl rfl ?_
                  refine ww_goto (tgt := 27) C dX12_goes_126 (by decide) ?_
                  exact ww_lv [0, 1, 3, 4, 5, 6, 7] rfl (ww_sub [2, 3, 4, 5, 6, 7, 8, 9, 10, 11, 12, 13, 14, 15, 16, 17, 0, 1] rfl rfl (ih_27 (k1 + 1) 1 f_manysz_58 f_realsz_59 f_factsOfz_60 f_possiblez_61 f_pairsz_62 f_pilez_63 (by omega) (by omega) h_64 h_65 h_66 (by omega)))
            · refine ex1 hw ?_
              clear hw
              intro f_pilez_40 hw
              refine an1 hw ?_
              clear hw
              intro he_41 hw
              have he_42 := hw
              clear hw
              have he_41 := he_41.symm
              subst he_41
              subst he_42
              refine ww_eq (ws' := [(m_pairs, .inl (E.2.1 1, 576, .inl gt_pairs)), (m_afters, .inl (E.2.1 1, 9, .inl f_afters)), (m_afterOf, .inl (E.2.1 1, 18, .inl f_afterOf)), (hm, .inr (12, [.ref m_manys, .ref m_reals, .ref m_factsOf, .ref m_possible, .int (nI q_undos), .int (nI q_models), .ref m_tape, .int (nI q_taped), .int q_fault, .int q_wrong, .int q_wrongAt, .int q_spot, .int q_place, .int q_token, .int q_value, .ref m_ends, .ref m_letters, .ref m_actOf, .ref m_whom, .ref m_actMany, .ref m_tokens, .ref m_afters, .ref m_afterOf, .int q_counted, .ref m_pile, .ref m_caseMany, .ref m_happen, .ref m_hasIf, .ref m_becomes, .ref m_goneOf, .ref m_heard, .ref m_pairs, .ref m_heaps, .int q_rounds, .int q_heapMany, .ref m_led, .ref m_newAt, .ref m_knowing, .ref m_firsts, .int (nI q_people), .ref m_secrets, .ref m_tried, .ref m_lanes, .ref m_lengths, .ref m_cells])), (m_manys, .inl (E.2.1 1, 18, .inl gt_manys)), (m_reals, .inl (E.2.1 1, 18, .inl gt_reals)), (m_factsOf, .inl (E.2.1 1, 432, .inl gt_factsOf)), (m_possible, .inl (E.2.1 1, 1728, .inl gt_possible)), (m_caseMany, .inl (E.2.1 1, 4, .inl f_caseMany)), (m_happen, .inl (E.2.1 1, 4, .inl f_happen)), (m_hasIf, .inl (E.2.1 3, 16, .inl f_hasIf)), (m_becomes, .inl (E.2.1 1, 16, .inl f_becomes)), (m_goneOf, .inl (E.2.1 1, 16, .inl f_goneOf)), (m_heard, .inl (E.2.1 1, 64, .inl f_heard)), (m_actMany, .inl (E.2.1 1, 25, .inl f_actMany)), (m_actOf, .inl (E.2.1 1, 800, .inl f_actOf)), (m_whom, .inl (E.2.1 1, 800, .inl f_whom)), (m_pile, .inl (E.2.1 1, 34, .inl f_pilez_40))]) ?_ rfl rfl rfl
              refine ww_if_eq_t (tgt := 88) C dX12_goes_70 (by decide) (rfl) ?_
              refine ww_iconst (v := 0) C dX12_goes_88 rfl ?_
              refine ww_istore (lv' := [(5, .int 0), (7, .int (nI j_33)), (6, .int (nI k1)), (0, .ref hm), (1, .int row), (2, .int (nI n)), (3, .int (nI am)), (4, .int (-4))]) C dX12_goes_89 rfl rfl ?_
              refine ww_iload C dX12_goes_91 0 rfl ?_
              refine ww_if_eq_t (tgt := 120) C dX12_goes_93 (by decide) (rfl) ?_
              refine ww_iconst (v := 0) C dX12_goes_120 rfl ?_
              refine ww_istore (lv' := [(5, .int 0), (7, .int (nI j_33)), (6, .int (nI k1)), (0, .ref hm), (1, .int row), (2, .int (nI n)), (3, .int (nI am)), (4, .int (-4))]) C dX12_goes_121 rfl rfl ?_
              refine ww_iinc (j := 2) (v := (nI (k1 + 1))) (lv' := [(6, .int (nI (k1 + 1))), (5, .int 0), (7, .int (nI j_33)), (0, .ref hm), (1, .int row), (2, .int (nI n)), (3, .int (nI am)), (4, .int (-4))]) C dX12_goes_123 rfl (nI_add k1 1) rfl rfl ?_
              refine ww_goto (tgt := 27) C dX12_goes_126 (by decide) ?_
              exact ww_lv [0, 1, 3, 4, 5, 6, 7] rfl (ww_sub [3, 4, 5, 6, 7, 0, 17, 8, 9, 10, 11, 12, 13, 14, 15, 16, 1, 2] rfl rfl (ih_27 (k1 + 1) 0 gt_manys gt_reals gt_factsOf gt_possible gt_pairs f_pilez_40 (by omega) (by omega) hnb_m_manys_27 hnb_m_reals_27 hpg_27 (by omega)))
  exact ww_lv [0, 1, 2, 3, 4, 5, 6] rfl (ww_sub [0, 1, 2, 3, 4, 5, 6, 7, 8, 9, 10, 11, 12, 13, 14, 15, 16, 17] rfl rfl (loop_27 _ 0 1 f_manys f_reals f_factsOf f_possible f_pairs f_pile (by omega) (by omega) hb_manys hb_reals hpg (Nat.lt_succ_self _)))
theorem dX12_goes_7 : decode cX12_goes 7 = .ok (.aload_n 0, 1) := by decide +kernel
theorem dX12_goes_8 : decode cX12_goes 8 = .ok (.iload 4, 2) := by decide +kernel
theorem dX12_goes_10 : decode cX12_goes 10 = .ok (.iconst 0, 1) := by decide +kernel
theorem dX12_goes_11 : decode cX12_goes 11 = .ok (.invokevirtual 276, 3) := by decide +kernel
theorem dX12_goes_14 : decode cX12_goes 14 = .ok (.ifCond .eq 7, 3) := by decide +kernel
theorem dX12_goes_103 : decode cX12_goes 103 = .ok (.aload_n 0, 1) := by decide +kernel
theorem dX12_goes_104 : decode cX12_goes 104 = .ok (.iload 4, 2) := by decide +kernel
theorem dX12_goes_106 : decode cX12_goes 106 = .ok (.iload 6, 2) := by decide +kernel
theorem dX12_goes_108 : decode cX12_goes 108 = .ok (.iconst 1, 1) := by decide +kernel
theorem dX12_goes_109 : decode cX12_goes 109 = .ok (.iadd, 1) := by decide +kernel
theorem dX12_goes_110 : decode cX12_goes 110 = .ok (.invokevirtual 276, 3) := by decide +kernel
theorem dX12_goes_113 : decode cX12_goes 113 = .ok (.ifCond .eq 7, 3) := by decide +kernel
theorem dX12_goes_21 : decode cX12_goes 21 = .ok (.iconst 0, 1) := by decide +kernel
set_option maxRecDepth 100000 in
set_option maxHeartbeats 4000000 in
theorem r_goesH (l : Launch) (E : EV) (ro : va_W) (hm : Nat) (row : Int32) (n : Nat) (am : Nat) (hd : Nat) (m_manys : Nat) (m_reals : Nat) (m_factsOf : Nat) (m_possible : Nat) (q_undos : Nat) (q_models : Nat) (m_tape : Nat) (q_taped : Nat) (q_fault : Int32) (q_wrong : Int32) (q_wrongAt : Int32) (q_spot : Int32) (q_place : Int32) (q_token : Int32) (q_value : Int32) (m_ends : Nat) (m_letters : Nat) (m_actOf : Nat) (m_whom : Nat) (m_actMany : Nat) (m_tokens : Nat) (m_afters : Nat) (m_afterOf : Nat) (q_counted : Int32) (m_pile : Nat) (m_caseMany : Nat) (m_happen : Nat) (m_hasIf : Nat) (m_becomes : Nat) (m_goneOf : Nat) (m_heard : Nat) (m_pairs : Nat) (m_heaps : Nat) (q_rounds : Int32) (q_heapMany : Int32) (m_led : Nat) (m_newAt : Nat) (m_knowing : Nat) (m_firsts : Nat) (q_people : Nat) (m_secrets : Nat) (m_tried : Nat) (m_lanes : Nat) (m_lengths : Nat) (m_cells : Nat) (f_manys : Nat → Int32) (f_reals : Nat → Int32) (f_factsOf : Nat → Int32) (f_possible : Nat → Int32) (f_pairs : Nat → Int32) (f_pile : Nat → Int32) (f_caseMany : Nat → Int32) (f_happen : Nat → Int32) (f_hasIf : Nat → Int32) (f_becomes : Nat → Int32) (f_goneOf : Nat → Int32) (f_heard : Nat → Int32) (f_actMany : Nat → Int32) (f_actOf : Nat → Int32) (f_whom : Nat → Int32) (f_afters : Nat → Int32) (f_afterOf : Nat → Int32) (hb_manys : NB 18 24 f_manys) (hb_reals : NB 18 23 f_reals) (hpg : PG f_manys f_reals) (hb_caseMany : NB 4 4 f_caseMany) (hb_happen : NB 4 3 f_happen) (hb_actMany : NB 25 32 f_actMany) (hhp : HP f_caseMany f_happen) (hsv : SV f_actOf f_actMany) (hb_afters : NB 9 2 f_afters) (hb_afterOf : NB 18 3 f_afterOf) (hn : n ≤ 3) (ham : am < 8) (hhd : hd < 8) : CT l yX12_goes (Cond.code yX12_goes cX12_goes 8 (some .boolean) :: TB) ({ frames := 8, cells := 0, slots := 0, locals := 206 }) E ro [.ref hm, .int row, .int (nI n), .int (nI am), .int (nI hd)] [(hm, .inr (12, [.ref m_manys, .ref m_reals, .ref m_factsOf, .ref m_possible, .int (nI q_undos), .int (nI q_models), .ref m_tape, .int (nI q_taped), .int q_fault, .int q_wrong, .int q_wrongAt, .int q_spot, .int q_place, .int q_token, .int q_value, .ref m_ends, .ref m_letters, .ref m_actOf, .ref m_whom, .ref m_actMany, .ref m_tokens, .ref m_afters, .ref m_afterOf, .int q_counted, .ref m_pile, .ref m_caseMany, .ref m_happen, .ref m_hasIf, .ref m_becomes, .ref m_goneOf, .ref m_heard, .ref m_pairs, .ref m_heaps, .int q_rounds, .int q_heapMany, .ref m_led, .ref m_newAt, .ref m_knowing, .ref m_firsts, .int (nI q_people), .ref m_secrets, .ref m_tried, .ref m_lanes, .ref m_lengths, .ref m_cells])), (m_manys, .inl (E.2.1 1, 18, .inl f_manys)), (m_reals, .inl (E.2.1 1, 18, .inl f_reals)), (m_factsOf, .inl (E.2.1 1, 432, .inl f_factsOf)), (m_possible, .inl (E.2.1 1, 1728, .inl f_possible)), (m_pairs, .inl (E.2.1 1, 576, .inl f_pairs)), (m_pile, .inl (E.2.1 1, 34, .inl f_pile)), (m_caseMany, .inl (E.2.1 1, 4, .inl f_caseMany)), (m_happen, .inl (E.2.1 1, 4, .inl f_happen)), (m_hasIf, .inl (E.2.1 3, 16, .inl f_hasIf)), (m_becomes, .inl (E.2.1 1, 16, .inl f_becomes)), (m_goneOf, .inl (E.2.1 1, 16, .inl f_goneOf)), (m_heard, .inl (E.2.1 1, 64, .inl f_heard)), (m_actMany, .inl (E.2.1 1, 25, .inl f_actMany)), (m_actOf, .inl (E.2.1 1, 800, .inl f_actOf)), (m_whom, .inl (E.2.1 1, 800, .inl f_whom)), (m_afters, .inl (E.2.1 1, 9, .inl f_afters)), (m_afterOf, .inl (E.2.1 1, 18, .inl f_afterOf))] (Qi E (fun (rz : Int32) uz => (∃ (f_manysz : Nat → Int32) (f_realsz : Nat → Int32) (f_factsOfz : Nat → Int32) (f_possiblez : Nat → Int32) (f_pairsz : Nat → Int32) (f_pilez : Nat → Int32), rz = 1 ∧ uz = [(hm, .inr (12, [.ref m_manys, .ref m_reals, .ref m_factsOf, .ref m_possible, .int (nI q_undos), .int (nI q_models), .ref m_tape, .int (nI q_taped), .int q_fault, .int q_wrong, .int q_wrongAt, .int q_spot, .int q_place, .int q_token, .int q_value, .ref m_ends, .ref m_letters, .ref m_actOf, .ref m_whom, .ref m_actMany, .ref m_tokens, .ref m_afters, .ref m_afterOf, .int q_counted, .ref m_pile, .ref m_caseMany, .ref m_happen, .ref m_hasIf, .ref m_becomes, .ref m_goneOf, .ref m_heard, .ref m_pairs, .ref m_heaps, .int q_rounds, .int q_heapMany, .ref m_led, .ref m_newAt, .ref m_knowing, .ref m_firsts, .int (nI q_people), .ref m_secrets, .ref m_tried, .ref m_lanes, .ref m_lengths, .ref m_cells])), (m_manys, .inl (E.2.1 1, 18, .inl f_manysz)), (m_reals, .inl (E.2.1 1, 18, .inl f_realsz)), (m_factsOf, .inl (E.2.1 1, 432, .inl f_factsOfz)), (m_possible, .inl (E.2.1 1, 1728, .inl f_possiblez)), (m_pairs, .inl (E.2.1 1, 576, .inl f_pairsz)), (m_pile, .inl (E.2.1 1, 34, .inl f_pilez)), (m_caseMany, .inl (E.2.1 1, 4, .inl f_caseMany)), (m_happen, .inl (E.2.1 1, 4, .inl f_happen)), (m_hasIf, .inl (E.2.1 3, 16, .inl f_hasIf)), (m_becomes, .inl (E.2.1 1, 16, .inl f_becomes)), (m_goneOf, .inl (E.2.1 1, 16, .inl f_goneOf)), (m_heard, .inl (E.2.1 1, 64, .inl f_heard)), (m_actMany, .inl (E.2.1 1, 25, .inl f_actMany)), (m_actOf, .inl (E.2.1 1, 800, .inl f_actOf)), (m_whom, .inl (E.2.1 1, 800, .inl f_whom)), (m_afters, .inl (E.2.1 1, 9, .inl f_afters)), (m_afterOf, .inl (E.2.1 1, 18, .inl f_afterOf))] ∧ (NB 18 24 f_manysz) ∧ (NB 18 23 f_realsz) ∧ (PG f_manysz f_realsz)) ∨ (∃ (f_manysz : Nat → Int32) (f_realsz : Nat → Int32) (f_factsOfz : Nat → Int32) (f_possiblez : Nat → Int32) (f_pairsz : Nat → Int32) (f_pilez : Nat → Int32), rz = 0 ∧ uz = [(hm, .inr (12, [.ref m_manys, .ref m_reals, .ref m_factsOf, .ref m_possible, .int (nI q_undos), .int (nI q_models), .ref m_tape, .int (nI q_taped), .int q_fault, .int q_wrong, .int q_wrongAt, .int q_spot, .int q_place, .int q_token, .int q_value, .ref m_ends, .ref m_letters, .ref m_actOf, .ref m_whom, .ref m_actMany, .ref m_tokens, .ref m_afters, .ref m_afterOf, .int q_counted, .ref m_pile, .ref m_caseMany, .ref m_happen, .ref m_hasIf, .ref m_becomes, .ref m_goneOf, .ref m_heard, .ref m_pairs, .ref m_heaps, .int q_rounds, .int q_heapMany, .ref m_led, .ref m_newAt, .ref m_knowing, .ref m_firsts, .int (nI q_people), .ref m_secrets, .ref m_tried, .ref m_lanes, .ref m_lengths, .ref m_cells])), (m_manys, .inl (E.2.1 1, 18, .inl f_manysz)), (m_reals, .inl (E.2.1 1, 18, .inl f_realsz)), (m_factsOf, .inl (E.2.1 1, 432, .inl f_factsOfz)), (m_possible, .inl (E.2.1 1, 1728, .inl f_possiblez)), (m_pairs, .inl (E.2.1 1, 576, .inl f_pairsz)), (m_pile, .inl (E.2.1 1, 34, .inl f_pilez)), (m_caseMany, .inl (E.2.1 1, 4, .inl f_caseMany)), (m_happen, .inl (E.2.1 1, 4, .inl f_happen)), (m_hasIf, .inl (E.2.1 3, 16, .inl f_hasIf)), (m_becomes, .inl (E.2.1 1, 16, .inl f_becomes)), (m_goneOf, .inl (E.2.1 1, 16, .inl f_goneOf)), (m_heard, .inl (E.2.1 1, 64, .inl f_heard)), (m_actMany, .inl (E.2.1 1, 25, .inl f_actMany)), (m_actOf, .inl (E.2.1 1, 800, .inl f_actOf)), (m_whom, .inl (E.2.1 1, 800, .inl f_whom)), (m_afters, .inl (E.2.1 1, 9, .inl f_afters)), (m_afterOf, .inl (E.2.1 1, 18, .inl f_afterOf))] ∧ (NB 18 24 f_manysz) ∧ (NB 18 23 f_realsz) ∧ (PG f_manysz f_realsz)))) 0 0 := by
  refine ct_of rfl rfl ?_
  intro X C hT hin hro
  show WW X 8 E 0 [(0, .ref hm), (1, .int row), (2, .int (nI n)), (3, .int (nI am)), (4, .int (nI hd))] [] [(hm, .inr (12, [.ref m_manys, .ref m_reals, .ref m_factsOf, .ref m_possible, .int (nI q_undos), .int (nI q_models), .ref m_tape, .int (nI q_taped), .int q_fault, .int q_wrong, .int q_wrongAt, .int q_spot, .int q_place, .int q_token, .int q_value, .ref m_ends, .ref m_letters, .ref m_actOf, .ref m_whom, .ref m_actMany, .ref m_tokens, .ref m_afters, .ref m_afterOf, .int q_counted, .ref m_pile, .ref m_caseMany, .ref m_happen, .ref m_hasIf, .ref m_becomes, .ref m_goneOf, .ref m_heard, .ref m_pairs, .ref m_heaps, .int q_rounds, .int q_heapMany, .ref m_led, .ref m_newAt, .ref m_knowing, .ref m_firsts, .int (nI q_people), .ref m_secrets, .ref m_tried, .ref m_lanes, .ref m_lengths, .ref m_cells])), (m_manys, .inl (E.2.1 1, 18, .inl f_manys)), (m_reals, .inl (E.2.1 1, 18, .inl f_reals)), (m_factsOf, .inl (E.2.1 1, 432, .inl f_factsOf)), (m_possible, .inl (E.2.1 1, 1728, .inl f_possible)), (m_pairs, .inl (E.2.1 1, 576, .inl f_pairs)), (m_pile, .inl (E.2.1 1, 34, .inl f_pile)), (m_caseMany, .inl (E.2.1 1, 4, .inl f_caseMany)), (m_happen, .inl (E.2.1 1, 4, .inl f_happen)), (m_hasIf, .inl (E.2.1 3, 16, .inl f_hasIf)), (m_becomes, .inl (E.2.1 1, 16, .inl f_becomes)), (m_goneOf, .inl (E.2.1 1, 16, .inl f_goneOf)), (m_heard, .inl (E.2.1 1, 64, .inl f_heard)), (m_actMany, .inl (E.2.1 1, 25, .inl f_actMany)), (m_actOf, .inl (E.2.1 1, 800, .inl f_actOf)), (m_whom, .inl (E.2.1 1, 800, .inl f_whom)), (m_afters, .inl (E.2.1 1, 9, .inl f_afters)), (m_afterOf, .inl (E.2.1 1, 18, .inl f_afterOf))] 0 0
  have hmn0 := (hb_manys 0 (by omega)).2
  refine ww_iload C dX12_goes_0 4 rfl ?_
  refine ww_bipush (v := (-4)) C dX12_goes_2 rfl ?_
  refine ww_icmp_eq (tgt := 17) C dX12_goes_4 (by decide) (fun c_1 => ?_) (fun c_1 => ?_)
  · have zc_1 : ((hd : Nat) : Int) = (-4) := i_eq (nI_toInt (n := hd) (by omega)) rfl c_1
    omega
  · have zc_1 : ((hd : Nat) : Int) ≠ (-4) := i_ne (nI_toInt (n := hd) (by omega)) rfl c_1
    refine ww_aload_n C dX12_goes_7 0 rfl rfl ?_
    refine ww_iload C dX12_goes_8 4 rfl ?_
    refine ww_iconst (v := 0) C dX12_goes_10 rfl ?_
    refine ww_ci (wr := []) (k' := 0) (n' := 0) C (run_V (As := [.int (nI hd), .int 0]) (rest := []) C (r_isTrue X.2.1 E ro hm hd 0 m_manys m_reals m_factsOf m_possible q_undos q_models m_tape q_taped q_fault q_wrong q_wrongAt q_spot q_place q_token q_value m_ends m_letters m_actOf m_whom m_actMany m_tokens m_afters m_afterOf q_counted m_pile m_caseMany m_happen m_hasIf m_becomes m_goneOf m_heard m_pairs m_heaps q_rounds q_heapMany m_led m_newAt m_knowing m_firsts q_people m_secrets m_tried m_lanes m_lengths m_cells f_manys f_reals f_factsOf f_possible f_pairs f_pile f_caseMany f_happen f_hasIf f_becomes f_goneOf f_heard f_actMany f_actOf f_whom f_afters f_afterOf hb_manys hb_reals hpg hb_caseMany hb_happen hb_actMany hhp hsv hb_afters hb_afterOf (by omega) (by omega)) mi_X12_isTrue wl_X12_276 rfl 0 12 rfl rfl rfl rfl rfl dX12_goes_11) (roK hro) [0, 1, 2, 3, 4, 5, 6, 7, 8, 9, 10, 11, 12, 13, 14, 15, 16, 17] [] rfl rfl rfl rfl (fun r_2 uz hw => ?_)
    rcases hw with hw | hw
    · refine ex6 hw ?_
      clear hw
      intro f_manysz_3 f_realsz_4 f_factsOfz_5 f_possiblez_6 f_pairsz_7 f_pilez_8 hw
      refine an6 hw ?_
      clear hw
      intro he_14 he_15 h_9 h_10 h_11 h_12 hw
      have h_13 := hw
      clear hw
      have he_14 := he_14.symm
      subst he_14
      subst he_15
      refine ww_eq (ws' := [(hm, .inr (12, [.ref m_manys, .ref m_reals, .ref m_factsOf, .ref m_possible, .int (nI q_undos), .int (nI q_models), .ref m_tape, .int (nI q_taped), .int q_fault, .int q_wrong, .int q_wrongAt, .int q_spot, .int q_place, .int q_token, .int q_value, .ref m_ends, .ref m_letters, .ref m_actOf, .ref m_whom, .ref m_actMany, .ref m_tokens, .ref m_afters, .ref m_afterOf, .int q_counted, .ref m_pile, .ref m_caseMany, .ref m_happen, .ref m_hasIf, .ref m_becomes, .ref m_goneOf, .ref m_heard, .ref m_pairs, .ref m_heaps, .int q_rounds, .int q_heapMany, .ref m_led, .ref m_newAt, .ref m_knowing, .ref m_firsts, .int (nI q_people), .ref m_secrets, .ref m_tried, .ref m_lanes, .ref m_lengths, .ref m_cells])), (m_manys, .inl (E.2.1 1, 18, .inl f_manysz_3)), (m_reals, .inl (E.2.1 1, 18, .inl f_realsz_4)), (m_factsOf, .inl (E.2.1 1, 432, .inl f_factsOfz_5)), (m_possible, .inl (E.2.1 1, 1728, .inl f_possiblez_6)), (m_pairs, .inl (E.2.1 1, 576, .inl f_pairsz_7)), (m_pile, .inl (E.2.1 1, 34, .inl f_pilez_8)), (m_caseMany, .inl (E.2.1 1, 4, .inl f_caseMany)), (m_happen, .inl (E.2.1 1, 4, .inl f_happen)), (m_hasIf, .inl (E.2.1 3, 16, .inl f_hasIf)), (m_becomes, .inl (E.2.1 1, 16, .inl f_becomes)), (m_goneOf, .inl (E.2.1 1, 16, .inl f_goneOf)), (m_heard, .inl (E.2.1 1, 64, .inl f_heard)), (m_actMany, .inl (E.2.1 1, 25, .inl f_actMany)), (m_actOf, .inl (E.2.1 1, 800, .inl f_actOf)), (m_whom, .inl (E.2.1 1, 800, .inl f_whom)), (m_afters, .inl (E.2.1 1, 9, .inl f_afters)), (m_afterOf, .inl (E.2.1 1, 18, .inl f_afterOf))]) ?_ rfl rfl rfl
      refine ww_if_eq_f (tgt := 21) C dX12_goes_14 (by decide) (by decide) ?_
      refine ww_iconst (v := 1) C dX12_goes_17 rfl ?_
      refine ww_goto (tgt := 22) C dX12_goes_18 (by decide) ?_
      refine ww_istore (lv' := [(5, .int 1), (0, .ref hm), (1, .int row), (2, .int (nI n)), (3, .int (nI am)), (4, .int (nI hd))]) C dX12_goes_22 rfl rfl ?_
      refine ww_iconst (v := 0) C dX12_goes_24 rfl ?_
      refine ww_istore (lv' := [(6, .int 0), (5, .int 1), (0, .ref hm), (1, .int row), (2, .int (nI n)), (3, .int (nI am)), (4, .int (nI hd))]) C dX12_goes_25 rfl rfl ?_
      have loop_27 : ∀ (fu : Nat) (k1 : Nat) (ca : Nat) (gt_manys : Nat → Int32) (gt_reals : Nat → Int32) (gt_factsOf : Nat → Int32) (gt_possible : Nat → Int32) (gt_pairs : Nat → Int32) (gt_pile : Nat → Int32), (k1 ≤ n) → (ca ≤ 1) → (NB 18 24 gt_manys) → (NB 18 23 gt_reals) → (PG gt_manys gt_reals) → n - k1 < fu → WW X 8 E 27 [(6, .int (nI k1)), (5, .int (nI ca)), (0, .ref hm), (1, .int row), (2, .int (nI n)), (3, .int (nI am)), (4, .int (nI hd))] [] [(hm, .inr (12, [.ref m_manys, .ref m_reals, .ref m_factsOf, .ref m_possible, .int (nI q_undos), .int (nI q_models), .ref m_tape, .int (nI q_taped), .int q_fault, .int q_wrong, .int q_wrongAt, .int q_spot, .int q_place, .int q_token, .int q_value, .ref m_ends, .ref m_letters, .ref m_actOf, .ref m_whom, .ref m_actMany, .ref m_tokens, .ref m_afters, .ref m_afterOf, .int q_counted, .ref m_pile, .ref m_caseMany, .ref m_happen, .ref m_hasIf, .ref m_becomes, .ref m_goneOf, .ref m_heard, .ref m_pairs, .ref m_heaps, .int q_rounds, .int q_heapMany, .ref m_led, .ref m_newAt, .ref m_knowing, .ref m_firsts, .int (nI q_people), .ref m_secrets, .ref m_tried, .ref m_lanes, .ref m_lengths, .ref m_cells])), (m_manys, .inl (E.2.1 1, 18, .inl gt_manys)), (m_reals, .inl (E.2.1 1, 18, .inl gt_reals)), (m_factsOf, .inl (E.2.1 1, 432, .inl gt_factsOf)), (m_possible, .inl (E.2.1 1, 1728, .inl gt_possible)), (m_pairs, .inl (E.2.1 1, 576, .inl gt_pairs)), (m_pile, .inl (E.2.1 1, 34, .inl gt_pile)), (m_caseMany, .inl (E.2.1 1, 4, .inl f_caseMany)), (m_happen, .inl (E.2.1 1, 4, .inl f_happen)), (m_hasIf, .inl (E.2.1 3, 16, .inl f_hasIf)), (m_becomes, .inl (E.2.1 1, 16, .inl f_becomes)), (m_goneOf, .inl (E.2.1 1, 16, .inl f_goneOf)), (m_heard, .inl (E.2.1 1, 64, .inl f_heard)), (m_actMany, .inl (E.2.1 1, 25, .inl f_actMany)), (m_actOf, .inl (E.2.1 1, 800, .inl f_actOf)), (m_whom, .inl (E.2.1 1, 800, .inl f_whom)), (m_afters, .inl (E.2.1 1, 9, .inl f_afters)), (m_afterOf, .inl (E.2.1 1, 18, .inl f_afterOf))] 0 0 := by
        intro fu
        induction fu with
        | zero => intro k1 ca gt_manys gt_reals gt_factsOf gt_possible gt_pairs gt_pile hk1 hca hnb_m_manys_27 hnb_m_reals_27 hpg_27 hmeas; exact absurd hmeas (Nat.not_lt_zero _)
        | succ fu ih_27 =>
          intro k1 ca gt_manys gt_reals gt_factsOf gt_possible gt_pairs gt_pile hk1 hca hnb_m_manys_27 hnb_m_reals_27 hpg_27 hmeas
          refine ww_iload C dX12_goes_27 0 rfl ?_
          refine ww_iload_n C dX12_goes_29 4 rfl rfl ?_
          refine ww_icmp_ge (tgt := 129) C dX12_goes_30 (by decide) (fun c_29 => ?_) (fun c_29 => ?_)
          · have zc_29 : ((k1 : Nat) : Int) ≥ ((n : Nat) : Int) := i_le (nI_toInt (n := n) (by omega)) (nI_toInt (n := k1) (by omega)) c_29
            refine ww_iload C dX12_goes_129 1 rfl ?_
            refine ww_if_eq (tgt := 147) C dX12_goes_131 (by decide) (fun c_30 => ?_) (fun c_30 => ?_)
            · have zc_30 : ((ca : Nat) : Int) = 0 := i_eq (nI_toInt (n := ca) (by omega)) rfl c_30
              refine ww_iconst (v := 0) C dX12_goes_147 rfl ?_
              exact ww_zret (u := [(hm, .inr (12, [.ref m_manys, .ref m_reals, .ref m_factsOf, .ref m_possible, .int (nI q_undos), .int (nI q_models), .ref m_tape, .int (nI q_taped), .int q_fault, .int q_wrong, .int q_wrongAt, .int q_spot, .int q_place, .int q_token, .int q_value, .ref m_ends, .ref m_letters, .ref m_actOf, .ref m_whom, .ref m_actMany, .ref m_tokens, .ref m_afters, .ref m_afterOf, .int q_counted, .ref m_pile, .ref m_caseMany, .ref m_happen, .ref m_hasIf, .ref m_becomes, .ref m_goneOf, .ref m_heard, .ref m_pairs, .ref m_heaps, .int q_rounds, .int q_heapMany, .ref m_led, .ref m_newAt, .ref m_knowing, .ref m_firsts, .int (nI q_people), .ref m_secrets, .ref m_tried, .ref m_lanes, .ref m_lengths, .ref m_cells])), (m_manys, .inl (E.2.1 1, 18, .inl gt_manys)), (m_reals, .inl (E.2.1 1, 18, .inl gt_reals)), (m_factsOf, .inl (E.2.1 1, 432, .inl gt_factsOf)), (m_possible, .inl (E.2.1 1, 1728, .inl gt_possible)), (m_pairs, .inl (E.2.1 1, 576, .inl gt_pairs)), (m_pile, .inl (E.2.1 1, 34, .inl gt_pile)), (m_caseMany, .inl (E.2.1 1, 4, .inl f_caseMany)), (m_happen, .inl (E.2.1 1, 4, .inl f_happen)), (m_hasIf, .inl (E.2.1 3, 16, .inl f_hasIf)), (m_becomes, .inl (E.2.1 1, 16, .inl f_becomes)), (m_goneOf, .inl (E.2.1 1, 16, .inl f_goneOf)), (m_heard, .inl (E.2.1 1, 64, .inl f_heard)), (m_actMany, .inl (E.2.1 1, 25, .inl f_actMany)), (m_actOf, .inl (E.2.1 1, 800, .inl f_actOf)), (m_whom, .inl (E.2.1 1, 800, .inl f_whom)), (m_afters, .inl (E.2.1 1, 9, .inl f_afters)), (m_afterOf, .inl (E.2.1 1, 18, .inl f_afterOf))]) C hT [0, 1, 2, 3, 4, 5, 6, 7, 8, 9, 10, 11, 12, 13, 14, 15, 16, 17] rfl rfl rfl rfl rfl dX12_goes_148 (Or.inr ⟨gt_manys, gt_reals, gt_factsOf, gt_possible, gt_pairs, gt_pile, rfl, rfl, hnb_m_manys_27, hnb_m_reals_27, hpg_27⟩)
            · have zc_30 : ((ca : Nat) : Int) ≠ 0 := i_ne (nI_toInt (n := ca) (by omega)) rfl c_30
              refine ww_aload_n C dX12_goes_134 2 rfl rfl ?_
              refine ww_iload_n C dX12_goes_135 5 rfl rfl ?_
              refine ww_iload_n C dX12_goes_136 4 rfl rfl ?_
              refine ww_ci (wr := []) (k' := 0) (n' := 0) C (run_V (As := [.int (nI am), .int (nI n)]) (rest := []) C (r_isTrue X.2.1 E ro hm am n m_manys m_reals m_factsOf m_possible q_undos q_models m_tape q_taped q_fault q_wrong q_wrongAt q_spot q_place q_token q_value m_ends m_letters m_actOf m_whom m_actMany m_tokens m_afters m_afterOf q_counted m_pile m_caseMany m_happen m_hasIf m_becomes m_goneOf m_heard m_pairs m_heaps q_rounds q_heapMany m_led m_newAt m_knowing m_firsts q_people m_secrets m_tried m_lanes m_lengths m_cells gt_manys gt_reals gt_factsOf gt_possible gt_pairs gt_pile f_caseMany f_happen f_hasIf f_becomes f_goneOf f_heard f_actMany f_actOf f_whom f_afters f_afterOf hnb_m_manys_27 hnb_m_reals_27 hpg_27 hb_caseMany hb_happen hb_actMany hhp hsv hb_afters hb_afterOf (by omega) (by omega)) mi_X12_isTrue wl_X12_276 rfl 0 12 rfl rfl rfl rfl rfl dX12_goes_137) (roK hro) [0, 1, 2, 3, 4, 5, 6, 7, 8, 9, 10, 11, 12, 13, 14, 15, 16, 17] [] rfl rfl rfl rfl (fun r_31 uz hw => ?_)
              rcases hw with hw | hw
              · refine ex6 hw ?_
                clear hw
                intro f_manysz_32 f_realsz_33 f_factsOfz_34 f_possiblez_35 f_pairsz_36 f_pilez_37 hw
                refine an6 hw ?_
                clear hw
                intro he_43 he_44 h_38 h_39 h_40 h_41 hw
                have h_42 := hw
                clear hw
                have he_43 := he_43.symm
                subst he_43
                subst he_44
                refine ww_eq (ws' := [(hm, .inr (12, [.ref m_manys, .ref m_reals, .ref m_factsOf, .ref m_possible, .int (nI q_undos), .int (nI q_models), .ref m_tape, .int (nI q_taped), .int q_fault, .int q_wrong, .int q_wrongAt, .int q_spot, .int q_place, .int q_token, .int q_value, .ref m_ends, .ref m_letters, .ref m_actOf, .ref m_whom, .ref m_actMany, .ref m_tokens, .ref m_afters, .ref m_afterOf, .int q_counted, .ref m_pile, .ref m_caseMany, .ref m_happen, .ref m_hasIf, .ref m_becomes, .ref m_goneOf, .ref m_heard, .ref m_pairs, .ref m_heaps, .int q_rounds, .int q_heapMany, .ref m_led, .ref m_newAt, .ref m_knowing, .ref m_firsts, .int (nI q_people), .ref m_secrets, .ref m_tried, .ref m_lanes, .ref m_lengths, .ref m_cells])), (m_manys, .inl (E.2.1 1, 18, .inl f_manysz_32)), (m_reals, .inl (E.2.1 1, 18, .inl f_realsz_33)), (m_factsOf, .inl (E.2.1 1, 432, .inl f_factsOfz_34)), (m_possible, .inl (E.2.1 1, 1728, .inl f_possiblez_35)), (m_pairs, .inl (E.2.1 1, 576, .inl f_pairsz_36)), (m_pile, .inl (E.2.1 1, 34, .inl f_pilez_37)), (m_caseMany, .inl (E.2.1 1, 4, .inl f_caseMany)), (m_happen, .inl (E.2.1 1, 4, .inl f_happen)), (m_hasIf, .inl (E.2.1 3, 16, .inl f_hasIf)), (m_becomes, .inl (E.2.1 1, 16, .inl f_becomes)), (m_goneOf, .inl (E.2.1 1, 16, .inl f_goneOf)), (m_heard, .inl (E.2.1 1, 64, .inl f_heard)), (m_actMany, .inl (E.2.1 1, 25, .inl f_actMany)), (m_actOf, .inl (E.2.1 1, 800, .inl f_actOf)), (m_whom, .inl (E.2.1 1, 800, .inl f_whom)), (m_afters, .inl (E.2.1 1, 9, .inl f_afters)), (m_afterOf, .inl (E.2.1 1, 18, .inl f_afterOf))]) ?_ rfl rfl rfl
                refine ww_if_eq_f (tgt := 147) C dX12_goes_140 (by decide) (by decide) ?_
                refine ww_iconst (v := 1) C dX12_goes_143 rfl ?_
                refine ww_goto (tgt := 148) C dX12_goes_144 (by decide) ?_
                exact ww_zret (u := [(hm, .inr (12, [.ref m_manys, .ref m_reals, .ref m_factsOf, .ref m_possible, .int (nI q_undos), .int (nI q_models), .ref m_tape, .int (nI q_taped), .int q_fault, .int q_wrong, .int q_wrongAt, .int q_spot, .int q_place, .int q_token, .int q_value, .ref m_ends, .ref m_letters, .ref m_actOf, .ref m_whom, .ref m_actMany, .ref m_tokens, .ref m_afters, .ref m_afterOf, .int q_counted, .ref m_pile, .ref m_caseMany, .ref m_happen, .ref m_hasIf, .ref m_becomes, .ref m_goneOf, .ref m_heard, .ref m_pairs, .ref m_heaps, .int q_rounds, .int q_heapMany, .ref m_led, .ref m_newAt, .ref m_knowing, .ref m_firsts, .int (nI q_people), .ref m_secrets, .ref m_tried, .ref m_lanes, .ref m_lengths, .ref m_cells])), (m_manys, .inl (E.2.1 1, 18, .inl f_manysz_32)), (m_reals, .inl (E.2.1 1, 18, .inl f_realsz_33)), (m_factsOf, .inl (E.2.1 1, 432, .inl f_factsOfz_34)), (m_possible, .inl (E.2.1 1, 1728, .inl f_possiblez_35)), (m_pairs, .inl (E.2.1 1, 576, .inl f_pairsz_36)), (m_pile, .inl (E.2.1 1, 34, .inl f_pilez_37)), (m_caseMany, .inl (E.2.1 1, 4, .inl f_caseMany)), (m_happen, .inl (E.2.1 1, 4, .inl f_happen)), (m_hasIf, .inl (E.2.1 3, 16, .inl f_hasIf)), (m_becomes, .inl (E.2.1 1, 16, .inl f_becomes)), (m_goneOf, .inl (E.2.1 1, 16, .inl f_goneOf)), (m_heard, .inl (E.2.1 1, 64, .inl f_heard)), (m_actMany, .inl (E.2.1 1, 25, .inl f_actMany)), (m_actOf, .inl (E.2.1 1, 800, .inl f_actOf)), (m_whom, .inl (E.2.1 1, 800, .inl f_whom)), (m_afters, .inl (E.2.1 1, 9, .inl f_afters)), (m_afterOf, .inl (E.2.1 1, 18, .inl f_afterOf))]) C hT [0, 1, 2, 3, 4, 5, 6, 7, 8, 9, 10, 11, 12, 13, 14, 15, 16, 17] rfl rfl rfl rfl rfl dX12_goes_148 (Or.inl ⟨f_manysz_32, f_realsz_33, f_factsOfz_34, f_possiblez_35, f_pairsz_36, f_pilez_37, rfl, rfl, h_38, h_39, h_40⟩)
              · refine ex6 hw ?_
                clear hw
                intro f_manysz_45 f_realsz_46 f_factsOfz_47 f_possiblez_48 f_pairsz_49 f_pilez_50 hw
                refine an6 hw ?_
                clear hw
                intro he_56 he_57 h_51 h_52 h_53 h_54 hw
                have h_55 := hw
                clear hw
                have he_56 := he_56.symm
                subst he_56
                subst he_57
                refine ww_eq (ws' := [(hm, .inr (12, [.ref m_manys, .ref m_reals, .ref m_factsOf, .ref m_possible, .int (nI q_undos), .int (nI q_models), .ref m_tape, .int (nI q_taped), .int q_fault, .int q_wrong, .int q_wrongAt, .int q_spot, .int q_place, .int q_token, .int q_value, .ref m_ends, .ref m_letters, .ref m_actOf, .ref m_whom, .ref m_actMany, .ref m_tokens, .ref m_afters, .ref m_afterOf, .int q_counted, .ref m_pile, .ref m_caseMany, .ref m_happen, .ref m_hasIf, .ref m_becomes, .ref m_goneOf, .ref m_heard, .ref m_pairs, .ref m_heaps, .int q_rounds, .int q_heapMany, .ref m_led, .ref m_newAt, .ref m_knowing, .ref m_firsts, .int (nI q_people), .ref m_secrets, .ref m_tried, .ref m_lanes, .ref m_lengths, .ref m_cells])), (m_manys, .inl (E.2.1 1, 18, .inl f_manysz_45)), (m_reals, .inl (E.2.1 1, 18, .inl f_realsz_46)), (m_factsOf, .inl (E.2.1 1, 432, .inl f_factsOfz_47)), (m_possible, .inl (E.2.1 1, 1728, .inl f_possiblez_48)), (m_pairs, .inl (E.2.1 1, 576, .inl f_pairsz_49)), (m_pile, .inl (E.2.1 1, 34, .inl f_pilez_50)), (m_caseMany, .inl (E.2.1 1, 4, .inl f_caseMany)), (m_happen, .inl (E.2.1 1, 4, .inl f_happen)), (m_hasIf, .inl (E.2.1 3, 16, .inl f_hasIf)), (m_becomes, .inl (E.2.1 1, 16, .inl f_becomes)), (m_goneOf, .inl (E.2.1 1, 16, .inl f_goneOf)), (m_heard, .inl (E.2.1 1, 64, .inl f_heard)), (m_actMany, .inl (E.2.1 1, 25, .inl f_actMany)), (m_actOf, .inl (E.2.1 1, 800, .inl f_actOf)), (m_whom, .inl (E.2.1 1, 800, .inl f_whom)), (m_afters, .inl (E.2.1 1, 9, .inl f_afters)), (m_afterOf, .inl (E.2.1 1, 18, .inl f_afterOf))]) ?_ rfl rfl rfl
                refine ww_if_eq_t (tgt := 147) C dX12_goes_140 (by decide) (rfl) ?_
                refine ww_iconst (v := 0) C dX12_goes_147 rfl ?_
                exact ww_zret (u := [(hm, .inr (12, [.ref m_manys, .ref m_reals, .ref m_factsOf, .ref m_possible, .int (nI q_undos), .int (nI q_models), .ref m_tape, .int (nI q_taped), .int q_fault, .int q_wrong, .int q_wrongAt, .int q_spot, .int q_place, .int q_token, .int q_value, .ref m_ends, .ref m_letters, .ref m_actOf, .ref m_whom, .ref m_actMany, .ref m_tokens, .ref m_afters, .ref m_afterOf, .int q_counted, .ref m_pile, .ref m_caseMany, .ref m_happen, .ref m_hasIf, .ref m_becomes, .ref m_goneOf, .ref m_heard, .ref m_pairs, .ref m_heaps, .int q_rounds, .int q_heapMany, .ref m_led, .ref m_newAt, .ref m_knowing, .ref m_firsts, .int (nI q_people), .ref m_secrets, .ref m_tried, .ref m_lanes, .ref m_lengths, .ref m_cells])), (m_manys, .inl (E.2.1 1, 18, .inl f_manysz_45)), (m_reals, .inl (E.2.1 1, 18, .inl f_realsz_46)), (m_factsOf, .inl (E.2.1 1, 432, .inl f_factsOfz_47)), (m_possible, .inl (E.2.1 1, 1728, .inl f_possiblez_48)), (m_pairs, .inl (E.2.1 1, 576, .inl f_pairsz_49)), (m_pile, .inl (E.2.1 1, 34, .inl f_pilez_50)), (m_caseMany, .inl (E.2.1 1, 4, .inl f_caseMany)), (m_happen, .inl (E.2.1 1, 4, .inl f_happen)), (m_hasIf, .inl (E.2.1 3, 16, .inl f_hasIf)), (m_becomes, .inl (E.2.1 1, 16, .inl f_becomes)), (m_goneOf, .inl (E.2.1 1, 16, .inl f_goneOf)), (m_heard, .inl (E.2.1 1, 64, .inl f_heard)), (m_actMany, .inl (E.2.1 1, 25, .inl f_actMany)), (m_actOf, .inl (E.2.1 1, 800, .inl f_actOf)), (m_whom, .inl (E.2.1 1, 800, .inl f_whom)), (m_afters, .inl (E.2.1 1, 9, .inl f_afters)), (m_afterOf, .inl (E.2.1 1, 18, .inl f_afterOf))]) C hT [0, 1, 2, 3, 4, 5, 6, 7, 8, 9, 10, 11, 12, 13, 14, 15, 16, 17] rfl rfl rfl rfl rfl dX12_goes_148 (Or.inr ⟨f_manysz_45, f_realsz_46, f_factsOfz_47, f_possiblez_48, f_pairsz_49, f_pilez_50, rfl, rfl, h_51, h_52, h_53⟩)
          · have zc_29 : ((k1 : Nat) : Int) < ((n : Nat) : Int) := i_nle (nI_toInt (n := n) (by omega)) (nI_toInt (n := k1) (by omega)) c_29
            refine ww_iload C dX12_goes_33 1 rfl ?_
            refine ww_if_eq (tgt := 129) C dX12_goes_35 (by decide) (fun c_58 => ?_) (fun c_58 => ?_)
            · have zc_58 : ((ca : Nat) : Int) = 0 := i_eq (nI_toInt (n := ca) (by omega)) rfl c_58
              refine ww_iload C dX12_goes_129 1 rfl ?_
              refine ww_if_eq (tgt := 147) C dX12_goes_131 (by decide) (fun c_59 => ?_) (fun c_59 => ?_)
              · have zc_59 : ((ca : Nat) : Int) = 0 := i_eq (nI_toInt (n := ca) (by omega)) rfl c_59
                refine ww_iconst (v := 0) C dX12_goes_147 rfl ?_
                exact ww_zret (u := [(hm, .inr (12, [.ref m_manys, .ref m_reals, .ref m_factsOf, .ref m_possible, .int (nI q_undos), .int (nI q_models), .ref m_tape, .int (nI q_taped), .int q_fault, .int q_wrong, .int q_wrongAt, .int q_spot, .int q_place, .int q_token, .int q_value, .ref m_ends, .ref m_letters, .ref m_actOf, .ref m_whom, .ref m_actMany, .ref m_tokens, .ref m_afters, .ref m_afterOf, .int q_counted, .ref m_pile, .ref m_caseMany, .ref m_happen, .ref m_hasIf, .ref m_becomes, .ref m_goneOf, .ref m_heard, .ref m_pairs, .ref m_heaps, .int q_rounds, .int q_heapMany, .ref m_led, .ref m_newAt, .ref m_knowing, .ref m_firsts, .int (nI q_people), .ref m_secrets, .ref m_tried, .ref m_lanes, .ref m_lengths, .ref m_cells])), (m_manys, .inl (E.2.1 1, 18, .inl gt_manys)), (m_reals, .inl (E.2.1 1, 18, .inl gt_reals)), (m_factsOf, .inl (E.2.1 1, 432, .inl gt_factsOf)), (m_possible, .inl (E.2.1 1, 1728, .inl gt_possible)), (m_pairs, .inl (E.2.1 1, 576, .inl gt_pairs)), (m_pile, .inl (E.2.1 1, 34, .inl gt_pile)), (m_caseMany, .inl (E.2.1 1, 4, .inl f_caseMany)), (m_happen, .inl (E.2.1 1, 4, .inl f_happen)), (m_hasIf, .inl (E.2.1 3, 16, .inl f_hasIf)), (m_becomes, .inl (E.2.1 1, 16, .inl f_becomes)), (m_goneOf, .inl (E.2.1 1, 16, .inl f_goneOf)), (m_heard, .inl (E.2.1 1, 64, .inl f_heard)), (m_actMany, .inl (E.2.1 1, 25, .inl f_actMany)), (m_actOf, .inl (E.2.1 1, 800, .inl f_actOf)), (m_whom, .inl (E.2.1 1, 800, .inl f_whom)), (m_afters, .inl (E.2.1 1, 9, .inl f_afters)), (m_afterOf, .inl (E.2.1 1, 18, .inl f_afterOf))]) C hT [0, 1, 2, 3, 4, 5, 6, 7, 8, 9, 10, 11, 12, 13, 14, 15, 16, 17] rfl rfl rfl rfl rfl dX12_goes_148 (Or.inr ⟨gt_manys, gt_reals, gt_factsOf, gt_possible, gt_pairs, gt_pile, rfl, rfl, hnb_m_manys_27, hnb_m_reals_27, hpg_27⟩)
              · have zc_59 : ((ca : Nat) : Int) ≠ 0 := i_ne (nI_toInt (n := ca) (by omega)) rfl c_59
                omega
            · have zc_58 : ((ca : Nat) : Int) ≠ 0 := i_ne (nI_toInt (n := ca) (by omega)) rfl c_58
              refine ww_iload_n C dX12_goes_38 3 rfl rfl ?_
              refine ww_iconst (v := 2) C dX12_goes_39 rfl ?_
              refine ww_iload_n C dX12_goes_40 4 rfl rfl ?_
              refine ww_iconst (v := 1) C dX12_goes_41 rfl ?_
              refine ww_isub (v := (nI (n - 1))) C dX12_goes_42 (pk_sub (a := n) (b := 1) (by omega)) ?_
              refine ww_iload C dX12_goes_43 0 rfl ?_
              refine ww_isub (v := (nI ((n - 1) - k1))) C dX12_goes_45 (pk_sub (a := (n - 1)) (b := k1) (by omega)) ?_
              refine ww_imul (v := (nI (2 * ((n - 1) - k1)))) C dX12_goes_46 (pk_mul 2 ((n - 1) - k1)) ?_
              obtain ⟨x_60, ex_60⟩ : ∃ z : Int32, row >>> ((nI (2 * ((n - 1) - k1))) &&& 31) = z := ⟨_, rfl⟩
              refine ww_ishr (v := x_60) C dX12_goes_47 ex_60 ?_
              refine ww_iconst (v := 3) C dX12_goes_48 rfl ?_
              obtain ⟨j_61, hj_61, ej_61⟩ := pk_andE x_60 (m := 3) 2 rfl
              refine ww_iand (v := (nI j_61)) C dX12_goes_49 ej_61 ?_
              refine ww_istore (lv' := [(7, .int (nI j_61)), (6, .int (nI k1)), (5, .int (nI ca)), (0, .ref hm), (1, .int row), (2, .int (nI n)), (3, .int (nI am)), (4, .int (nI hd))]) C dX12_goes_50 rfl rfl ?_
              refine ww_aload_n C dX12_goes_52 3 rfl rfl ?_
              refine ww_get C fg_X12_52 0 rfl rfl dX12_goes_53 ?_
              refine ww_iload C dX12_goes_56 0 rfl ?_
              have hbx_62 := (hb_caseMany j_61 (by omega)).2
              refine ww_iald (v := (nI (cN f_caseMany j_61))) C 7 rfl (vp_in_nI (by omega) (by omega)) (ldn (by omega) (hb_caseMany j_61 (by omega)).1) dX12_goes_58 ?_
              refine ww_if_le (tgt := 88) C dX12_goes_59 (by decide) (fun c_63 => ?_) (fun c_63 => ?_)
              · have zc_63 : ((cN f_caseMany j_61 : Nat) : Int) ≤ 0 := i_le (nI_toInt (n := cN f_caseMany j_61) (by omega)) rfl c_63
                refine ww_iconst (v := 0) C dX12_goes_88 rfl ?_
                refine ww_istore (lv' := [(5, .int 0), (7, .int (nI j_61)), (6, .int (nI k1)), (0, .ref hm), (1, .int row), (2, .int (nI n)), (3, .int (nI am)), (4, .int (nI hd))]) C dX12_goes_89 rfl rfl ?_
                refine ww_iload C dX12_goes_91 0 rfl ?_
                refine ww_if_eq_t (tgt := 120) C dX12_goes_93 (by decide) (rfl) ?_
                refine ww_iconst (v := 0) C dX12_goes_120 rfl ?_
                refine ww_istore (lv' := [(5, .int 0), (7, .int (nI j_61)), (6, .int (nI k1)), (0, .ref hm), (1, .int row), (2, .int (nI n)), (3, .int (nI am)), (4, .int (nI hd))]) C dX12_goes_121 rfl rfl ?_
                refine ww_iinc (j := 2) (v := (nI (k1 + 1))) (lv' := [(6, .int (nI (k1 + 1))), (5, .int 0), (7, .int (nI j_61)), (0, .ref hm), (1, .int row), (2, .int (nI n)), (3, .int (nI am)), (4, .int (nI hd))]) C dX12_goes_123 rfl (nI_add k1 1) rfl rfl ?_
                refine ww_goto (tgt := 27) C dX12_goes_126 (by decide) ?_
                exact ww_lv [0, 1, 3, 4, 5, 6, 7] rfl (ww_sub [0, 1, 2, 3, 4, 5, 6, 7, 8, 9, 10, 11, 12, 13, 14, 15, 16, 17] rfl rfl (ih_27 (k1 + 1) 0 gt_manys gt_reals gt_factsOf gt_possible gt_pairs gt_pile (by omega) (by omega) hnb_m_manys_27 hnb_m_reals_27 hpg_27 (by omega)))
              · have zc_63 : ((cN f_caseMany j_61 : Nat) : Int) > 0 := i_nle (nI_toInt (n := cN f_caseMany j_61) (by omega)) rfl c_63
                refine ww_aload_n C dX12_goes_62 3 rfl rfl ?_
                refine ww_iload C dX12_goes_63 0 rfl ?_
                refine ww_iload C dX12_goes_65 1 rfl ?_
                refine ww_ci (wr := [(m_pairs, .inl (E.2.1 1, 576, .inl gt_pairs)), (m_afters, .inl (E.2.1 1, 9, .inl f_afters)), (m_afterOf, .inl (E.2.1 1, 18, .inl f_afterOf))]) (k' := 0) (n' := 0) C (run_V (As := [.int (nI j_61), .int (nI k1)]) (rest := []) C (r_canHappen X.2.1 E ro hm j_61 k1 m_manys m_reals m_factsOf m_possible q_undos q_models m_tape q_taped q_fault q_wrong q_wrongAt q_spot q_place q_token q_value m_ends m_letters m_actOf m_whom m_actMany m_tokens m_afters m_afterOf q_counted m_pile m_caseMany m_happen m_hasIf m_becomes m_goneOf m_heard m_pairs m_heaps q_rounds q_heapMany m_led m_newAt m_knowing m_firsts q_people m_secrets m_tried m_lanes m_lengths m_cells gt_manys gt_reals gt_factsOf gt_possible f_caseMany f_happen f_hasIf f_becomes f_goneOf f_heard f_actMany f_actOf f_whom gt_pile hnb_m_manys_27 hnb_m_reals_27 hb_caseMany hb_happen hb_actMany hpg_27 hhp hsv (by omega) (by omega)) mi_X12_canHappen wl_X12_279 rfl 0 12 rfl rfl rfl rfl rfl dX12_goes_67) (roK hro) [0, 1, 2, 3, 4, 7, 8, 9, 10, 11, 12, 13, 14, 15, 6] [5, 16, 17] rfl rfl rfl rfl (fun r_64 uz hw => ?_)
                rcases hw with hw | hw
                · refine ex1 hw ?_
                  clear hw
                  intro f_pilez_65 hw
                  refine an1 hw ?_
                  clear hw
                  intro he_66 hw
                  have he_67 := hw
                  clear hw
                  have he_66 := he_66.symm
                  subst he_66
                  subst he_67
                  refine ww_eq (ws' := [(m_pairs, .inl (E.2.1 1, 576, .inl gt_pairs)), (m_afters, .inl (E.2.1 1, 9, .inl f_afters)), (m_afterOf, .inl (E.2.1 1, 18, .inl f_afterOf)), (hm, .inr (12, [.ref m_manys, .ref m_reals, .ref m_factsOf, .ref m_possible, .int (nI q_undos), .int (nI q_models), .ref m_tape, .int (nI q_taped), .int q_fault, .int q_wrong, .int q_wrongAt, .int q_spot, .int q_place, .int q_token, .int q_value, .ref m_ends, .ref m_letters, .ref m_actOf, .ref m_whom, .ref m_actMany, .ref m_tokens, .ref m_afters, .ref m_afterOf, .int q_counted, .ref m_pile, .ref m_caseMany, .ref m_happen, .ref m_hasIf, .ref m_becomes, .ref m_goneOf, .ref m_heard, .ref m_pairs, .ref m_heaps, .int q_rounds, .int q_heapMany, .ref m_led, .ref m_newAt, .ref m_knowing, .ref m_firsts, .int (nI q_people), .ref m_secrets, .ref m_tried, .ref m_lanes, .ref m_lengths, .ref m_cells])), (m_manys, .inl (E.2.1 1, 18, .inl gt_manys)), (m_reals, .inl (E.2.1 1, 18, .inl gt_reals)), (m_factsOf, .inl (E.2.1 1, 432, .inl gt_factsOf)), (m_possible, .inl (E.2.1 1, 1728, .inl gt_possible)), (m_caseMany, .inl (E.2.1 1, 4, .inl f_caseMany)), (m_happen, .inl (E.2.1 1, 4, .inl f_happen)), (m_hasIf, .inl (E.2.1 3, 16, .inl f_hasIf)), (m_becomes, .inl (E.2.1 1, 16, .inl f_becomes)), (m_goneOf, .inl (E.2.1 1, 16, .inl f_goneOf)), (m_heard, .inl (E.2.1 1, 64, .inl f_heard)), (m_actMany, .inl (E.2.1 1, 25, .inl f_actMany)), (m_actOf, .inl (E.2.1 1, 800, .inl f_actOf)), (m_whom, .inl (E.2.1 1, 800, .inl f_whom)), (m_pile, .inl (E.2.1 1, 34, .inl f_pilez_65))]) ?_ rfl rfl rfl
                  refine ww_if_eq_f (tgt := 88) C dX12_goes_70 (by decide) (by decide) ?_
                  refine ww_aload_n C dX12_goes_73 3 rfl rfl ?_
                  refine ww_iload C dX12_goes_74 0 rfl ?_
                  refine ww_iload C dX12_goes_76 1 rfl ?_
                  refine ww_ci (wr := [(m_afters, .inl (E.2.1 1, 9, .inl f_afters)), (m_afterOf, .inl (E.2.1 1, 18, .inl f_afterOf))]) (k' := 0) (n' := 0) C (run_V (As := [.int (nI j_61), .int (nI k1)]) (rest := []) C (r_laid X.2.1 E ro hm j_61 k1 m_manys m_reals m_factsOf m_possible q_undos q_models m_tape q_taped q_fault q_wrong q_wrongAt q_spot q_place q_token q_value m_ends m_letters m_actOf m_whom m_actMany m_tokens m_afters m_afterOf q_counted m_pile m_caseMany m_happen m_hasIf m_becomes m_goneOf m_heard m_pairs m_heaps q_rounds q_heapMany m_led m_newAt m_knowing m_firsts q_people m_secrets m_tried m_lanes m_lengths m_cells gt_manys gt_reals gt_factsOf gt_possible gt_pairs f_pilez_65 f_caseMany f_happen f_hasIf f_becomes f_goneOf f_heard f_actMany f_actOf f_whom hnb_m_manys_27 hnb_m_reals_27 hpg_27 hb_caseMany hb_happen hb_actMany hhp hsv (by omega) (by omega) (by omega)) mi_X12_laid wl_X12_267 rfl 0 12 rfl rfl rfl rfl rfl dX12_goes_78) (roK hro) [3, 4, 5, 6, 7, 0, 17, 8, 9, 10, 11, 12, 13, 14, 15, 16] [1, 2] rfl rfl rfl rfl (fun r_71 uz hw => ?_)
                  rcases hw with hw | hw
                  · refine ex6 hw ?_
                    clear hw
                    intro f_manysz_72 f_realsz_73 f_factsOfz_74 f_possiblez_75 f_pairsz_76 f_pilez_77 hw
                    refine an6 hw ?_
                    clear hw
                    intro he_83 he_84 h_78 h_79 h_80 h_81 hw
                    have h_82 := hw
                    clear hw
                    have he_83 := he_83.symm
                    subst he_83
                    subst he_84
                    refine ww_eq (ws' := [(m_afters, .inl (E.2.1 1, 9, .inl f_afters)), (m_afterOf, .inl (E.2.1 1, 18, .inl f_afterOf)), (hm, .inr (12, [.ref m_manys, .ref m_reals, .ref m_factsOf, .ref m_possible, .int (nI q_undos), .int (nI q_models), .ref m_tape, .int (nI q_taped), .int q_fault, .int q_wrong, .int q_wrongAt, .int q_spot, .int q_place, .int q_token, .int q_value, .ref m_ends, .ref m_letters, .ref m_actOf, .ref m_whom, .ref m_actMany, .ref m_tokens, .ref m_afters, .ref m_afterOf, .int q_counted, .ref m_pile, .ref m_caseMany, .ref m_happen, .ref m_hasIf, .ref m_becomes, .ref m_goneOf, .ref m_heard, .ref m_pairs, .ref m_heaps, .int q_rounds, .int q_heapMany, .ref m_led, .ref m_newAt, .ref m_knowing, .ref m_firsts, .int (nI q_people), .ref m_secrets, .ref m_tried, .ref m_lanes, .ref m_lengths, .ref m_cells])), (m_manys, .inl (E.2.1 1, 18, .inl f_manysz_72)), (m_reals, .inl (E.2.1 1, 18, .inl f_realsz_73)), (m_factsOf, .inl (E.2.1 1, 432, .inl f_factsOfz_74)), (m_possible, .inl (E.2.1 1, 1728, .inl f_possiblez_75)), (m_pairs, .inl (E.2.1 1, 576, .inl f_pairsz_76)), (m_pile, .inl (E.2.1 1, 34, .inl f_pilez_77)), (m_caseMany, .inl (E.2.1 1, 4, .inl f_caseMany)), (m_happen, .inl (E.2.1 1, 4, .inl f_happen)), (m_hasIf, .inl (E.2.1 3, 16, .inl f_hasIf)), (m_becomes, .inl (E.2.1 1, 16, .inl f_becomes)), (m_goneOf, .inl (E.2.1 1, 16, .inl f_goneOf)), (m_heard, .inl (E.2.1 1, 64, .inl f_heard)), (m_actMany, .inl (E.2.1 1, 25, .inl f_actMany)), (m_actOf, .inl (E.2.1 1, 800, .inl f_actOf)), (m_whom, .inl (E.2.1 1, 800, .inl f_whom))]) ?_ rfl rfl rfl
                    refine ww_if_lt_t (tgt := 88) C dX12_goes_81 (by decide) (by decide) ?_
                    refine ww_iconst (v := 0) C dX12_goes_88 rfl ?_
                    refine ww_istore (lv' := [(5, .int 0), (7, .int (nI j_61)), (6, .int (nI k1)), (0, .ref hm), (1, .int row), (2, .int (nI n)), (3, .int (nI am)), (4, .int (nI hd))]) C dX12_goes_89 rfl rfl ?_
                    refine ww_iload C dX12_goes_91 0 rfl ?_
                    refine ww_if_eq_t (tgt := 120) C dX12_goes_93 (by decide) (rfl) ?_
                    refine ww_iconst (v := 0) C dX12_goes_120 rfl ?_
                    refine ww_istore (lv' := [(5, .int 0), (7, .int (nI j_61)), (6, .int (nI k1)), (0, .ref hm), (1, .int row), (2, .int (nI n)), (3, .int (nI am)), (4, .int (nI hd))]) C dX12_goes_121 rfl rfl ?_
                    refine ww_iinc (j := 2) (v := (nI (k1 + 1))) (lv' := [(6, .int (nI (k1 + 1))), (5, .int 0), (7, .int (nI j_61)), (0, .ref hm), (1, .int row), (2, .int (nI n)), (3, .int (nI am)), (4, .int (nI hd))]) C dX12_goes_123 rfl (nI_add k1 1) rfl rfl ?_
                    refine ww_goto (tgt := 27) C dX12_goes_126 (by decide) ?_
                    exact ww_lv [0, 1, 3, 4, 5, 6, 7] rfl (ww_sub [2, 3, 4, 5, 6, 7, 8, 9, 10, 11, 12, 13, 14, 15, 16, 17, 0, 1] rfl rfl (ih_27 (k1 + 1) 0 f_manysz_72 f_realsz_73 f_factsOfz_74 f_possiblez_75 f_pairsz_76 f_pilez_77 (by omega) (by omega) h_78 h_79 h_80 (by omega)))
                  · refine ex7 hw ?_
                    clear hw
                    intro mz_85 f_manysz_86 f_realsz_87 f_factsOfz_88 f_possiblez_89 f_pairsz_90 f_pilez_91 hw
                    refine an7 hw ?_
                    clear hw
                    intro he_98 he_99 h_92 h_93 h_94 h_95 h_96 hw
                    have h_97 := hw
                    clear hw
                    have he_98 := he_98.symm
                    subst he_98
                    subst he_99
                    refine ww_eq (ws' := [(m_afters, .inl (E.2.1 1, 9, .inl f_afters)), (m_afterOf, .inl (E.2.1 1, 18, .inl f_afterOf)), (hm, .inr (12, [.ref m_manys, .ref m_reals, .ref m_factsOf, .ref m_possible, .int (nI q_undos), .int (nI q_models), .ref m_tape, .int (nI q_taped), .int q_fault, .int q_wrong, .int q_wrongAt, .int q_spot, .int q_place, .int q_token, .int q_value, .ref m_ends, .ref m_letters, .ref m_actOf, .ref m_whom, .ref m_actMany, .ref m_tokens, .ref m_afters, .ref m_afterOf, .int q_counted, .ref m_pile, .ref m_caseMany, .ref m_happen, .ref m_hasIf, .ref m_becomes, .ref m_goneOf, .ref m_heard, .ref m_pairs, .ref m_heaps, .int q_rounds, .int q_heapMany, .ref m_led, .ref m_newAt, .ref m_knowing, .ref m_firsts, .int (nI q_people), .ref m_secrets, .ref m_tried, .ref m_lanes, .ref m_lengths, .ref m_cells])), (m_manys, .inl (E.2.1 1, 18, .inl f_manysz_86)), (m_reals, .inl (E.2.1 1, 18, .inl f_realsz_87)), (m_factsOf, .inl (E.2.1 1, 432, .inl f_factsOfz_88)), (m_possible, .inl (E.2.1 1, 1728, .inl f_possiblez_89)), (m_pairs, .inl (E.2.1 1, 576, .inl f_pairsz_90)), (m_pile, .inl (E.2.1 1, 34, .inl f_pilez_91)), (m_caseMany, .inl (E.2.1 1, 4, .inl f_caseMany)), (m_happen, .inl (E.2.1 1, 4, .inl f_happen)), (m_hasIf, .inl (E.2.1 3, 16, .inl f_hasIf)), (m_becomes, .inl (E.2.1 1, 16, .inl f_becomes)), (m_goneOf, .inl (E.2.1 1, 16, .inl f_goneOf)), (m_heard, .inl (E.2.1 1, 64, .inl f_heard)), (m_actMany, .inl (E.2.1 1, 25, .inl f_actMany)), (m_actOf, .inl (E.2.1 1, 800, .inl f_actOf)), (m_whom, .inl (E.2.1 1, 800, .inl f_whom))]) ?_ rfl rfl rfl
                    refine ww_if_lt (tgt := 88) C dX12_goes_81 (by decide) (fun c_100 => ?_) (fun c_100 => ?_)
                    · have zc_100 : ((mz_85 : Nat) : Int) < 0 := i_lt (nI_toInt (n := mz_85) (by omega)) rfl c_100
                      omega
                    · have zc_100 : ((mz_85 : Nat) : Int) ≥ 0 := i_nlt (nI_toInt (n := mz_85) (by omega)) rfl c_100
                      refine ww_iconst (v := 1) C dX12_goes_84 rfl ?_
                      refine ww_goto (tgt := 89) C dX12_goes_85 (by decide) ?_
                      refine ww_istore (lv' := [(5, .int 1), (7, .int (nI j_61)), (6, .int (nI k1)), (0, .ref hm), (1, .int row), (2, .int (nI n)), (3, .int (nI am)), (4, .int (nI hd))]) C dX12_goes_89 rfl rfl ?_
                      refine ww_iload C dX12_goes_91 0 rfl ?_
                      refine ww_if_eq_f (tgt := 120) C dX12_goes_93 (by decide) (by decide) ?_
                      refine ww_iload C dX12_goes_96 7 rfl ?_
                      refine ww_bipush (v := (-4)) C dX12_goes_98 rfl ?_
                      refine ww_icmp_eq (tgt := 116) C dX12_goes_100 (by decide) (fun c_101 => ?_) (fun c_101 => ?_)
                      · have zc_101 : ((hd : Nat) : Int) = (-4) := i_eq (nI_toInt (n := hd) (by omega)) rfl c_101
                        omega
                      · have zc_101 : ((hd : Nat) : Int) ≠ (-4) := i_ne (nI_toInt (n := hd) (by omega)) rfl c_101
                        refine ww_aload_n C dX12_goes_103 3 rfl rfl ?_
                        refine ww_iload C dX12_goes_104 7 rfl ?_
                        refine ww_iload C dX12_goes_106 2 rfl ?_
                        refine ww_iconst (v := 1) C dX12_goes_108 rfl ?_
                        refine ww_iadd (v := (nI (k1 + 1))) C dX12_goes_109 (nI_add k1 1) ?_
                        refine ww_ci (wr := []) (k' := 0) (n' := 0) C (run_V (As := [.int (nI hd), .int (nI (k1 + 1))]) (rest := []) C (r_isTrue X.2.1 E ro hm hd (k1 + 1) m_manys m_reals m_factsOf m_possible q_undos q_models m_tape q_taped q_fault q_wrong q_wrongAt q_spot q_place q_token q_value m_ends m_letters m_actOf m_whom m_actMany m_tokens m_afters m_afterOf q_counted m_pile m_caseMany m_happen m_hasIf m_becomes m_goneOf m_heard m_pairs m_heaps q_rounds q_heapMany m_led m_newAt m_knowing m_firsts q_people m_secrets m_tried m_lanes m_lengths m_cells f_manysz_86 f_realsz_87 f_factsOfz_88 f_possiblez_89 f_pairsz_90 f_pilez_91 f_caseMany f_happen f_hasIf f_becomes f_goneOf f_heard f_actMany f_actOf f_whom f_afters f_afterOf h_92 h_93 h_94 hb_caseMany hb_happen hb_actMany hhp hsv hb_afters hb_afterOf (by omega) (by omega)) mi_X12_isTrue wl_X12_276 rfl 0 12 rfl rfl rfl rfl rfl dX12_goes_110) (roK hro) [2, 3, 4, 5, 6, 7, 8, 9, 10, 11, 12, 13, 14, 15, 16, 17, 0, 1] [] rfl rfl rfl rfl (fun r_102 uz hw => ?_)
                        rcases hw with hw | hw
                        · refine ex6 hw ?_
                          clear hw
                          intro f_manysz_103 f_realsz_104 f_factsOfz_105 f_possiblez_106 f_pairsz_107 f_pilez_108 hw
                          refine an6 hw ?_
                          clear hw
                          intro he_114 he_115 h_109 h_110 h_111 h_112 hw
                          have h_113 := hw
                          clear hw
                          have he_114 := he_114.symm
                          subst he_114
                          subst he_115
                          refine ww_eq (ws' := [(hm, .inr (12, [.ref m_manys, .ref m_reals, .ref m_factsOf, .ref m_possible, .int (nI q_undos), .int (nI q_models), .ref m_tape, .int (nI q_taped), .int q_fault, .int q_wrong, .int q_wrongAt, .int q_spot, .int q_place, .int q_token, .int q_value, .ref m_ends, .ref m_letters, .ref m_actOf, .ref m_whom, .ref m_actMany, .ref m_tokens, .ref m_afters, .ref m_afterOf, .int q_counted, .ref m_pile, .ref m_caseMany, .ref m_happen, .ref m_hasIf, .ref m_becomes, .ref m_goneOf, .ref m_heard, .ref m_pairs, .ref m_heaps, .int q_rounds, .int q_heapMany, .ref m_led, .ref m_newAt, .ref m_knowing, .ref m_firsts, .int (nI q_people), .ref m_secrets, .ref m_tried, .ref m_lanes, .ref m_lengths, .ref m_cells])), (m_manys, .inl (E.2.1 1, 18, .inl f_manysz_103)), (m_reals, .inl (E.2.1 1, 18, .inl f_realsz_104)), (m_factsOf, .inl (E.2.1 1, 432, .inl f_factsOfz_105)), (m_possible, .inl (E.2.1 1, 1728, .inl f_possiblez_106)), (m_pairs, .inl (E.2.1 1, 576, .inl f_pairsz_107)), (m_pile, .inl (E.2.1 1, 34, .inl f_pilez_108)), (m_caseMany, .inl (E.2.1 1, 4, .inl f_caseMany)), (m_happen, .inl (E.2.1 1, 4, .inl f_happen)), (m_hasIf, .inl (E.2.1 3, 16, .inl f_hasIf)), (m_becomes, .inl (E.2.1 1, 16, .inl f_becomes)), (m_goneOf, .inl (E.2.1 1, 16, .inl f_goneOf)), (m_heard, .inl (E.2.1 1, 64, .inl f_heard)), (m_actMany, .inl (E.2.1 1, 25, .inl f_actMany)), (m_actOf, .inl (E.2.1 1, 800, .inl f_actOf)), (m_whom, .inl (E.2.1 1, 800, .inl f_whom)), (m_afters, .inl (E.2.1 1, 9, .inl f_afters)), (m_afterOf, .inl (E.2.1 1, 18, .inl f_afterOf))]) ?_ rfl rfl rfl
                          refine ww_if_eq_f (tgt := 120) C dX12_goes_113 (by decide) (by decide) ?_
                          refine ww_iconst (v := 1) C dX12_goes_116 rfl ?_
                          refine ww_goto (tgt := 121) C dX12_goes_117 (by decide) ?_
                          refine ww_istore (lv' := [(5, .int 1), (7, .int (nI j_61)), (6, .int (nI k1)), (0, .ref hm), (1, .int row), (2, .int (nI n)), (3, .int (nI am)), (4, .int (nI hd))]) C dX12_goes_121 rfl rfl ?_
                          refine ww_iinc (j := 2) (v := (nI (k1 + 1))) (lv' := [(6, .int (nI (k1 + 1))), (5, .int 1), (7, .int (nI j_61)), (0, .ref hm), (1, .int row), (2, .int (nI n)), (3, .int (nI am)), (4, .int (nI hd))]) C dX12_goes_123 rfl (nI_add k1 1) rfl rfl ?_
                          refine ww_goto (tgt := 27) C dX12_goes_126 (by decide) ?_
                          exact ww_lv [0, 1, 3, 4, 5, 6, 7] rfl (ww_sub [0, 1, 2, 3, 4, 5, 6, 7, 8, 9, 10, 11, 12, 13, 14, 15, 16, 17] rfl rfl (ih_27 (k1 + 1) 1 f_manysz_103 f_realsz_104 f_factsOfz_105 f_possiblez_106 f_pairsz_107 f_pilez_108 (by omega) (by omega) h_109 h_110 h_111 (by omega)))
                        · refine ex6 hw ?_
                          clear hw
                          intro f_manysz_116 f_realsz_117 f_factsOfz_118 f_possiblez_119 f_pairsz_120 f_pilez_121 hw
                          refine an6 hw ?_
                          clear hw
                          intro he_127 he_128 h_122 h_123 h_124 h_125 hw
                          have h_126 := hw
                          clear hw
                          have he_127 := he_127.symm
                          subst he_127
                          subst he_128
                          refine ww_eq (ws' := [(hm, .inr (12, [.ref m_manys, .ref m_reals, .ref m_factsOf, .ref m_possible, .int (nI q_undos), .int (nI q_models), .ref m_tape, .int (nI q_taped), .int q_fault, .int q_wrong, .int q_wrongAt, .int q_spot, .int q_place, .int q_token, .int q_value, .ref m_ends, .ref m_letters, .ref m_actOf, .ref m_whom, .ref m_actMany, .ref m_tokens, .ref m_afters, .ref m_afterOf, .int q_counted, .ref m_pile, .ref m_caseMany, .ref m_happen, .ref m_hasIf, .ref m_becomes, .ref m_goneOf, .ref m_heard, .ref m_pairs, .ref m_heaps, .int q_rounds, .int q_heapMany, .ref m_led, .ref m_newAt, .ref m_knowing, .ref m_firsts, .int (nI q_people), .ref m_secrets, .ref m_tried, .ref m_lanes, .ref m_lengths, .ref m_cells])), (m_manys, .inl (E.2.1 1, 18, .inl f_manysz_116)), (m_reals, .inl (E.2.1 1, 18, .inl f_realsz_117)), (m_factsOf, .inl (E.2.1 1, 432, .inl f_factsOfz_118)), (m_possible, .inl (E.2.1 1, 1728, .inl f_possiblez_119)), (m_pairs, .inl (E.2.1 1, 576, .inl f_pairsz_120)), (m_pile, .inl (E.2.1 1, 34, .inl f_pilez_121)), (m_caseMany, .inl (E.2.1 1, 4, .inl f_caseMany)), (m_happen, .inl (E.2.1 1, 4, .inl f_happen)), (m_hasIf, .inl (E.2.1 3, 16, .inl f_hasIf)), (m_becomes, .inl (E.2.1 1, 16, .inl f_becomes)), (m_goneOf, .inl (E.2.1 1, 16, .inl f_goneOf)), (m_heard, .inl (E.2.1 1, 64, .inl f_heard)), (m_actMany, .inl (E.2.1 1, 25, .inl f_actMany)), (m_actOf, .inl (E.2.1 1, 800, .inl f_actOf)), (m_whom, .inl (E.2.1 1, 800, .inl f_whom)), (m_afters, .inl (E.2.1 1, 9, .inl f_afters)), (m_afterOf, .inl (E.2.1 1, 18, .inl f_afterOf))]) ?_ rfl rfl rfl
                          refine ww_if_eq_t (tgt := 120) C dX12_goes_113 (by decide) (rfl) ?_
                          refine ww_iconst (v := 0) C dX12_goes_120 rfl ?_
                          refine ww_istore (lv' := [(5, .int 0), (7, .int (nI j_61)), (6, .int (nI k1)), (0, .ref hm), (1, .int row), (2, .int (nI n)), (3, .int (nI am)), (4, .int (nI hd))]) C dX12_goes_121 rfl rfl ?_
                          refine ww_iinc (j := 2) (v := (nI (k1 + 1))) (lv' := [(6, .int (nI (k1 + 1))), (5, .int 0), (7, .int (nI j_61)), (0, .ref hm), (1, .int row), (2, .int (nI n)), (3, .int (nI am)), (4, .int (nI hd))]) C dX12_goes_123 rfl (nI_add k1 1) rfl rfl ?_
                          refine ww_goto (tgt := 27) C dX12_goes_126 (by decide) ?_
                          exact ww_lv [0, 1, 3, 4, 5, 6, 7] rfl (ww_sub [0, 1, 2, 3, 4, 5, 6, 7, 8, 9, 10, 11, 12, 13, 14, 15, 16, 17] rfl rfl (ih_27 (k1 + 1) 0 f_manysz_116 f_realsz_117 f_factsOfz_118 f_possiblez_119 f_pairsz_120 f_pilez_121 (by omega) (by omega) h_122 h_123 h_124 (by omega)))
                · refine ex1 hw ?_
                  clear hw
                  intro f_pilez_68 hw
                  refine an1 hw ?_
                  clear hw
                  intro he_69 hw
                  have he_70 := hw
                  clear hw
                  have he_69 := he_69.symm
                  subst he_69
                  subst he_70
                  refine ww_eq (ws' := [(m_pairs, .inl (E.2.1 1, 576, .inl gt_pairs)), (m_afters, .inl (E.2.1 1, 9, .inl f_afters)), (m_afterOf, .inl (E.2.1 1, 18, .inl f_afterOf)), (hm, .inr (12, [.ref m_manys, .ref m_reals, .ref m_factsOf, .ref m_possible, .int (nI q_undos), .int (nI q_models), .ref m_tape, .int (nI q_taped), .int q_fault, .int q_wrong, .int q_wrongAt, .int q_spot, .int q_place, .int q_token, .int q_value, .ref m_ends, .ref m_letters, .ref m_actOf, .ref m_whom, .ref m_actMany, .ref m_tokens, .ref m_afters, .ref m_afterOf, .int q_counted, .ref m_pile, .ref m_caseMany, .ref m_happen, .ref m_hasIf, .ref m_becomes, .ref m_goneOf, .ref m_heard, .ref m_pairs, .ref m_heaps, .int q_rounds, .int q_heapMany, .ref m_led, .ref m_newAt, .ref m_knowing, .ref m_firsts, .int (nI q_people), .ref m_secrets, .ref m_tried, .ref m_lanes, .ref m_lengths, .ref m_cells])), (m_manys, .inl (E.2.1 1, 18, .inl gt_manys)), (m_reals, .inl (E.2.1 1, 18, .inl gt_reals)), (m_factsOf, .inl (E.2.1 1, 432, .inl gt_factsOf)), (m_possible, .inl (E.2.1 1, 1728, .inl gt_possible)), (m_caseMany, .inl (E.2.1 1, 4, .inl f_caseMany)), (m_happen, .inl (E.2.1 1, 4, .inl f_happen)), (m_hasIf, .inl (E.2.1 3, 16, .inl f_hasIf)), (m_becomes, .inl (E.2.1 1, 16, .inl f_becomes)), (m_goneOf, .inl (E.2.1 1, 16, .inl f_goneOf)), (m_heard, .inl (E.2.1 1, 64, .inl f_heard)), (m_actMany, .inl (E.2.1 1, 25, .inl f_actMany)), (m_actOf, .inl (E.2.1 1, 800, .inl f_actOf)), (m_whom, .inl (E.2.1 1, 800, .inl f_whom)), (m_pile, .inl (E.2.1 1, 34, .inl f_pilez_68))]) ?_ rfl rfl rfl
                  refine ww_if_eq_t (tgt := 88) C dX12_goes_70 (by decide) (rfl) ?_
                  refine ww_iconst (v := 0) C dX12_goes_88 rfl ?_
                  refine ww_istore (lv' := [(5, .int 0), (7, .int (nI j_61)), (6, .int (nI k1)), (0, .ref hm), (1, .int row), (2, .int (nI n)), (3, .int (nI am)), (4, .int (nI hd))]) C dX12_goes_89 rfl rfl ?_
                  refine ww_iload C dX12_goes_91 0 rfl ?_
                  refine ww_if_eq_t (tgt := 120) C dX12_goes_93 (by decide) (rfl) ?_
                  refine ww_iconst (v := 0) C dX12_goes_120 rfl ?_
                  refine ww_istore (lv' := [(5, .int 0), (7, .int (nI j_61)), (6, .int (nI k1)), (0, .ref hm), (1, .int row), (2, .int (nI n)), (3, .int (nI am)), (4, .int (nI hd))]) C dX12_goes_121 rfl rfl ?_
                  refine ww_iinc (j := 2) (v := (nI (k1 + 1))) (lv' := [(6, .int (nI (k1 + 1))), (5, .int 0), (7, .int (nI j_61)), (0, .ref hm), (1, .int row), (2, .int (nI n)), (3, .int (nI am)), (4, .int (nI hd))]) C dX12_goes_123 rfl (nI_add k1 1) rfl rfl ?_
                  refine ww_goto (tgt := 27) C dX12_goes_126 (by decide) ?_
                  exact ww_lv [0, 1, 3, 4, 5, 6, 7] rfl (ww_sub [3, 4, 5, 6, 7, 0, 17, 8, 9, 10, 11, 12, 13, 14, 15, 16, 1, 2] rfl rfl (ih_27 (k1 + 1) 0 gt_manys gt_reals gt_factsOf gt_possible gt_pairs f_pilez_68 (by omega) (by omega) hnb_m_manys_27 hnb_m_reals_27 hpg_27 (by omega)))
      exact ww_lv [0, 1, 2, 3, 4, 5, 6] rfl (ww_sub [0, 1, 2, 3, 4, 5, 6, 7, 8, 9, 10, 11, 12, 13, 14, 15, 16, 17] rfl rfl (loop_27 _ 0 1 f_manysz_3 f_realsz_4 f_factsOfz_5 f_possiblez_6 f_pairsz_7 f_pilez_8 (by omega) (by omega) h_9 h_10 h_11 (Nat.lt_succ_self _)))
    · refine ex6 hw ?_
      clear hw
      intro f_manysz_16 f_realsz_17 f_factsOfz_18 f_possiblez_19 f_pairsz_20 f_pilez_21 hw
      refine an6 hw ?_
      clear hw
      intro he_27 he_28 h_22 h_23 h_24 h_25 hw
      have h_26 := hw
      clear hw
      have he_27 := he_27.symm
      subst he_27
      subst he_28
      refine ww_eq (ws' := [(hm, .inr (12, [.ref m_manys, .ref m_reals, .ref m_factsOf, .ref m_possible, .int (nI q_undos), .int (nI q_models), .ref m_tape, .int (nI q_taped), .int q_fault, .int q_wrong, .int q_wrongAt, .int q_spot, .int q_place, .int q_token, .int q_value, .ref m_ends, .ref m_letters, .ref m_actOf, .ref m_whom, .ref m_actMany, .ref m_tokens, .ref m_afters, .ref m_afterOf, .int q_counted, .ref m_pile, .ref m_caseMany, .ref m_happen, .ref m_hasIf, .ref m_becomes, .ref m_goneOf, .ref m_heard, .ref m_pairs, .ref m_heaps, .int q_rounds, .int q_heapMany, .ref m_led, .ref m_newAt, .ref m_knowing, .ref m_firsts, .int (nI q_people), .ref m_secrets, .ref m_tried, .ref m_lanes, .ref m_lengths, .ref m_cells])), (m_manys, .inl (E.2.1 1, 18, .inl f_manysz_16)), (m_reals, .inl (E.2.1 1, 18, .inl f_realsz_17)), (m_factsOf, .inl (E.2.1 1, 432, .inl f_factsOfz_18)), (m_possible, .inl (E.2.1 1, 1728, .inl f_possiblez_19)), (m_pairs, .inl (E.2.1 1, 576, .inl f_pairsz_20)), (m_pile, .inl (E.2.1 1, 34, .inl f_pilez_21)), (m_caseMany, .inl (E.2.1 1, 4, .inl f_caseMany)), (m_happen, .inl (E.2.1 1, 4, .inl f_happen)), (m_hasIf, .inl (E.2.1 3, 16, .inl f_hasIf)), (m_becomes, .inl (E.2.1 1, 16, .inl f_becomes)), (m_goneOf, .inl (E.2.1 1, 16, .inl f_goneOf)), (m_heard, .inl (E.2.1 1, 64, .inl f_heard)), (m_actMany, .inl (E.2.1 1, 25, .inl f_actMany)), (m_actOf, .inl (E.2.1 1, 800, .inl f_actOf)), (m_whom, .inl (E.2.1 1, 800, .inl f_whom)), (m_afters, .inl (E.2.1 1, 9, .inl f_afters)), (m_afterOf, .inl (E.2.1 1, 18, .inl f_afterOf))]) ?_ rfl rfl rfl
      refine ww_if_eq_t (tgt := 21) C dX12_goes_14 (by decide) (rfl) ?_
      refine ww_iconst (v := 0) C dX12_goes_21 rfl ?_
      refine ww_istore (lv' := [(5, .int 0), (0, .ref hm), (1, .int row), (2, .int (nI n)), (3, .int (nI am)), (4, .int (nI hd))]) C dX12_goes_22 rfl rfl ?_
      refine ww_iconst (v := 0) C dX12_goes_24 rfl ?_
      refine ww_istore (lv' := [(6, .int 0), (5, .int 0), (0, .ref hm), (1, .int row), (2, .int (nI n)), (3, .int (nI am)), (4, .int (nI hd))]) C dX12_goes_25 rfl rfl ?_
      refine ww_iload C dX12_goes_27 0 rfl ?_
      refine ww_iload_n C dX12_goes_29 4 rfl rfl ?_
      refine ww_icmp_ge (tgt := 129) C dX12_goes_30 (by decide) (fun c_129 => ?_) (fun c_129 => ?_)
      · have zc_129 : 0 ≥ ((n : Nat) : Int) := i_le (nI_toInt (n := n) (by omega)) rfl c_129
        refine ww_iload C dX12_goes_129 1 rfl ?_
        refine ww_if_eq_t (tgt := 147) C dX12_goes_131 (by decide) (rfl) ?_
        refine ww_iconst (v := 0) C dX12_goes_147 rfl ?_
        exact ww_zret (u := [(hm, .inr (12, [.ref m_manys, .ref m_reals, .ref m_factsOf, .ref m_possible, .int (nI q_undos), .int (nI q_models), .ref m_tape, .int (nI q_taped), .int q_fault, .int q_wrong, .int q_wrongAt, .int q_spot, .int q_place, .int q_token, .int q_value, .ref m_ends, .ref m_letters, .ref m_actOf, .ref m_whom, .ref m_actMany, .ref m_tokens, .ref m_afters, .ref m_afterOf, .int q_counted, .ref m_pile, .ref m_caseMany, .ref m_happen, .ref m_hasIf, .ref m_becomes, .ref m_goneOf, .ref m_heard, .ref m_pairs, .ref m_heaps, .int q_rounds, .int q_heapMany, .ref m_led, .ref m_newAt, .ref m_knowing, .ref m_firsts, .int (nI q_people), .ref m_secrets, .ref m_tried, .ref m_lanes, .ref m_lengths, .ref m_cells])), (m_manys, .inl (E.2.1 1, 18, .inl f_manysz_16)), (m_reals, .inl (E.2.1 1, 18, .inl f_realsz_17)), (m_factsOf, .inl (E.2.1 1, 432, .inl f_factsOfz_18)), (m_possible, .inl (E.2.1 1, 1728, .inl f_possiblez_19)), (m_pairs, .inl (E.2.1 1, 576, .inl f_pairsz_20)), (m_pile, .inl (E.2.1 1, 34, .inl f_pilez_21)), (m_caseMany, .inl (E.2.1 1, 4, .inl f_caseMany)), (m_happen, .inl (E.2.1 1, 4, .inl f_happen)), (m_hasIf, .inl (E.2.1 3, 16, .inl f_hasIf)), (m_becomes, .inl (E.2.1 1, 16, .inl f_becomes)), (m_goneOf, .inl (E.2.1 1, 16, .inl f_goneOf)), (m_heard, .inl (E.2.1 1, 64, .inl f_heard)), (m_actMany, .inl (E.2.1 1, 25, .inl f_actMany)), (m_actOf, .inl (E.2.1 1, 800, .inl f_actOf)), (m_whom, .inl (E.2.1 1, 800, .inl f_whom)), (m_afters, .inl (E.2.1 1, 9, .inl f_afters)), (m_afterOf, .inl (E.2.1 1, 18, .inl f_afterOf))]) C hT [0, 1, 2, 3, 4, 5, 6, 7, 8, 9, 10, 11, 12, 13, 14, 15, 16, 17] rfl rfl rfl rfl rfl dX12_goes_148 (Or.inr ⟨f_manysz_16, f_realsz_17, f_factsOfz_18, f_possiblez_19, f_pairsz_20, f_pilez_21, rfl, rfl, h_22, h_23, h_24⟩)
      · have zc_129 : 0 < ((n : Nat) : Int) := i_nle (nI_toInt (n := n) (by omega)) rfl c_129
        refine ww_iload C dX12_goes_33 1 rfl ?_
        refine ww_if_eq_t (tgt := 129) C dX12_goes_35 (by decide) (rfl) ?_
        refine ww_iload C dX12_goes_129 1 rfl ?_
        refine ww_if_eq_t (tgt := 147) C dX12_goes_131 (by decide) (rfl) ?_
        refine ww_iconst (v := 0) C dX12_goes_147 rfl ?_
        exact ww_zret (u := [(hm, .inr (12, [.ref m_manys, .ref m_reals, .ref m_factsOf, .ref m_possible, .int (nI q_undos), .int (nI q_models), .ref m_tape, .int (nI q_taped), .int q_fault, .int q_wrong, .int q_wrongAt, .int q_spot, .int q_place, .int q_token, .int q_value, .ref m_ends, .ref m_letters, .ref m_actOf, .ref m_whom, .ref m_actMany, .ref m_tokens, .ref m_afters, .ref m_afterOf, .int q_counted, .ref m_pile, .ref m_caseMany, .ref m_happen, .ref m_hasIf, .ref m_becomes, .ref m_goneOf, .ref m_heard, .ref m_pairs, .ref m_heaps, .int q_rounds, .int q_heapMany, .ref m_led, .ref m_newAt, .ref m_knowing, .ref m_firsts, .int (nI q_people), .ref m_secrets, .ref m_tried, .ref m_lanes, .ref m_lengths, .ref m_cells])), (m_manys, .inl (E.2.1 1, 18, .inl f_manysz_16)), (m_reals, .inl (E.2.1 1, 18, .inl f_realsz_17)), (m_factsOf, .inl (E.2.1 1, 432, .inl f_factsOfz_18)), (m_possible, .inl (E.2.1 1, 1728, .inl f_possiblez_19)), (m_pairs, .inl (E.2.1 1, 576, .inl f_pairsz_20)), (m_pile, .inl (E.2.1 1, 34, .inl f_pilez_21)), (m_caseMany, .inl (E.2.1 1, 4, .inl f_caseMany)), (m_happen, .inl (E.2.1 1, 4, .inl f_happen)), (m_hasIf, .inl (E.2.1 3, 16, .inl f_hasIf)), (m_becomes, .inl (E.2.1 1, 16, .inl f_becomes)), (m_goneOf, .inl (E.2.1 1, 16, .inl f_goneOf)), (m_heard, .inl (E.2.1 1, 64, .inl f_heard)), (m_actMany, .inl (E.2.1 1, 25, .inl f_actMany)), (m_actOf, .inl (E.2.1 1, 800, .inl f_actOf)), (m_whom, .inl (E.2.1 1, 800, .inl f_whom)), (m_afters, .inl (E.2.1 1, 9, .inl f_afters)), (m_afterOf, .inl (E.2.1 1, 18, .inl f_afterOf))]) C hT [0, 1, 2, 3, 4, 5, 6, 7, 8, 9, 10, 11, 12, 13, 14, 15, 16, 17] rfl rfl rfl rfl rfl dX12_goes_148 (Or.inr ⟨f_manysz_16, f_realsz_17, f_factsOfz_18, f_possiblez_19, f_pairsz_20, f_pilez_21, rfl, rfl, h_22, h_23, h_24⟩)
