theorem dX12_truthOf_0 : decode cX12_truthOf 0 = .ok (.iload_n 2, 1) := by decide +kernel
theorem dX12_truthOf_1 : decode cX12_truthOf 1 = .ok (.istore_n 3, 1) := by decide +kernel
theorem dX12_truthOf_2 : decode cX12_truthOf 2 = .ok (.iconst 1, 1) := by decide +kernel
theorem dX12_truthOf_3 : decode cX12_truthOf 3 = .ok (.istore 4, 2) := by decide +kernel
theorem dX12_truthOf_5 : decode cX12_truthOf 5 = .ok (.iconst 0, 1) := by decide +kernel
theorem dX12_truthOf_6 : decode cX12_truthOf 6 = .ok (.istore 5, 2) := by decide +kernel
theorem dX12_truthOf_8 : decode cX12_truthOf 8 = .ok (.iload 5, 2) := by decide +kernel
theorem dX12_truthOf_10 : decode cX12_truthOf 10 = .ok (.aload_n 0, 1) := by decide +kernel
theorem dX12_truthOf_11 : decode cX12_truthOf 11 = .ok (.getfield 43, 3) := by decide +kernel
theorem dX12_truthOf_14 : decode cX12_truthOf 14 = .ok (.iload_n 1, 1) := by decide +kernel
theorem dX12_truthOf_15 : decode cX12_truthOf 15 = .ok (.iaload, 1) := by decide +kernel
theorem dX12_truthOf_16 : decode cX12_truthOf 16 = .ok (.if_icmp .ge 67, 3) := by decide +kernel
theorem dX12_truthOf_83 : decode cX12_truthOf 83 = .ok (.iload 4, 2) := by decide +kernel
theorem dX12_truthOf_85 : decode cX12_truthOf 85 = .ok (.ifCond .eq 12, 3) := by decide +kernel
theorem dX12_truthOf_97 : decode cX12_truthOf 97 = .ok (.aload_n 0, 1) := by decide +kernel
theorem dX12_truthOf_98 : decode cX12_truthOf 98 = .ok (.getfield 7, 3) := by decide +kernel
theorem dX12_truthOf_101 : decode cX12_truthOf 101 = .ok (.iload_n 3, 1) := by decide +kernel
theorem dX12_truthOf_102 : decode cX12_truthOf 102 = .ok (.iaload, 1) := by decide +kernel
theorem dX12_truthOf_103 : decode cX12_truthOf 103 = .ok (.invokestatic 230, 3) := by decide +kernel
theorem dX12_truthOf_106 : decode cX12_truthOf 106 = .ok (.istore 5, 2) := by decide +kernel
theorem dX12_truthOf_108 : decode cX12_truthOf 108 = .ok (.iload_n 3, 1) := by decide +kernel
theorem dX12_truthOf_109 : decode cX12_truthOf 109 = .ok (.iload_n 2, 1) := by decide +kernel
theorem dX12_truthOf_110 : decode cX12_truthOf 110 = .ok (.if_icmp .le 30, 3) := by decide +kernel
theorem dX12_truthOf_140 : decode cX12_truthOf 140 = .ok (.iload 5, 2) := by decide +kernel
theorem dX12_truthOf_142 : decode cX12_truthOf 142 = .ok (.ireturn, 1) := by decide +kernel
theorem dX12_truthOf_113 : decode cX12_truthOf 113 = .ok (.iinc 3 (-1), 3) := by decide +kernel
theorem dX12_truthOf_116 : decode cX12_truthOf 116 = .ok (.aload_n 0, 1) := by decide +kernel
theorem dX12_truthOf_117 : decode cX12_truthOf 117 = .ok (.aload_n 0, 1) := by decide +kernel
theorem dX12_truthOf_118 : decode cX12_truthOf 118 = .ok (.getfield 46, 3) := by decide +kernel
theorem dX12_truthOf_121 : decode cX12_truthOf 121 = .ok (.iconst 2, 1) := by decide +kernel
theorem dX12_truthOf_122 : decode cX12_truthOf 122 = .ok (.iload_n 1, 1) := by decide +kernel
theorem dX12_truthOf_123 : decode cX12_truthOf 123 = .ok (.imul, 1) := by decide +kernel
theorem dX12_truthOf_124 : decode cX12_truthOf 124 = .ok (.iload_n 3, 1) := by decide +kernel
theorem dX12_truthOf_125 : decode cX12_truthOf 125 = .ok (.iadd, 1) := by decide +kernel
theorem dX12_truthOf_126 : decode cX12_truthOf 126 = .ok (.iload_n 2, 1) := by decide +kernel
theorem dX12_truthOf_127 : decode cX12_truthOf 127 = .ok (.isub, 1) := by decide +kernel
theorem dX12_truthOf_128 : decode cX12_truthOf 128 = .ok (.iaload, 1) := by decide +kernel
theorem dX12_truthOf_129 : decode cX12_truthOf 129 = .ok (.iload_n 3, 1) := by decide +kernel
theorem dX12_truthOf_130 : decode cX12_truthOf 130 = .ok (.iload 5, 2) := by decide +kernel
theorem dX12_truthOf_132 : decode cX12_truthOf 132 = .ok (.invokevirtual 270, 3) := by decide +kernel
theorem wl_X12_270 : Cond.methodLink RX12 270 yX12_broughtBack ∈ TB := tbm (tq6 (List.mem_of_getElem? (i := 185) (by decide +kernel))) (by decide +kernel)
theorem wc_X12_broughtBack : Cond.code yX12_broughtBack cX12_broughtBack 8 (some .int) ∈ TB := tbm (tq6 (List.mem_of_getElem? (i := 188) (rfl))) (by decide +kernel)
theorem wi_X12_broughtBack : Cond.instanceMethod yX12_broughtBack ∈ TB := tbm (tq6 (List.mem_of_getElem? (i := 187) (by decide +kernel))) (by decide +kernel)
theorem ws_X12_broughtBack : Cond.selects RX12 yX12_broughtBack yX12_broughtBack ∈ TB := tbm (tq0 (List.mem_of_getElem? (i := 65) (by decide +kernel))) (by decide +kernel)
theorem mi_X12_broughtBack : MI yX12_broughtBack cX12_broughtBack 8 (some .int) 3 := ⟨wc_X12_broughtBack, wn_X12, ⟨by decide +kernel, by decide +kernel, by decide +kernel⟩, wi_X12_broughtBack, ws_X12_broughtBack⟩
theorem dX12_truthOf_135 : decode cX12_truthOf 135 = .ok (.istore 5, 2) := by decide +kernel
theorem dX12_truthOf_137 : decode cX12_truthOf 137 = .ok (.goto (-29), 3) := by decide +kernel
theorem dX12_truthOf_88 : decode cX12_truthOf 88 = .ok (.aload_n 0, 1) := by decide +kernel
theorem dX12_truthOf_89 : decode cX12_truthOf 89 = .ok (.iload_n 1, 1) := by decide +kernel
theorem dX12_truthOf_90 : decode cX12_truthOf 90 = .ok (.iload_n 3, 1) := by decide +kernel
theorem dX12_truthOf_91 : decode cX12_truthOf 91 = .ok (.invokevirtual 256, 3) := by decide +kernel
theorem dX12_truthOf_94 : decode cX12_truthOf 94 = .ok (.goto 12, 3) := by decide +kernel
theorem dX12_truthOf_19 : decode cX12_truthOf 19 = .ok (.iload 4, 2) := by decide +kernel
theorem dX12_truthOf_21 : decode cX12_truthOf 21 = .ok (.ifCond .eq 62, 3) := by decide +kernel
theorem dX12_truthOf_24 : decode cX12_truthOf 24 = .ok (.aload_n 0, 1) := by decide +kernel
theorem dX12_truthOf_25 : decode cX12_truthOf 25 = .ok (.getfield 46, 3) := by decide +kernel
theorem dX12_truthOf_28 : decode cX12_truthOf 28 = .ok (.iconst 2, 1) := by decide +kernel
theorem dX12_truthOf_29 : decode cX12_truthOf 29 = .ok (.iload_n 1, 1) := by decide +kernel
theorem dX12_truthOf_30 : decode cX12_truthOf 30 = .ok (.imul, 1) := by decide +kernel
theorem dX12_truthOf_31 : decode cX12_truthOf 31 = .ok (.iload 5, 2) := by decide +kernel
theorem dX12_truthOf_33 : decode cX12_truthOf 33 = .ok (.iadd, 1) := by decide +kernel
theorem dX12_truthOf_34 : decode cX12_truthOf 34 = .ok (.iaload, 1) := by decide +kernel
theorem dX12_truthOf_35 : decode cX12_truthOf 35 = .ok (.istore 6, 2) := by decide +kernel
theorem dX12_truthOf_37 : decode cX12_truthOf 37 = .ok (.aload_n 0, 1) := by decide +kernel
theorem dX12_truthOf_38 : decode cX12_truthOf 38 = .ok (.getfield 52, 3) := by decide +kernel
theorem dX12_truthOf_41 : decode cX12_truthOf 41 = .ok (.iload 6, 2) := by decide +kernel
theorem dX12_truthOf_43 : decode cX12_truthOf 43 = .ok (.iaload, 1) := by decide +kernel
theorem dX12_truthOf_44 : decode cX12_truthOf 44 = .ok (.ifCond .le 17, 3) := by decide +kernel
theorem dX12_truthOf_61 : decode cX12_truthOf 61 = .ok (.iconst 0, 1) := by decide +kernel
theorem dX12_truthOf_62 : decode cX12_truthOf 62 = .ok (.istore 4, 2) := by decide +kernel
theorem dX12_truthOf_64 : decode cX12_truthOf 64 = .ok (.iload_n 3, 1) := by decide +kernel
theorem dX12_truthOf_65 : decode cX12_truthOf 65 = .ok (.iload 4, 2) := by decide +kernel
theorem dX12_truthOf_67 : decode cX12_truthOf 67 = .ok (.ifCond .eq 7, 3) := by decide +kernel
theorem dX12_truthOf_74 : decode cX12_truthOf 74 = .ok (.iconst 0, 1) := by decide +kernel
theorem dX12_truthOf_75 : decode cX12_truthOf 75 = .ok (.iadd, 1) := by decide +kernel
theorem dX12_truthOf_76 : decode cX12_truthOf 76 = .ok (.istore_n 3, 1) := by decide +kernel
theorem dX12_truthOf_77 : decode cX12_truthOf 77 = .ok (.iinc 5 1, 3) := by decide +kernel
theorem dX12_truthOf_80 : decode cX12_truthOf 80 = .ok (.goto (-72), 3) := by decide +kernel
theorem dX12_truthOf_47 : decode cX12_truthOf 47 = .ok (.aload_n 0, 1) := by decide +kernel
theorem dX12_truthOf_48 : decode cX12_truthOf 48 = .ok (.iload 6, 2) := by decide +kernel
theorem dX12_truthOf_50 : decode cX12_truthOf 50 = .ok (.iload_n 3, 1) := by decide +kernel
theorem dX12_truthOf_51 : decode cX12_truthOf 51 = .ok (.invokevirtual 267, 3) := by decide +kernel
theorem wl_X12_267 : Cond.methodLink RX12 267 yX12_laid ∈ TB := tbm (tq6 (List.mem_of_getElem? (i := 162) (by decide +kernel))) (by decide +kernel)
theorem wc_X12_laid : Cond.code yX12_laid cX12_laid 9 (some .int) ∈ TB := tbm (tq6 (List.mem_of_getElem? (i := 165) (rfl))) (by decide +kernel)
theorem wi_X12_laid : Cond.instanceMethod yX12_laid ∈ TB := tbm (tq6 (List.mem_of_getElem? (i := 164) (by decide +kernel))) (by decide +kernel)
theorem ws_X12_laid : Cond.selects RX12 yX12_laid yX12_laid ∈ TB := tbm (tq0 (List.mem_of_getElem? (i := 60) (by decide +kernel))) (by decide +kernel)
theorem mi_X12_laid : MI yX12_laid cX12_laid 9 (some .int) 2 := ⟨wc_X12_laid, wn_X12, ⟨by decide +kernel, by decide +kernel, by decide +kernel⟩, wi_X12_laid, ws_X12_laid⟩
theorem dX12_truthOf_54 : decode cX12_truthOf 54 = .ok (.ifCond .lt 7, 3) := by decide +kernel
theorem dX12_truthOf_57 : decode cX12_truthOf 57 = .ok (.iconst 1, 1) := by decide +kernel
theorem dX12_truthOf_58 : decode cX12_truthOf 58 = .ok (.goto 4, 3) := by decide +kernel
theorem dX12_truthOf_70 : decode cX12_truthOf 70 = .ok (.iconst 1, 1) := by decide +kernel
theorem dX12_truthOf_71 : decode cX12_truthOf 71 = .ok (.goto 4, 3) := by decide +kernel
set_option maxRecDepth 100000 in
set_option maxHeartbeats 4000000 in
theorem r_truthOf (l : Launch) (E : EV) (ro : va_W) (hm : Nat) (k : Nat) (pa : Nat) (m_manys : Nat) (m_reals : Nat) (m_factsOf : Nat) (m_possible : Nat) (q_undos : Nat) (q_models : Nat) (m_tape : Nat) (q_taped : Nat) (q_fault : Int32) (q_wrong : Int32) (q_wrongAt : Int32) (q_spot : Int32) (q_place : Int32) (q_token : Int32) (q_value : Int32) (m_ends : Nat) (m_letters : Nat) (m_actOf : Nat) (m_whom : Nat) (m_actMany : Nat) (m_tokens : Nat) (m_afters : Nat) (m_afterOf : Nat) (q_counted : Int32) (m_pile : Nat) (m_caseMany : Nat) (m_happen : Nat) (m_hasIf : Nat) (m_becomes : Nat) (m_goneOf : Nat) (m_heard : Nat) (m_pairs : Nat) (m_heaps : Nat) (q_rounds : Int32) (q_heapMany : Int32) (m_led : Nat) (m_newAt : Nat) (m_knowing : Nat) (m_firsts : Nat) (q_people : Nat) (m_secrets : Nat) (m_tried : Nat) (m_lanes : Nat) (m_lengths : Nat) (m_cells : Nat) (f_manys : Nat → Int32) (f_reals : Nat → Int32) (f_factsOf : Nat → Int32) (f_possible : Nat → Int32) (f_pairs : Nat → Int32) (f_pile : Nat → Int32) (f_caseMany : Nat → Int32) (f_happen : Nat → Int32) (f_hasIf : Nat → Int32) (f_becomes : Nat → Int32) (f_goneOf : Nat → Int32) (f_heard : Nat → Int32) (f_actMany : Nat → Int32) (f_actOf : Nat → Int32) (f_whom : Nat → Int32) (f_afters : Nat → Int32) (f_afterOf : Nat → Int32) (hb_manys : NB 18 24 f_manys) (hb_reals : NB 18 23 f_reals) (hpg : PG f_manys f_reals) (hb_caseMany : NB 4 4 f_caseMany) (hb_happen : NB 4 3 f_happen) (hb_actMany : NB 25 32 f_actMany) (hhp : HP f_caseMany f_happen) (hsv : SV f_actOf f_actMany) (hb_afters : NB 9 2 f_afters) (hb_afterOf : NB 18 3 f_afterOf) (hk : k < 8) (hpa : pa ≤ 3) : CT l yX12_truthOf (Cond.code yX12_truthOf cX12_truthOf 7 (some .int) :: TB) ({ frames := 6, cells := 0, slots := 0, locals := 158 }) E ro [.ref hm, .int (nI k), .int (nI pa)] [(hm, .inr (12, [.ref m_manys, .ref m_reals, .ref m_factsOf, .ref m_possible, .int (nI q_undos), .int (nI q_models), .ref m_tape, .int (nI q_taped), .int q_fault, .int q_wrong, .int q_wrongAt, .int q_spot, .int q_place, .int q_token, .int q_value, .ref m_ends, .ref m_letters, .ref m_actOf, .ref m_whom, .ref m_actMany, .ref m_tokens, .ref m_afters, .ref m_afterOf, .int q_counted, .ref m_pile, .ref m_caseMany, .ref m_happen, .ref m_hasIf, .ref m_becomes, .ref m_goneOf, .ref m_heard, .ref m_pairs, .ref m_heaps, .int q_rounds, .int q_heapMany, .ref m_led, .ref m_newAt, .ref m_knowing, .ref m_firsts, .int (nI q_people), .ref m_secrets, .ref m_tried, .ref m_lanes, .ref m_lengths, .ref m_cells])), (m_manys, .inl (E.2.1 1, 18, .inl f_manys)), (m_reals, .inl (E.2.1 1, 18, .inl f_reals)), (m_factsOf, .inl (E.2.1 1, 432, .inl f_factsOf)), (m_possible, .inl (E.2.1 1, 1728, .inl f_possible)), (m_pairs, .inl (E.2.1 1, 576, .inl f_pairs)), (m_pile, .inl (E.2.1 1, 34, .inl f_pile)), (m_caseMany, .inl (E.2.1 1, 4, .inl f_caseMany)), (m_happen, .inl (E.2.1 1, 4, .inl f_happen)), (m_hasIf, .inl (E.2.1 3, 16, .inl f_hasIf)), (m_becomes, .inl (E.2.1 1, 16, .inl f_becomes)), (m_goneOf, .inl (E.2.1 1, 16, .inl f_goneOf)), (m_heard, .inl (E.2.1 1, 64, .inl f_heard)), (m_actMany, .inl (E.2.1 1, 25, .inl f_actMany)), (m_actOf, .inl (E.2.1 1, 800, .inl f_actOf)), (m_whom, .inl (E.2.1 1, 800, .inl f_whom)), (m_afters, .inl (E.2.1 1, 9, .inl f_afters)), (m_afterOf, .inl (E.2.1 1, 18, .inl f_afterOf))] (Qi E (fun (rz : Int32) uz => (∃ (f_manysz : Nat → Int32) (f_realsz : Nat → Int32) (f_factsOfz : Nat → Int32) (f_possiblez : Nat → Int32) (f_pairsz : Nat → Int32) (f_pilez : Nat → Int32), uz = [(hm, .inr (12, [.ref m_manys, .ref m_reals, .ref m_factsOf, .ref m_possible, .int (nI q_undos), .int (nI q_models), .ref m_tape, .int (nI q_taped), .int q_fault, .int q_wrong, .int q_wrongAt, .int q_spot, .int q_place, .int q_token, .int q_value, .ref m_ends, .ref m_letters, .ref m_actOf, .ref m_whom, .ref m_actMany, .ref m_tokens, .ref m_afters, .ref m_afterOf, .int q_counted, .ref m_pile, .ref m_caseMany, .ref m_happen, .ref m_hasIf, .ref m_becomes, .ref m_goneOf, .ref m_heard, .ref m_pairs, .ref m_heaps, .int q_rounds, .int q_heapMany, .ref m_led, .ref m_newAt, .ref m_knowing, .ref m_firsts, .int (nI q_people), .ref m_secrets, .ref m_tried, .ref m_lanes, .ref m_lengths, .ref m_cells])), (m_manys, .inl (E.2.1 1, 18, .inl f_manysz)), (m_reals, .inl (E.2.1 1, 18, .inl f_realsz)), (m_factsOf, .inl (E.2.1 1, 432, .inl f_factsOfz)), (m_possible, .inl (E.2.1 1, 1728, .inl f_possiblez)), (m_pairs, .inl (E.2.1 1, 576, .inl f_pairsz)), (m_pile, .inl (E.2.1 1, 34, .inl f_pilez)), (m_caseMany, .inl (E.2.1 1, 4, .inl f_caseMany)), (m_happen, .inl (E.2.1 1, 4, .inl f_happen)), (m_hasIf, .inl (E.2.1 3, 16, .inl f_hasIf)), (m_becomes, .inl (E.2.1 1, 16, .inl f_becomes)), (m_goneOf, .inl (E.2.1 1, 16, .inl f_goneOf)), (m_heard, .inl (E.2.1 1, 64, .inl f_heard)), (m_actMany, .inl (E.2.1 1, 25, .inl f_actMany)), (m_actOf, .inl (E.2.1 1, 800, .inl f_actOf)), (m_whom, .inl (E.2.1 1, 800, .inl f_whom)), (m_afters, .inl (E.2.1 1, 9, .inl f_afters)), (m_afterOf, .inl (E.2.1 1, 18, .inl f_afterOf))] ∧ (NB 18 24 f_manysz) ∧ (NB 18 23 f_realsz) ∧ (PG f_manysz f_realsz) ∧ (KP (pa + 1) f_manys f_manysz) ∧ (KP (pa + 1) f_reals f_realsz)))) 0 0 := by
  refine ct_of rfl rfl ?_
  intro X C hT hin hro
  show WW X 7 E 0 [(0, .ref hm), (1, .int (nI k)), (2, .int (nI pa))] [] [(hm, .inr (12, [.ref m_manys, .ref m_reals, .ref m_factsOf, .ref m_possible, .int (nI q_undos), .int (nI q_models), .ref m_tape, .int (nI q_taped), .int q_fault, .int q_wrong, .int q_wrongAt, .int q_spot, .int q_place, .int q_token, .int q_value, .ref m_ends, .ref m_letters, .ref m_actOf, .ref m_whom, .ref m_actMany, .ref m_tokens, .ref m_afters, .ref m_afterOf, .int q_counted, .ref m_pile, .ref m_caseMany, .ref m_happen, .ref m_hasIf, .ref m_becomes, .ref m_goneOf, .ref m_heard, .ref m_pairs, .ref m_heaps, .int q_rounds, .int q_heapMany, .ref m_led, .ref m_newAt, .ref m_knowing, .ref m_firsts, .int (nI q_people), .ref m_secrets, .ref m_tried, .ref m_lanes, .ref m_lengths, .ref m_cells])), (m_manys, .inl (E.2.1 1, 18, .inl f_manys)), (m_reals, .inl (E.2.1 1, 18, .inl f_reals)), (m_factsOf, .inl (E.2.1 1, 432, .inl f_factsOf)), (m_possible, .inl (E.2.1 1, 1728, .inl f_possible)), (m_pairs, .inl (E.2.1 1, 576, .inl f_pairs)), (m_pile, .inl (E.2.1 1, 34, .inl f_pile)), (m_caseMany, .inl (E.2.1 1, 4, .inl f_caseMany)), (m_happen, .inl (E.2.1 1, 4, .inl f_happen)), (m_hasIf, .inl (E.2.1 3, 16, .inl f_hasIf)), (m_becomes, .inl (E.2.1 1, 16, .inl f_becomes)), (m_goneOf, .inl (E.2.1 1, 16, .inl f_goneOf)), (m_heard, .inl (E.2.1 1, 64, .inl f_heard)), (m_actMany, .inl (E.2.1 1, 25, .inl f_actMany)), (m_actOf, .inl (E.2.1 1, 800, .inl f_actOf)), (m_whom, .inl (E.2.1 1, 800, .inl f_whom)), (m_afters, .inl (E.2.1 1, 9, .inl f_afters)), (m_afterOf, .inl (E.2.1 1, 18, .inl f_afterOf))] 0 0
  have hmn0 := (hb_manys 0 (by omega)).2
  have hafk := (hb_afters k (by omega)).2
  refine ww_iload_n C dX12_truthOf_0 2 rfl rfl ?_
  refine ww_istore_n (lv' := [(3, .int (nI pa)), (0, .ref hm), (1, .int (nI k)), (2, .int (nI pa))]) C dX12_truthOf_1 rfl rfl rfl ?_
  refine ww_iconst (v := 1) C dX12_truthOf_2 rfl ?_
  refine ww_istore (lv' := [(4, .int 1), (3, .int (nI pa)), (0, .ref hm), (1, .int (nI k)), (2, .int (nI pa))]) C dX12_truthOf_3 rfl rfl ?_
  refine ww_iconst (v := 0) C dX12_truthOf_5 rfl ?_
  refine ww_istore (lv' := [(5, .int 0), (4, .int 1), (3, .int (nI pa)), (0, .ref hm), (1, .int (nI k)), (2, .int (nI pa))]) C dX12_truthOf_6 rfl rfl ?_
  have loop_8 : ∀ (fu : Nat) (hh : Nat) (la : Nat) (a1 : Nat) (gt_manys : Nat → Int32) (gt_reals : Nat → Int32) (gt_factsOf : Nat → Int32) (gt_possible : Nat → Int32) (gt_pairs : Nat → Int32) (gt_pile : Nat → Int32), (a1 ≤ cN f_afters k) → (la ≤ 1) → (pa ≤ hh) → (hh ≤ pa + a1) → (KP (pa + 1) f_manys gt_manys) → (KP (pa + 1) f_reals gt_reals) → (NB 18 24 gt_manys) → (NB 18 23 gt_reals) → (PG gt_manys gt_reals) → cN f_afters k - a1 < fu → WW X 7 E 8 [(5, .int (nI a1)), (4, .int (nI la)), (3, .int (nI hh)), (0, .ref hm), (1, .int (nI k)), (2, .int (nI pa))] [] [(hm, .inr (12, [.ref m_manys, .ref m_reals, .ref m_factsOf, .ref m_possible, .int (nI q_undos), .int (nI q_models), .ref m_tape, .int (nI q_taped), .int q_fault, .int q_wrong, .int q_wrongAt, .int q_spot, .int q_place, .int q_token, .int q_value, .ref m_ends, .ref m_letters, .ref m_actOf, .ref m_whom, .ref m_actMany, .ref m_tokens, .ref m_afters, .ref m_afterOf, .int q_counted, .ref m_pile, .ref m_caseMany, .ref m_happen, .ref m_hasIf, .ref m_becomes, .ref m_goneOf, .ref m_heard, .ref m_pairs, .ref m_heaps, .int q_rounds, .int q_heapMany, .ref m_led, .ref m_newAt, .ref m_knowing, .ref m_firsts, .int (nI q_people), .ref m_secrets, .ref m_tried, .ref m_lanes, .ref m_lengths, .ref m_cells])), (m_manys, .inl (E.2.1 1, 18, .inl gt_manys)), (m_reals, .inl (E.2.1 1, 18, .inl gt_reals)), (m_factsOf, .inl (E.2.1 1, 432, .inl gt_factsOf)), (m_possible, .inl (E.2.1 1, 1728, .inl gt_possible)), (m_pairs, .inl (E.2.1 1, 576, .inl gt_pairs)), (m_pile, .inl (E.2.1 1, 34, .inl gt_pile)), (m_caseMany, .inl (E.2.1 1, 4, .inl f_caseMany)), (m_happen, .inl (E.2.1 1, 4, .inl f_happen)), (m_hasIf, .inl (E.2.1 3, 16, .inl f_hasIf)), (m_becomes, .inl (E.2.1 1, 16, .inl f_becomes)), (m_goneOf, .inl (E.2.1 1, 16, .inl f_goneOf)), (m_heard, .inl (E.2.1 1, 64, .inl f_heard)), (m_actMany, .inl (E.2.1 1, 25, .inl f_actMany)), (m_actOf, .inl (E.2.1 1, 800, .inl f_actOf)), (m_whom, .inl (E.2.1 1, 800, .inl f_whom)), (m_afters, .inl (E.2.1 1, 9, .inl f_afters)), (m_afterOf, .inl (E.2.1 1, 18, .inl f_afterOf))] 0 0 := by
    intro fu
    induction fu with
    | zero => intro hh la a1 gt_manys gt_reals gt_factsOf gt_possible gt_pairs gt_pile ha1 hla hh0 hh1 hk_manys hk_reals hnb_m_manys_8 hnb_m_reals_8 hpg_8 hmeas; exact absurd hmeas (Nat.not_lt_zero _)
    | succ fu ih_8 =>
      intro hh la a1 gt_manys gt_reals gt_factsOf gt_possible gt_pairs gt_pile ha1 hla hh0 hh1 hk_manys hk_reals hnb_m_manys_8 hnb_m_reals_8 hpg_8 hmeas
      refine ww_iload C dX12_truthOf_8 0 rfl ?_
      refine ww_aload_n C dX12_truthOf_10 3 rfl rfl ?_
      refine ww_get C fg_X12_43 0 rfl rfl dX12_truthOf_11 ?_
      refine ww_iload_n C dX12_truthOf_14 4 rfl rfl ?_
      have hbx_1 := (hb_afters k (by omega)).2
      refine ww_iald (v := (nI (cN f_afters k))) C 16 rfl (vp_in_nI (by omega) (by omega)) (ldn (by omega) (hb_afters k (by omega)).1) dX12_truthOf_15 ?_
      refine ww_icmp_ge (tgt := 83) C dX12_truthOf_16 (by decide) (fun c_2 => ?_) (fun c_2 => ?_)
      · have zc_2 : ((a1 : Nat) : Int) ≥ ((cN f_afters k : Nat) : Int) := i_le (nI_toInt (n := cN f_afters k) (by omega)) (nI_toInt (n := a1) (by omega)) c_2
        refine ww_iload C dX12_truthOf_83 1 rfl ?_
        refine ww_if_eq (tgt := 97) C dX12_truthOf_85 (by decide) (fun c_3 => ?_) (fun c_3 => ?_)
        · have zc_3 : ((la : Nat) : Int) = 0 := i_eq (nI_toInt (n := la) (by omega)) rfl c_3
          refine ww_aload_n C dX12_truthOf_97 3 rfl rfl ?_
          refine ww_get C fg_X12_7 0 rfl rfl dX12_truthOf_98 ?_
          refine ww_iload_n C dX12_truthOf_101 2 rfl rfl ?_
          have hbx_4 := (hnb_m_manys_8 hh (by omega)).2
          refine ww_iald (v := (nI (cN gt_manys hh))) C 1 rfl (vp_in_nI (by omega) (by omega)) (ldn (by omega) (hnb_m_manys_8 hh (by omega)).1) dX12_truthOf_102 ?_
          refine ww_ci (wr := [(hm, .inr (12, [.ref m_manys, .ref m_reals, .ref m_factsOf, .ref m_possible, .int (nI q_undos), .int (nI q_models), .ref m_tape, .int (nI q_taped), .int q_fault, .int q_wrong, .int q_wrongAt, .int q_spot, .int q_place, .int q_token, .int q_value, .ref m_ends, .ref m_letters, .ref m_actOf, .ref m_whom, .ref m_actMany, .ref m_tokens, .ref m_afters, .ref m_afterOf, .int q_counted, .ref m_pile, .ref m_caseMany, .ref m_happen, .ref m_hasIf, .ref m_becomes, .ref m_goneOf, .ref m_heard, .ref m_pairs, .ref m_heaps, .int q_rounds, .int q_heapMany, .ref m_led, .ref m_newAt, .ref m_knowing, .ref m_firsts, .int (nI q_people), .ref m_secrets, .ref m_tried, .ref m_lanes, .ref m_lengths, .ref m_cells])), (m_manys, .inl (E.2.1 1, 18, .inl gt_manys)), (m_reals, .inl (E.2.1 1, 18, .inl gt_reals)), (m_factsOf, .inl (E.2.1 1, 432, .inl gt_factsOf)), (m_possible, .inl (E.2.1 1, 1728, .inl gt_possible)), (m_pairs, .inl (E.2.1 1, 576, .inl gt_pairs)), (m_pile, .inl (E.2.1 1, 34, .inl gt_pile)), (m_caseMany, .inl (E.2.1 1, 4, .inl f_caseMany)), (m_happen, .inl (E.2.1 1, 4, .inl f_happen)), (m_hasIf, .inl (E.2.1 3, 16, .inl f_hasIf)), (m_becomes, .inl (E.2.1 1, 16, .inl f_becomes)), (m_goneOf, .inl (E.2.1 1, 16, .inl f_goneOf)), (m_heard, .inl (E.2.1 1, 64, .inl f_heard)), (m_actMany, .inl (E.2.1 1, 25, .inl f_actMany)), (m_actOf, .inl (E.2.1 1, 800, .inl f_actOf)), (m_whom, .inl (E.2.1 1, 800, .inl f_whom)), (m_afters, .inl (E.2.1 1, 9, .inl f_afters)), (m_afterOf, .inl (E.2.1 1, 18, .inl f_afterOf))]) (k' := 0) (n' := 0) C (run_S (As := [.int (nI (cN gt_manys hh))]) (rest := []) C (r_all X.2.1 E ro (cN gt_manys hh) (by omega)) ms_X12_all wl_X12_230 rfl rfl rfl rfl dX12_truthOf_103) (roK hro) [] [0, 1, 2, 3, 4, 5, 6, 7, 8, 9, 10, 11, 12, 13, 14, 15, 16, 17] rfl rfl rfl rfl (fun r_5 uz hw => ?_)
          refine an1 hw ?_
          clear hw
          intro he_7 hw
          have h_6 := hw
          clear hw
          subst he_7
          refine ww_eq (ws' := [(hm, .inr (12, [.ref m_manys, .ref m_reals, .ref m_factsOf, .ref m_possible, .int (nI q_undos), .int (nI q_models), .ref m_tape, .int (nI q_taped), .int q_fault, .int q_wrong, .int q_wrongAt, .int q_spot, .int q_place, .int q_token, .int q_value, .ref m_ends, .ref m_letters, .ref m_actOf, .ref m_whom, .ref m_actMany, .ref m_tokens, .ref m_afters, .ref m_afterOf, .int q_counted, .ref m_pile, .ref m_caseMany, .ref m_happen, .ref m_hasIf, .ref m_becomes, .ref m_goneOf, .ref m_heard, .ref m_pairs, .ref m_heaps, .int q_rounds, .int q_heapMany, .ref m_led, .ref m_newAt, .ref m_knowing, .ref m_firsts, .int (nI q_people), .ref m_secrets, .ref m_tried, .ref m_lanes, .ref m_lengths, .ref m_cells])), (m_manys, .inl (E.2.1 1, 18, .inl gt_manys)), (m_reals, .inl (E.2.1 1, 18, .inl gt_reals)), (m_factsOf, .inl (E.2.1 1, 432, .inl gt_factsOf)), (m_possible, .inl (E.2.1 1, 1728, .inl gt_possible)), (m_pairs, .inl (E.2.1 1, 576, .inl gt_pairs)), (m_pile, .inl (E.2.1 1, 34, .inl gt_pile)), (m_caseMany, .inl (E.2.1 1, 4, .inl f_caseMany)), (m_happen, .inl (E.2.1 1, 4, .inl f_happen)), (m_hasIf, .inl (E.2.1 3, 16, .inl f_hasIf)), (m_becomes, .inl (E.2.1 1, 16, .inl f_becomes)), (m_goneOf, .inl (E.2.1 1, 16, .inl f_goneOf)), (m_heard, .inl (E.2.1 1, 64, .inl f_heard)), (m_actMany, .inl (E.2.1 1, 25, .inl f_actMany)), (m_actOf, .inl (E.2.1 1, 800, .inl f_actOf)), (m_whom, .inl (E.2.1 1, 800, .inl f_whom)), (m_afters, .inl (E.2.1 1, 9, .inl f_afters)), (m_afterOf, .inl (E.2.1 1, 18, .inl f_afterOf))]) ?_ rfl rfl rfl
          refine ww_istore (lv' := [(5, .int r_5), (4, .int (nI la)), (3, .int (nI hh)), (0, .ref hm), (1, .int (nI k)), (2, .int (nI pa))]) C dX12_truthOf_106 rfl rfl ?_
          have loop_108 : ∀ (fu : Nat) (h2 : Nat) (so2 : Int32), (pa ≤ h2) → (h2 ≤ pa + 2) → h2 - pa < fu → WW X 7 E 108 [(5, .int so2), (4, .int (nI la)), (3, .int (nI h2)), (0, .ref hm), (1, .int (nI k)), (2, .int (nI pa))] [] [(hm, .inr (12, [.ref m_manys, .ref m_reals, .ref m_factsOf, .ref m_possible, .int (nI q_undos), .int (nI q_models), .ref m_tape, .int (nI q_taped), .int q_fault, .int q_wrong, .int q_wrongAt, .int q_spot, .int q_place, .int q_token, .int q_value, .ref m_ends, .ref m_letters, .ref m_actOf, .ref m_whom, .ref m_actMany, .ref m_tokens, .ref m_afters, .ref m_afterOf, .int q_counted, .ref m_pile, .ref m_caseMany, .ref m_happen, .ref m_hasIf, .ref m_becomes, .ref m_goneOf, .ref m_heard, .ref m_pairs, .ref m_heaps, .int q_rounds, .int q_heapMany, .ref m_led, .ref m_newAt, .ref m_knowing, .ref m_firsts, .int (nI q_people), .ref m_secrets, .ref m_tried, .ref m_lanes, .ref m_lengths, .ref m_cells])), (m_manys, .inl (E.2.1 1, 18, .inl gt_manys)), (m_reals, .inl (E.2.1 1, 18, .inl gt_reals)), (m_factsOf, .inl (E.2.1 1, 432, .inl gt_factsOf)), (m_possible, .inl (E.2.1 1, 1728, .inl gt_possible)), (m_pairs, .inl (E.2.1 1, 576, .inl gt_pairs)), (m_pile, .inl (E.2.1 1, 34, .inl gt_pile)), (m_caseMany, .inl (E.2.1 1, 4, .inl f_caseMany)), (m_happen, .inl (E.2.1 1, 4, .inl f_happen)), (m_hasIf, .inl (E.2.1 3, 16, .inl f_hasIf)), (m_becomes, .inl (E.2.1 1, 16, .inl f_becomes)), (m_goneOf, .inl (E.2.1 1, 16, .inl f_goneOf)), (m_heard, .inl (E.2.1 1, 64, .inl f_heard)), (m_actMany, .inl (E.2.1 1, 25, .inl f_actMany)), (m_actOf, .inl (E.2.1 1, 800, .inl f_actOf)), (m_whom, .inl (E.2.1 1, 800, .inl f_whom)), (m_afters, .inl (E.2.1 1, 9, .inl f_afters)), (m_afterOf, .inl (E.2.1 1, 18, .inl f_afterOf))] 0 0 := by
            intro fu
            induction fu with
            | zero => intro h2 so2 hh2 hh3 hmeas; exact absurd hmeas (Nat.not_lt_zero _)
            | succ fu ih_108 =>
              intro h2 so2 hh2 hh3 hmeas
              refine ww_iload_n C dX12_truthOf_108 2 rfl rfl ?_
              refine ww_iload_n C dX12_truthOf_109 5 rfl rfl ?_
              refine ww_icmp_le (tgt := 140) C dX12_truthOf_110 (by decide) (fun c_8 => ?_) (fun c_8 => ?_)
              · have zc_8 : ((h2 : Nat) : Int) ≤ ((pa : Nat) : Int) := i_le (nI_toInt (n := h2) (by omega)) (nI_toInt (n := pa) (by omega)) c_8
                refine ww_iload C dX12_truthOf_140 0 rfl ?_
                exact ww_iret (u := [(hm, .inr (12, [.ref m_manys, .ref m_reals, .ref m_factsOf, .ref m_possible, .int (nI q_undos), .int (nI q_models), .ref m_tape, .int (nI q_taped), .int q_fault, .int q_wrong, .int q_wrongAt, .int q_spot, .int q_place, .int q_token, .int q_value, .ref m_ends, .ref m_letters, .ref m_actOf, .ref m_whom, .ref m_actMany, .ref m_tokens, .ref m_afters, .ref m_afterOf, .int q_counted, .ref m_pile, .ref m_caseMany, .ref m_happen, .ref m_hasIf, .ref m_becomes, .ref m_goneOf, .ref m_heard, .ref m_pairs, .ref m_heaps, .int q_rounds, .int q_heapMany, .ref m_led, .ref m_newAt, .ref m_knowing, .ref m_firsts, .int (nI q_people), .ref m_secrets, .ref m_tried, .ref m_lanes, .ref m_lengths, .ref m_cells])), (m_manys, .inl (E.2.1 1, 18, .inl gt_manys)), (m_reals, .inl (E.2.1 1, 18, .inl gt_reals)), (m_factsOf, .inl (E.2.1 1, 432, .inl gt_factsOf)), (m_possible, .inl (E.2.1 1, 1728, .inl gt_possible)), (m_pairs, .inl (E.2.1 1, 576, .inl gt_pairs)), (m_pile, .inl (E.2.1 1, 34, .inl gt_pile)), (m_caseMany, .inl (E.2.1 1, 4, .inl f_caseMany)), (m_happen, .inl (E.2.1 1, 4, .inl f_happen)), (m_hasIf, .inl (E.2.1 3, 16, .inl f_hasIf)), (m_becomes, .inl (E.2.1 1, 16, .inl f_becomes)), (m_goneOf, .inl (E.2.1 1, 16, .inl f_goneOf)), (m_heard, .inl (E.2.1 1, 64, .inl f_heard)), (m_actMany, .inl (E.2.1 1, 25, .inl f_actMany)), (m_actOf, .inl (E.2.1 1, 800, .inl f_actOf)), (m_whom, .inl (E.2.1 1, 800, .inl f_whom)), (m_afters, .inl (E.2.1 1, 9, .inl f_afters)), (m_afterOf, .inl (E.2.1 1, 18, .inl f_afterOf))]) C hT [0, 1, 2, 3, 4, 5, 6, 7, 8, 9, 10, 11, 12, 13, 14, 15, 16, 17] rfl rfl rfl rfl dX12_truthOf_142 (⟨gt_manys, gt_reals, gt_factsOf, gt_possible, gt_pairs, gt_pile, rfl, hnb_m_manys_8, hnb_m_reals_8, hpg_8, hk_manys, hk_reals⟩)
              · have zc_8 : ((h2 : Nat) : Int) > ((pa : Nat) : Int) := i_nle (nI_toInt (n := h2) (by omega)) (nI_toInt (n := pa) (by omega)) c_8
                refine ww_iinc (j := 2) (v := (nI (h2 - 1))) (lv' := [(3, .int (nI (h2 - 1))), (5, .int so2), (4, .int (nI la)), (0, .ref hm), (1, .int (nI k)), (2, .int (nI pa))]) C dX12_truthOf_113 rfl (nI_subc (a := h2) (c := 1) (by omega) rfl) rfl rfl ?_
                refine ww_aload_n C dX12_truthOf_116 3 rfl rfl ?_
                refine ww_aload_n C dX12_truthOf_117 3 rfl rfl ?_
                refine ww_get C fg_X12_46 0 rfl rfl dX12_truthOf_118 ?_
                refine ww_iconst (v := 2) C dX12_truthOf_121 rfl ?_
                refine ww_iload_n C dX12_truthOf_122 4 rfl rfl ?_
                refine ww_imul (v := (nI (2 * k))) C dX12_truthOf_123 (pk_mul 2 k) ?_
                refine ww_iload_n C dX12_truthOf_124 0 rfl rfl ?_
                refine ww_iadd (v := (nI ((2 * k) + (h2 - 1)))) C dX12_truthOf_125 (nI_add (2 * k) (h2 - 1)) ?_
                refine ww_iload_n C dX12_truthOf_126 5 rfl rfl ?_
                refine ww_isub (v := (nI (((2 * k) + (h2 - 1)) - pa))) C dX12_truthOf_127 (pk_sub (a := ((2 * k) + (h2 - 1))) (b := pa) (by omega)) ?_
                have hbx_9 := (hb_afterOf (((2 * k) + (h2 - 1)) - pa) (by omega)).2
                refine ww_iald (v := (nI (cN f_afterOf (((2 * k) + (h2 - 1)) - pa)))) C 17 rfl (vp_in_nI (by omega) (by omega)) (ldn (by omega) (hb_afterOf (((2 * k) + (h2 - 1)) - pa) (by omega)).1) dX12_truthOf_128 ?_
                refine ww_iload_n C dX12_truthOf_129 0 rfl rfl ?_
                refine ww_iload C dX12_truthOf_130 1 rfl ?_
                refine ww_ci (wr := [(m_reals, .inl (E.2.1 1, 18, .inl gt_reals)), (m_factsOf, .inl (E.2.1 1, 432, .inl gt_factsOf)), (m_possible, .inl (E.2.1 1, 1728, .inl gt_possible)), (m_pile, .inl (E.2.1 1, 34, .inl gt_pile)), (m_hasIf, .inl (E.2.1 3, 16, .inl f_hasIf)), (m_becomes, .inl (E.2.1 1, 16, .inl f_becomes)), (m_goneOf, .inl (E.2.1 1, 16, .inl f_goneOf)), (m_heard, .inl (E.2.1 1, 64, .inl f_heard)), (m_actMany, .inl (E.2.1 1, 25, .inl f_actMany)), (m_actOf, .inl (E.2.1 1, 800, .inl f_actOf)), (m_whom, .inl (E.2.1 1, 800, .inl f_whom)), (m_afters, .inl (E.2.1 1, 9, .inl f_afters)), (m_afterOf, .inl (E.2.1 1, 18, .inl f_afterOf))]) (k' := 0) (n' := 0) C (run_V (As := [.int (nI (cN f_afterOf (((2 * k) + (h2 - 1)) - pa))), .int (nI (h2 - 1)), .int so2]) (rest := []) C (r_broughtBack X.2.1 E ro hm (cN f_afterOf (((2 * k) + (h2 - 1)) - pa)) (h2 - 1) so2 m_manys m_reals m_factsOf m_possible q_undos q_models m_tape q_taped q_fault q_wrong q_wrongAt q_spot q_place q_token q_value m_ends m_letters m_actOf m_whom m_actMany m_tokens m_afters m_afterOf q_counted m_pile m_caseMany m_happen m_hasIf m_becomes m_goneOf m_heard m_pairs m_heaps q_rounds q_heapMany m_led m_newAt m_knowing m_firsts q_people m_secrets m_tried m_lanes m_lengths m_cells gt_manys f_caseMany f_happen gt_pairs hnb_m_manys_8 hb_caseMany hb_happen (by omega) (by omega)) mi_X12_broughtBack wl_X12_270 rfl 0 12 rfl rfl rfl rfl rfl dX12_truthOf_132) (roK hro) [0, 1, 7, 8, 5] [2, 3, 4, 6, 9, 10, 11, 12, 13, 14, 15, 16, 17] rfl rfl rfl rfl (fun r_10 uz hw => ?_)
                have he_11 := hw
                clear hw
                subst he_11
                refine ww_eq (ws' := [(m_reals, .inl (E.2.1 1, 18, .inl gt_reals)), (m_factsOf, .inl (E.2.1 1, 432, .inl gt_factsOf)), (m_possible, .inl (E.2.1 1, 1728, .inl gt_possible)), (m_pile, .inl (E.2.1 1, 34, .inl gt_pile)), (m_hasIf, .inl (E.2.1 3, 16, .inl f_hasIf)), (m_becomes, .inl (E.2.1 1, 16, .inl f_becomes)), (m_goneOf, .inl (E.2.1 1, 16, .inl f_goneOf)), (m_heard, .inl (E.2.1 1, 64, .inl f_heard)), (m_actMany, .inl (E.2.1 1, 25, .inl f_actMany)), (m_actOf, .inl (E.2.1 1, 800, .inl f_actOf)), (m_whom, .inl (E.2.1 1, 800, .inl f_whom)), (m_afters, .inl (E.2.1 1, 9, .inl f_afters)), (m_afterOf, .inl (E.2.1 1, 18, .inl f_afterOf)), (hm, .inr (12, [.ref m_manys, .ref m_reals, .ref m_factsOf, .ref m_possible, .int (nI q_undos), .int (nI q_models), .ref m_tape, .int (nI q_taped), .int q_fault, .int q_wrong, .int q_wrongAt, .int q_spot, .int q_place, .int q_token, .int q_value, .ref m_ends, .ref m_letters, .ref m_actOf, .ref m_whom, .ref m_actMany, .ref m_tokens, .ref m_afters, .ref m_afterOf, .int q_counted, .ref m_pile, .ref m_caseMany, .ref m_happen, .ref m_hasIf, .ref m_becomes, .ref m_goneOf, .ref m_heard, .ref m_pairs, .ref m_heaps, .int q_rounds, .int q_heapMany, .ref m_led, .ref m_newAt, .ref m_knowing, .ref m_firsts, .int (nI q_people), .ref m_secrets, .ref m_tried, .ref m_lanes, .ref m_lengths, .ref m_cells])), (m_manys, .inl (E.2.1 1, 18, .inl gt_manys)), (m_caseMany, .inl (E.2.1 1, 4, .inl f_caseMany)), (m_happen, .inl (E.2.1 1, 4, .inl f_happen)), (m_pairs, .inl (E.2.1 1, 576, .inl gt_pairs))]) ?_ rfl rfl rfl
                refine ww_istore (lv' := [(5, .int r_10), (3, .int (nI (h2 - 1))), (4, .int (nI la)), (0, .ref hm), (1, .int (nI k)), (2, .int (nI pa))]) C dX12_truthOf_135 rfl rfl ?_
                refine ww_goto (tgt := 108) C dX12_truthOf_137 (by decide) ?_
                exact ww_lv [0, 2, 1, 3, 4, 5] rfl (ww_sub [13, 14, 0, 1, 2, 17, 3, 15, 16, 4, 5, 6, 7, 8, 9, 10, 11, 12] rfl rfl (ih_108 (h2 - 1) r_10 (by omega) (by omega) (by omega)))
          exact ww_lv [0, 1, 2, 3, 4, 5] rfl (ww_sub [0, 1, 2, 3, 4, 5, 6, 7, 8, 9, 10, 11, 12, 13, 14, 15, 16, 17] rfl rfl (loop_108 _ hh r_5 (by omega) (by omega) (Nat.lt_succ_self _)))
        · have zc_3 : ((la : Nat) : Int) ≠ 0 := i_ne (nI_toInt (n := la) (by omega)) rfl c_3
          refine ww_aload_n C dX12_truthOf_88 3 rfl rfl ?_
          refine ww_iload_n C dX12_truthOf_89 4 rfl rfl ?_
          refine ww_iload_n C dX12_truthOf_90 2 rfl rfl ?_
          refine ww_ci (wr := [(m_reals, .inl (E.2.1 1, 18, .inl gt_reals)), (m_pairs, .inl (E.2.1 1, 576, .inl gt_pairs)), (m_caseMany, .inl (E.2.1 1, 4, .inl f_caseMany)), (m_happen, .inl (E.2.1 1, 4, .inl f_happen)), (m_hasIf, .inl (E.2.1 3, 16, .inl f_hasIf)), (m_becomes, .inl (E.2.1 1, 16, .inl f_becomes)), (m_goneOf, .inl (E.2.1 1, 16, .inl f_goneOf)), (m_heard, .inl (E.2.1 1, 64, .inl f_heard)), (m_afters, .inl (E.2.1 1, 9, .inl f_afters)), (m_afterOf, .inl (E.2.1 1, 18, .inl f_afterOf))]) (k' := 0) (n' := 0) C (run_V (As := [.int (nI k), .int (nI hh)]) (rest := []) C (r_trueAt X.2.1 E ro hm k hh m_manys m_reals m_factsOf m_possible q_undos q_models m_tape q_taped q_fault q_wrong q_wrongAt q_spot q_place q_token q_value m_ends m_letters m_actOf m_whom m_actMany m_tokens m_afters m_afterOf q_counted m_pile m_caseMany m_happen m_hasIf m_becomes m_goneOf m_heard m_pairs m_heaps q_rounds q_heapMany m_led m_newAt m_knowing m_firsts q_people m_secrets m_tried m_lanes m_lengths m_cells gt_manys gt_possible gt_factsOf f_actMany f_actOf f_whom gt_pile hnb_m_manys_8 hb_actMany hsv (by omega) (by omega)) mi_X12_trueAt wl_X12_256 rfl 0 12 rfl rfl rfl rfl rfl dX12_truthOf_91) (roK hro) [0, 1, 4, 3, 13, 14, 15, 6] [2, 5, 7, 8, 9, 10, 11, 12, 16, 17] rfl rfl rfl rfl (fun r_12 uz hw => ?_)
          refine ex1 hw ?_
          clear hw
          intro f_pilez_13 hw
          have he_14 := hw
          clear hw
          subst he_14
          refine ww_eq (ws' := [(m_reals, .inl (E.2.1 1, 18, .inl gt_reals)), (m_pairs, .inl (E.2.1 1, 576, .inl gt_pairs)), (m_caseMany, .inl (E.2.1 1, 4, .inl f_caseMany)), (m_happen, .inl (E.2.1 1, 4, .inl f_happen)), (m_hasIf, .inl (E.2.1 3, 16, .inl f_hasIf)), (m_becomes, .inl (E.2.1 1, 16, .inl f_becomes)), (m_goneOf, .inl (E.2.1 1, 16, .inl f_goneOf)), (m_heard, .inl (E.2.1 1, 64, .inl f_heard)), (m_afters, .inl (E.2.1 1, 9, .inl f_afters)), (m_afterOf, .inl (E.2.1 1, 18, .inl f_afterOf)), (hm, .inr (12, [.ref m_manys, .ref m_reals, .ref m_factsOf, .ref m_possible, .int (nI q_undos), .int (nI q_models), .ref m_tape, .int (nI q_taped), .int q_fault, .int q_wrong, .int q_wrongAt, .int q_spot, .int q_place, .int q_token, .int q_value, .ref m_ends, .ref m_letters, .ref m_actOf, .ref m_whom, .ref m_actMany, .ref m_tokens, .ref m_afters, .ref m_afterOf, .int q_counted, .ref m_pile, .ref m_caseMany, .ref m_happen, .ref m_hasIf, .ref m_becomes, .ref m_goneOf, .ref m_heard, .ref m_pairs, .ref m_heaps, .int q_rounds, .int q_heapMany, .ref m_led, .ref m_newAt, .ref m_knowing, .ref m_firsts, .int (nI q_people), .ref m_secrets, .ref m_tried, .ref m_lanes, .ref m_lengths, .ref m_cells])), (m_manys, .inl (E.2.1 1, 18, .inl gt_manys)), (m_possible, .inl (E.2.1 1, 1728, .inl gt_possible)), (m_factsOf, .inl (E.2.1 1, 432, .inl gt_factsOf)), (m_actMany, .inl (E.2.1 1, 25, .inl f_actMany)), (m_actOf, .inl (E.2.1 1, 800, .inl f_actOf)), (m_whom, .inl (E.2.1 1, 800, .inl f_whom)), (m_pile, .inl (E.2.1 1, 34, .inl f_pilez_13))]) ?_ rfl rfl rfl
          refine ww_goto (tgt := 106) C dX12_truthOf_94 (by decide) ?_
          refine ww_istore (lv' := [(5, .int r_12), (4, .int (nI la)), (3, .int (nI hh)), (0, .ref hm), (1, .int (nI k)), (2, .int (nI pa))]) C dX12_truthOf_106 rfl rfl ?_
          have loop_108 : ∀ (fu : Nat) (h2 : Nat) (so2 : Int32), (pa ≤ h2) → (h2 ≤ pa + 2) → h2 - pa < fu → WW X 7 E 108 [(5, .int so2), (4, .int (nI la)), (3, .int (nI h2)), (0, .ref hm), (1, .int (nI k)), (2, .int (nI pa))] [] [(m_reals, .inl (E.2.1 1, 18, .inl gt_reals)), (m_pairs, .inl (E.2.1 1, 576, .inl gt_pairs)), (m_caseMany, .inl (E.2.1 1, 4, .inl f_caseMany)), (m_happen, .inl (E.2.1 1, 4, .inl f_happen)), (m_hasIf, .inl (E.2.1 3, 16, .inl f_hasIf)), (m_becomes, .inl (E.2.1 1, 16, .inl f_becomes)), (m_goneOf, .inl (E.2.1 1, 16, .inl f_goneOf)), (m_heard, .inl (E.2.1 1, 64, .inl f_heard)), (m_afters, .inl (E.2.1 1, 9, .inl f_afters)), (m_afterOf, .inl (E.2.1 1, 18, .inl f_afterOf)), (hm, .inr (12, [.ref m_manys, .ref m_reals, .ref m_factsOf, .ref m_possible, .int (nI q_undos), .int (nI q_models), .ref m_tape, .int (nI q_taped), .int q_fault, .int q_wrong, .int q_wrongAt, .int q_spot, .int q_place, .int q_token, .int q_value, .ref m_ends, .ref m_letters, .ref m_actOf, .ref m_whom, .ref m_actMany, .ref m_tokens, .ref m_afters, .ref m_afterOf, .int q_counted, .ref m_pile, .ref m_caseMany, .ref m_happen, .ref m_hasIf, .ref m_becomes, .ref m_goneOf, .ref m_heard, .ref m_pairs, .ref m_heaps, .int q_rounds, .int q_heapMany, .ref m_led, .ref m_newAt, .ref m_knowing, .ref m_firsts, .int (nI q_people), .ref m_secrets, .ref m_tried, .ref m_lanes, .ref m_lengths, .ref m_cells])), (m_manys, .inl (E.2.1 1, 18, .inl gt_manys)), (m_possible, .inl (E.2.1 1, 1728, .inl gt_possible)), (m_factsOf, .inl (E.2.1 1, 432, .inl gt_factsOf)), (m_actMany, .inl (E.2.1 1, 25, .inl f_actMany)), (m_actOf, .inl (E.2.1 1, 800, .inl f_actOf)), (m_whom, .inl (E.2.1 1, 800, .inl f_whom)), (m_pile, .inl (E.2.1 1, 34, .inl f_pilez_13))] 0 0 := by
            intro fu
            induction fu with
            | zero => intro h2 so2 hh2 hh3 hmeas; exact absurd hmeas (Nat.not_lt_zero _)
            | succ fu ih_108 =>
              intro h2 so2 hh2 hh3 hmeas
              refine ww_iload_n C dX12_truthOf_108 2 rfl rfl ?_
              refine ww_iload_n C dX12_truthOf_109 5 rfl rfl ?_
              refine ww_icmp_le (tgt := 140) C dX12_truthOf_110 (by decide) (fun c_15 => ?_) (fun c_15 => ?_)
              · have zc_15 : ((h2 : Nat) : Int) ≤ ((pa : Nat) : Int) := i_le (nI_toInt (n := h2) (by omega)) (nI_toInt (n := pa) (by omega)) c_15
                refine ww_iload C dX12_truthOf_140 0 rfl ?_
                exact ww_iret (u := [(hm, .inr (12, [.ref m_manys, .ref m_reals, .ref m_factsOf, .ref m_possible, .int (nI q_undos), .int (nI q_models), .ref m_tape, .int (nI q_taped), .int q_fault, .int q_wrong, .int q_wrongAt, .int q_spot, .int q_place, .int q_token, .int q_value, .ref m_ends, .ref m_letters, .ref m_actOf, .ref m_whom, .ref m_actMany, .ref m_tokens, .ref m_afters, .ref m_afterOf, .int q_counted, .ref m_pile, .ref m_caseMany, .ref m_happen, .ref m_hasIf, .ref m_becomes, .ref m_goneOf, .ref m_heard, .ref m_pairs, .ref m_heaps, .int q_rounds, .int q_heapMany, .ref m_led, .ref m_newAt, .ref m_knowing, .ref m_firsts, .int (nI q_people), .ref m_secrets, .ref m_tried, .ref m_lanes, .ref m_lengths, .ref m_cells])), (m_manys, .inl (E.2.1 1, 18, .inl gt_manys)), (m_reals, .inl (E.2.1 1, 18, .inl gt_reals)), (m_factsOf, .inl (E.2.1 1, 432, .inl gt_factsOf)), (m_possible, .inl (E.2.1 1, 1728, .inl gt_possible)), (m_pairs, .inl (E.2.1 1, 576, .inl gt_pairs)), (m_pile, .inl (E.2.1 1, 34, .inl f_pilez_13)), (m_caseMany, .inl (E.2.1 1, 4, .inl f_caseMany)), (m_happen, .inl (E.2.1 1, 4, .inl f_happen)), (m_hasIf, .inl (E.2.1 3, 16, .inl f_hasIf)), (m_becomes, .inl (E.2.1 1, 16, .inl f_becomes)), (m_goneOf, .inl (E.2.1 1, 16, .inl f_goneOf)), (m_heard, .inl (E.2.1 1, 64, .inl f_heard)), (m_actMany, .inl (E.2.1 1, 25, .inl f_actMany)), (m_actOf, .inl (E.2.1 1, 800, .inl f_actOf)), (m_whom, .inl (E.2.1 1, 800, .inl f_whom)), (m_afters, .inl (E.2.1 1, 9, .inl f_afters)), (m_afterOf, .inl (E.2.1 1, 18, .inl f_afterOf))]) C hT [10, 11, 0, 13, 12, 1, 17, 2, 3, 4, 5, 6, 7, 14, 15, 16, 8, 9] rfl rfl rfl rfl dX12_truthOf_142 (⟨gt_manys, gt_reals, gt_factsOf, gt_possible, gt_pairs, f_pilez_13, rfl, hnb_m_manys_8, hnb_m_reals_8, hpg_8, hk_manys, hk_reals⟩)
              · have zc_15 : ((h2 : Nat) : Int) > ((pa : Nat) : Int) := i_nle (nI_toInt (n := h2) (by omega)) (nI_toInt (n := pa) (by omega)) c_15
                refine ww_iinc (j := 2) (v := (nI (h2 - 1))) (lv' := [(3, .int (nI (h2 - 1))), (5, .int so2), (4, .int (nI la)), (0, .ref hm), (1, .int (nI k)), (2, .int (nI pa))]) C dX12_truthOf_113 rfl (nI_subc (a := h2) (c := 1) (by omega) rfl) rfl rfl ?_
                refine ww_aload_n C dX12_truthOf_116 3 rfl rfl ?_
                refine ww_aload_n C dX12_truthOf_117 3 rfl rfl ?_
                refine ww_get C fg_X12_46 10 rfl rfl dX12_truthOf_118 ?_
                refine ww_iconst (v := 2) C dX12_truthOf_121 rfl ?_
                refine ww_iload_n C dX12_truthOf_122 4 rfl rfl ?_
                refine ww_imul (v := (nI (2 * k))) C dX12_truthOf_123 (pk_mul 2 k) ?_
                refine ww_iload_n C dX12_truthOf_124 0 rfl rfl ?_
                refine ww_iadd (v := (nI ((2 * k) + (h2 - 1)))) C dX12_truthOf_125 (nI_add (2 * k) (h2 - 1)) ?_
                refine ww_iload_n C dX12_truthOf_126 5 rfl rfl ?_
                refine ww_isub (v := (nI (((2 * k) + (h2 - 1)) - pa))) C dX12_truthOf_127 (pk_sub (a := ((2 * k) + (h2 - 1))) (b := pa) (by omega)) ?_
                have hbx_16 := (hb_afterOf (((2 * k) + (h2 - 1)) - pa) (by omega)).2
                refine ww_iald (v := (nI (cN f_afterOf (((2 * k) + (h2 - 1)) - pa)))) C 9 rfl (vp_in_nI (by omega) (by omega)) (ldn (by omega) (hb_afterOf (((2 * k) + (h2 - 1)) - pa) (by omega)).1) dX12_truthOf_128 ?_
                refine ww_iload_n C dX12_truthOf_129 0 rfl rfl ?_
                refine ww_iload C dX12_truthOf_130 1 rfl ?_
                refine ww_ci (wr := [(m_reals, .inl (E.2.1 1, 18, .inl gt_reals)), (m_hasIf, .inl (E.2.1 3, 16, .inl f_hasIf)), (m_becomes, .inl (E.2.1 1, 16, .inl f_becomes)), (m_goneOf, .inl (E.2.1 1, 16, .inl f_goneOf)), (m_heard, .inl (E.2.1 1, 64, .inl f_heard)), (m_afters, .inl (E.2.1 1, 9, .inl f_afters)), (m_afterOf, .inl (E.2.1 1, 18, .inl f_afterOf)), (m_possible, .inl (E.2.1 1, 1728, .inl gt_possible)), (m_factsOf, .inl (E.2.1 1, 432, .inl gt_factsOf)), (m_actMany, .inl (E.2.1 1, 25, .inl f_actMany)), (m_actOf, .inl (E.2.1 1, 800, .inl f_actOf)), (m_whom, .inl (E.2.1 1, 800, .inl f_whom)), (m_pile, .inl (E.2.1 1, 34, .inl f_pilez_13))]) (k' := 0) (n' := 0) C (run_V (As := [.int (nI (cN f_afterOf (((2 * k) + (h2 - 1)) - pa))), .int (nI (h2 - 1)), .int so2]) (rest := []) C (r_broughtBack X.2.1 E ro hm (cN f_afterOf (((2 * k) + (h2 - 1)) - pa)) (h2 - 1) so2 m_manys m_reals m_factsOf m_possible q_undos q_models m_tape q_taped q_fault q_wrong q_wrongAt q_spot q_place q_token q_value m_ends m_letters m_actOf m_whom m_actMany m_tokens m_afters m_afterOf q_counted m_pile m_caseMany m_happen m_hasIf m_becomes m_goneOf m_heard m_pairs m_heaps q_rounds q_heapMany m_led m_newAt m_knowing m_firsts q_people m_secrets m_tried m_lanes m_lengths m_cells gt_manys f_caseMany f_happen gt_pairs hnb_m_manys_8 hb_caseMany hb_happen (by omega) (by omega)) mi_X12_broughtBack wl_X12_270 rfl 0 12 rfl rfl rfl rfl rfl dX12_truthOf_132) (roK hro) [10, 11, 2, 3, 1] [0, 4, 5, 6, 7, 8, 9, 12, 13, 14, 15, 16, 17] rfl rfl rfl rfl (fun r_17 uz hw => ?_)
                have he_18 := hw
                clear hw
                subst he_18
                refine ww_eq (ws' := [(m_reals, .inl (E.2.1 1, 18, .inl gt_reals)), (m_hasIf, .inl (E.2.1 3, 16, .inl f_hasIf)), (m_becomes, .inl (E.2.1 1, 16, .inl f_becomes)), (m_goneOf, .inl (E.2.1 1, 16, .inl f_goneOf)), (m_heard, .inl (E.2.1 1, 64, .inl f_heard)), (m_afters, .inl (E.2.1 1, 9, .inl f_afters)), (m_afterOf, .inl (E.2.1 1, 18, .inl f_afterOf)), (m_possible, .inl (E.2.1 1, 1728, .inl gt_possible)), (m_factsOf, .inl (E.2.1 1, 432, .inl gt_factsOf)), (m_actMany, .inl (E.2.1 1, 25, .inl f_actMany)), (m_actOf, .inl (E.2.1 1, 800, .inl f_actOf)), (m_whom, .inl (E.2.1 1, 800, .inl f_whom)), (m_pile, .inl (E.2.1 1, 34, .inl f_pilez_13)), (hm, .inr (12, [.ref m_manys, .ref m_reals, .ref m_factsOf, .ref m_possible, .int (nI q_undos), .int (nI q_models), .ref m_tape, .int (nI q_taped), .int q_fault, .int q_wrong, .int q_wrongAt, .int q_spot, .int q_place, .int q_token, .int q_value, .ref m_ends, .ref m_letters, .ref m_actOf, .ref m_whom, .ref m_actMany, .ref m_tokens, .ref m_afters, .ref m_afterOf, .int q_counted, .ref m_pile, .ref m_caseMany, .ref m_happen, .ref m_hasIf, .ref m_becomes, .ref m_goneOf, .ref m_heard, .ref m_pairs, .ref m_heaps, .int q_rounds, .int q_heapMany, .ref m_led, .ref m_newAt, .ref m_knowing, .ref m_firsts, .int (nI q_people), .ref m_secrets, .ref m_tried, .ref m_lanes, .ref m_lengths, .ref m_cells])), (m_manys, .inl (E.2.1 1, 18, .inl gt_manys)), (m_caseMany, .inl (E.2.1 1, 4, .inl f_caseMany)), (m_happen, .inl (E.2.1 1, 4, .inl f_happen)), (m_pairs, .inl (E.2.1 1, 576, .inl gt_pairs))]) ?_ rfl rfl rfl
                refine ww_istore (lv' := [(5, .int r_17), (3, .int (nI (h2 - 1))), (4, .int (nI la)), (0, .ref hm), (1, .int (nI k)), (2, .int (nI pa))]) C dX12_truthOf_135 rfl rfl ?_
                refine ww_goto (tgt := 108) C dX12_truthOf_137 (by decide) ?_
                exact ww_lv [0, 2, 1, 3, 4, 5] rfl (ww_sub [0, 17, 15, 16, 1, 2, 3, 4, 5, 6, 13, 14, 7, 8, 9, 10, 11, 12] rfl rfl (ih_108 (h2 - 1) r_17 (by omega) (by omega) (by omega)))
          exact ww_lv [0, 1, 2, 3, 4, 5] rfl (ww_sub [0, 1, 2, 3, 4, 5, 6, 7, 8, 9, 10, 11, 12, 13, 14, 15, 16, 17] rfl rfl (loop_108 _ hh r_12 (by omega) (by omega) (Nat.lt_succ_self _)))
      · have zc_2 : ((a1 : Nat) : Int) < ((cN f_afters k : Nat) : Int) := i_nle (nI_toInt (n := cN f_afters k) (by omega)) (nI_toInt (n := a1) (by omega)) c_2
        refine ww_iload C dX12_truthOf_19 1 rfl ?_
        refine ww_if_eq (tgt := 83) C dX12_truthOf_21 (by decide) (fun c_19 => ?_) (fun c_19 => ?_)
        · have zc_19 : ((la : Nat) : Int) = 0 := i_eq (nI_toInt (n := la) (by omega)) rfl c_19
          refine ww_iload C dX12_truthOf_83 1 rfl ?_
          refine ww_if_eq (tgt := 97) C dX12_truthOf_85 (by decide) (fun c_20 => ?_) (fun c_20 => ?_)
          · have zc_20 : ((la : Nat) : Int) = 0 := i_eq (nI_toInt (n := la) (by omega)) rfl c_20
            refine ww_aload_n C dX12_truthOf_97 3 rfl rfl ?_
            refine ww_get C fg_X12_7 0 rfl rfl dX12_truthOf_98 ?_
            refine ww_iload_n C dX12_truthOf_101 2 rfl rfl ?_
            have hbx_21 := (hnb_m_manys_8 hh (by omega)).2
            refine ww_iald (v := (nI (cN gt_manys hh))) C 1 rfl (vp_in_nI (by omega) (by omega)) (ldn (by omega) (hnb_m_manys_8 hh (by omega)).1) dX12_truthOf_102 ?_
            refine ww_ci (wr := [(hm, .inr (12, [.ref m_manys, .ref m_reals, .ref m_factsOf, .ref m_possible, .int (nI q_undos), .int (nI q_models), .ref m_tape, .int (nI q_taped), .int q_fault, .int q_wrong, .int q_wrongAt, .int q_spot, .int q_place, .int q_token, .int q_value, .ref m_ends, .ref m_letters, .ref m_actOf, .ref m_whom, .ref m_actMany, .ref m_tokens, .ref m_afters, .ref m_afterOf, .int q_counted, .ref m_pile, .ref m_caseMany, .ref m_happen, .ref m_hasIf, .ref m_becomes, .ref m_goneOf, .ref m_heard, .ref m_pairs, .ref m_heaps, .int q_rounds, .int q_heapMany, .ref m_led, .ref m_newAt, .ref m_knowing, .ref m_firsts, .int (nI q_people), .ref m_secrets, .ref m_tried, .ref m_lanes, .ref m_lengths, .ref m_cells])), (m_manys, .inl (E.2.1 1, 18, .inl gt_manys)), (m_reals, .inl (E.2.1 1, 18, .inl gt_reals)), (m_factsOf, .inl (E.2.1 1, 432, .inl gt_factsOf)), (m_possible, .inl (E.2.1 1, 1728, .inl gt_possible)), (m_pairs, .inl (E.2.1 1, 576, .inl gt_pairs)), (m_pile, .inl (E.2.1 1, 34, .inl gt_pile)), (m_caseMany, .inl (E.2.1 1, 4, .inl f_caseMany)), (m_happen, .inl (E.2.1 1, 4, .inl f_happen)), (m_hasIf, .inl (E.2.1 3, 16, .inl f_hasIf)), (m_becomes, .inl (E.2.1 1, 16, .inl f_becomes)), (m_goneOf, .inl (E.2.1 1, 16, .inl f_goneOf)), (m_heard, .inl (E.2.1 1, 64, .inl f_heard)), (m_actMany, .inl (E.2.1 1, 25, .inl f_actMany)), (m_actOf, .inl (E.2.1 1, 800, .inl f_actOf)), (m_whom, .inl (E.2.1 1, 800, .inl f_whom)), (m_afters, .inl (E.2.1 1, 9, .inl f_afters)), (m_afterOf, .inl (E.2.1 1, 18, .inl f_afterOf))]) (k' := 0) (n' := 0) C (run_S (As := [.int (nI (cN gt_manys hh))]) (rest := []) C (r_all X.2.1 E ro (cN gt_manys hh) (by omega)) ms_X12_all wl_X12_230 rfl rfl rfl rfl dX12_truthOf_103) (roK hro) [] [0, 1, 2, 3, 4, 5, 6, 7, 8, 9, 10, 11, 12, 13, 14, 15, 16, 17] rfl rfl rfl rfl (fun r_22 uz hw => ?_)
            refine an1 hw ?_
            clear hw
            intro he_24 hw
            have h_23 := hw
            clear hw
            subst he_24
            refine ww_eq (ws' := [(hm, .inr (12, [.ref m_manys, .ref m_reals, .ref m_factsOf, .ref m_possible, .int (nI q_undos), .int (nI q_models), .ref m_tape, .int (nI q_taped), .int q_fault, .int q_wrong, .int q_wrongAt, .int q_spot, .int q_place, .int q_token, .int q_value, .ref m_ends, .ref m_letters, .ref m_actOf, .ref m_whom, .ref m_actMany, .ref m_tokens, .ref m_afters, .ref m_afterOf, .int q_counted, .ref m_pile, .ref m_caseMany, .ref m_happen, .ref m_hasIf, .ref m_becomes, .ref m_goneOf, .ref m_heard, .ref m_pairs, .ref m_heaps, .int q_rounds, .int q_heapMany, .ref m_led, .ref m_newAt, .ref m_knowing, .ref m_firsts, .int (nI q_people), .ref m_secrets, .ref m_tried, .ref m_lanes, .ref m_lengths, .ref m_cells])), (m_manys, .inl (E.2.1 1, 18, .inl gt_manys)), (m_reals, .inl (E.2.1 1, 18, .inl gt_reals)), (m_factsOf, .inl (E.2.1 1, 432, .inl gt_factsOf)), (m_possible, .inl (E.2.1 1, 1728, .inl gt_possible)), (m_pairs, .inl (E.2.1 1, 576, .inl gt_pairs)), (m_pile, .inl (E.2.1 1, 34, .inl gt_pile)), (m_caseMany, .inl (E.2.1 1, 4, .inl f_caseMany)), (m_happen, .inl (E.2.1 1, 4, .inl f_happen)), (m_hasIf, .inl (E.2.1 3, 16, .inl f_hasIf)), (m_becomes, .inl (E.2.1 1, 16, .inl f_becomes)), (m_goneOf, .inl (E.2.1 1, 16, .inl f_goneOf)), (m_heard, .inl (E.2.1 1, 64, .inl f_heard)), (m_actMany, .inl (E.2.1 1, 25, .inl f_actMany)), (m_actOf, .inl (E.2.1 1, 800, .inl f_actOf)), (m_whom, .inl (E.2.1 1, 800, .inl f_whom)), (m_afters, .inl (E.2.1 1, 9, .inl f_afters)), (m_afterOf, .inl (E.2.1 1, 18, .inl f_afterOf))]) ?_ rfl rfl rfl
            refine ww_istore (lv' := [(5, .int r_22), (4, .int (nI la)), (3, .int (nI hh)), (0, .ref hm), (1, .int (nI k)), (2, .int (nI pa))]) C dX12_truthOf_106 rfl rfl ?_
            have loop_108 : ∀ (fu : Nat) (h2 : Nat) (so2 : Int32), (pa ≤ h2) → (h2 ≤ pa + 2) → h2 - pa < fu → WW X 7 E 108 [(5, .int so2), (4, .int (nI la)), (3, .int (nI h2)), (0, .ref hm), (1, .int (nI k)), (2, .int (nI pa))] [] [(hm, .inr (12, [.ref m_manys, .ref m_reals, .ref m_factsOf, .ref m_possible, .int (nI q_undos), .int (nI q_models), .ref m_tape, .int (nI q_taped), .int q_fault, .int q_wrong, .int q_wrongAt, .int q_spot, .int q_place, .int q_token, .int q_value, .ref m_ends, .ref m_letters, .ref m_actOf, .ref m_whom, .ref m_actMany, .ref m_tokens, .ref m_afters, .ref m_afterOf, .int q_counted, .ref m_pile, .ref m_caseMany, .ref m_happen, .ref m_hasIf, .ref m_becomes, .ref m_goneOf, .ref m_heard, .ref m_pairs, .ref m_heaps, .int q_rounds, .int q_heapMany, .ref m_led, .ref m_newAt, .ref m_knowing, .ref m_firsts, .int (nI q_people), .ref m_secrets, .ref m_tried, .ref m_lanes, .ref m_lengths, .ref m_cells])), (m_manys, .inl (E.2.1 1, 18, .inl gt_manys)), (m_reals, .inl (E.2.1 1, 18, .inl gt_reals)), (m_factsOf, .inl (E.2.1 1, 432, .inl gt_factsOf)), (m_possible, .inl (E.2.1 1, 1728, .inl gt_possible)), (m_pairs, .inl (E.2.1 1, 576, .inl gt_pairs)), (m_pile, .inl (E.2.1 1, 34, .inl gt_pile)), (m_caseMany, .inl (E.2.1 1, 4, .inl f_caseMany)), (m_happen, .inl (E.2.1 1, 4, .inl f_happen)), (m_hasIf, .inl (E.2.1 3, 16, .inl f_hasIf)), (m_becomes, .inl (E.2.1 1, 16, .inl f_becomes)), (m_goneOf, .inl (E.2.1 1, 16, .inl f_goneOf)), (m_heard, .inl (E.2.1 1, 64, .inl f_heard)), (m_actMany, .inl (E.2.1 1, 25, .inl f_actMany)), (m_actOf, .inl (E.2.1 1, 800, .inl f_actOf)), (m_whom, .inl (E.2.1 1, 800, .inl f_whom)), (m_afters, .inl (E.2.1 1, 9, .inl f_afters)), (m_afterOf, .inl (E.2.1 1, 18, .inl f_afterOf))] 0 0 := by
              intro fu
              induction fu with
              | zero => intro h2 so2 hh2 hh3 hmeas; exact absurd hmeas (Nat.not_lt_zero _)
              | succ fu ih_108 =>
                intro h2 so2 hh2 hh3 hmeas
                refine ww_iload_n C dX12_truthOf_108 2 rfl rfl ?_
                refine ww_iload_n C dX12_truthOf_109 5 rfl rfl ?_
                refine ww_icmp_le (tgt := 140) C dX12_truthOf_110 (by decide) (fun c_25 => ?_) (fun c_25 => ?_)
                · have zc_25 : ((h2 : Nat) : Int) ≤ ((pa : Nat) : Int) := i_le (nI_toInt (n := h2) (by omega)) (nI_toInt (n := pa) (by omega)) c_25
                  refine ww_iload C dX12_truthOf_140 0 rfl ?_
                  exact ww_iret (u := [(hm, .inr (12, [.ref m_manys, .ref m_reals, .ref m_factsOf, .ref m_possible, .int (nI q_undos), .int (nI q_models), .ref m_tape, .int (nI q_taped), .int q_fault, .int q_wrong, .int q_wrongAt, .int q_spot, .int q_place, .int q_token, .int q_value, .ref m_ends, .ref m_letters, .ref m_actOf, .ref m_whom, .ref m_actMany, .ref m_tokens, .ref m_afters, .ref m_afterOf, .int q_counted, .ref m_pile, .ref m_caseMany, .ref m_happen, .ref m_hasIf, .ref m_becomes, .ref m_goneOf, .ref m_heard, .ref m_pairs, .ref m_heaps, .int q_rounds, .int q_heapMany, .ref m_led, .ref m_newAt, .ref m_knowing, .ref m_firsts, .int (nI q_people), .ref m_secrets, .ref m_tried, .ref m_lanes, .ref m_lengths, .ref m_cells])), (m_manys, .inl (E.2.1 1, 18, .inl gt_manys)), (m_reals, .inl (E.2.1 1, 18, .inl gt_reals)), (m_factsOf, .inl (E.2.1 1, 432, .inl gt_factsOf)), (m_possible, .inl (E.2.1 1, 1728, .inl gt_possible)), (m_pairs, .inl (E.2.1 1, 576, .inl gt_pairs)), (m_pile, .inl (E.2.1 1, 34, .inl gt_pile)), (m_caseMany, .inl (E.2.1 1, 4, .inl f_caseMany)), (m_happen, .inl (E.2.1 1, 4, .inl f_happen)), (m_hasIf, .inl (E.2.1 3, 16, .inl f_hasIf)), (m_becomes, .inl (E.2.1 1, 16, .inl f_becomes)), (m_goneOf, .inl (E.2.1 1, 16, .inl f_goneOf)), (m_heard, .inl (E.2.1 1, 64, .inl f_heard)), (m_actMany, .inl (E.2.1 1, 25, .inl f_actMany)), (m_actOf, .inl (E.2.1 1, 800, .inl f_actOf)), (m_whom, .inl (E.2.1 1, 800, .inl f_whom)), (m_afters, .inl (E.2.1 1, 9, .inl f_afters)), (m_afterOf, .inl (E.2.1 1, 18, .inl f_afterOf))]) C hT [0, 1, 2, 3, 4, 5, 6, 7, 8, 9, 10, 11, 12, 13, 14, 15, 16, 17] rfl rfl rfl rfl dX12_truthOf_142 (⟨gt_manys, gt_reals, gt_factsOf, gt_possible, gt_pairs, gt_pile, rfl, hnb_m_manys_8, hnb_m_reals_8, hpg_8, hk_manys, hk_reals⟩)
                · have zc_25 : ((h2 : Nat) : Int) > ((pa : Nat) : Int) := i_nle (nI_toInt (n := h2) (by omega)) (nI_toInt (n := pa) (by omega)) c_25
                  refine ww_iinc (j := 2) (v := (nI (h2 - 1))) (lv' := [(3, .int (nI (h2 - 1))), (5, .int so2), (4, .int (nI la)), (0, .ref hm), (1, .int (nI k)), (2, .int (nI pa))]) C dX12_truthOf_113 rfl (nI_subc (a := h2) (c := 1) (by omega) rfl) rfl rfl ?_
                  refine ww_aload_n C dX12_truthOf_116 3 rfl rfl ?_
                  refine ww_aload_n C dX12_truthOf_117 3 rfl rfl ?_
                  refine ww_get C fg_X12_46 0 rfl rfl dX12_truthOf_118 ?_
                  refine ww_iconst (v := 2) C dX12_truthOf_121 rfl ?_
                  refine ww_iload_n C dX12_truthOf_122 4 rfl rfl ?_
                  refine ww_imul (v := (nI (2 * k))) C dX12_truthOf_123 (pk_mul 2 k) ?_
                  refine ww_iload_n C dX12_truthOf_124 0 rfl rfl ?_
                  refine ww_iadd (v := (nI ((2 * k) + (h2 - 1)))) C dX12_truthOf_125 (nI_add (2 * k) (h2 - 1)) ?_
                  refine ww_iload_n C dX12_truthOf_126 5 rfl rfl ?_
                  refine ww_isub (v := (nI (((2 * k) + (h2 - 1)) - pa))) C dX12_truthOf_127 (pk_sub (a := ((2 * k) + (h2 - 1))) (b := pa) (by omega)) ?_
                  have hbx_26 := (hb_afterOf (((2 * k) + (h2 - 1)) - pa) (by omega)).2
                  refine ww_iald (v := (nI (cN f_afterOf (((2 * k) + (h2 - 1)) - pa)))) C 17 rfl (vp_in_nI (by omega) (by omega)) (ldn (by omega) (hb_afterOf (((2 * k) + (h2 - 1)) - pa) (by omega)).1) dX12_truthOf_128 ?_
                  refine ww_iload_n C dX12_truthOf_129 0 rfl rfl ?_
                  refine ww_iload C dX12_truthOf_130 1 rfl ?_
                  refine ww_ci (wr := [(m_reals, .inl (E.2.1 1, 18, .inl gt_reals)), (m_factsOf, .inl (E.2.1 1, 432, .inl gt_factsOf)), (m_possible, .inl (E.2.1 1, 1728, .inl gt_possible)), (m_pile, .inl (E.2.1 1, 34, .inl gt_pile)), (m_hasIf, .inl (E.2.1 3, 16, .inl f_hasIf)), (m_becomes, .inl (E.2.1 1, 16, .inl f_becomes)), (m_goneOf, .inl (E.2.1 1, 16, .inl f_goneOf)), (m_heard, .inl (E.2.1 1, 64, .inl f_heard)), (m_actMany, .inl (E.2.1 1, 25, .inl f_actMany)), (m_actOf, .inl (E.2.1 1, 800, .inl f_actOf)), (m_whom, .inl (E.2.1 1, 800, .inl f_whom)), (m_afters, .inl (E.2.1 1, 9, .inl f_afters)), (m_afterOf, .inl (E.2.1 1, 18, .inl f_afterOf))]) (k' := 0) (n' := 0) C (run_V (As := [.int (nI (cN f_afterOf (((2 * k) + (h2 - 1)) - pa))), .int (nI (h2 - 1)), .int so2]) (rest := []) C (r_broughtBack X.2.1 E ro hm (cN f_afterOf (((2 * k) + (h2 - 1)) - pa)) (h2 - 1) so2 m_manys m_reals m_factsOf m_possible q_undos q_models m_tape q_taped q_fault q_wrong q_wrongAt q_spot q_place q_token q_value m_ends m_letters m_actOf m_whom m_actMany m_tokens m_afters m_afterOf q_counted m_pile m_caseMany m_happen m_hasIf m_becomes m_goneOf m_heard m_pairs m_heaps q_rounds q_heapMany m_led m_newAt m_knowing m_firsts q_people m_secrets m_tried m_lanes m_lengths m_cells gt_manys f_caseMany f_happen gt_pairs hnb_m_manys_8 hb_caseMany hb_happen (by omega) (by omega)) mi_X12_broughtBack wl_X12_270 rfl 0 12 rfl rfl rfl rfl rfl dX12_truthOf_132) (roK hro) [0, 1, 7, 8, 5] [2, 3, 4, 6, 9, 10, 11, 12, 13, 14, 15, 16, 17] rfl rfl rfl rfl (fun r_27 uz hw => ?_)
                  have he_28 := hw
                  clear hw
                  subst he_28
                  refine ww_eq (ws' := [(m_reals, .inl (E.2.1 1, 18, .inl gt_reals)), (m_factsOf, .inl (E.2.1 1, 432, .inl gt_factsOf)), (m_possible, .inl (E.2.1 1, 1728, .inl gt_possible)), (m_pile, .inl (E.2.1 1, 34, .inl gt_pile)), (m_hasIf, .inl (E.2.1 3, 16, .inl f_hasIf)), (m_becomes, .inl (E.2.1 1, 16, .inl f_becomes)), (m_goneOf, .inl (E.2.1 1, 16, .inl f_goneOf)), (m_heard, .inl (E.2.1 1, 64, .inl f_heard)), (m_actMany, .inl (E.2.1 1, 25, .inl f_actMany)), (m_actOf, .inl (E.2.1 1, 800, .inl f_actOf)), (m_whom, .inl (E.2.1 1, 800, .inl f_whom)), (m_afters, .inl (E.2.1 1, 9, .inl f_afters)), (m_afterOf, .inl (E.2.1 1, 18, .inl f_afterOf)), (hm, .inr (12, [.ref m_manys, .ref m_reals, .ref m_factsOf, .ref m_possible, .int (nI q_undos), .int (nI q_models), .ref m_tape, .int (nI q_taped), .int q_fault, .int q_wrong, .int q_wrongAt, .int q_spot, .int q_place, .int q_token, .int q_value, .ref m_ends, .ref m_letters, .ref m_actOf, .ref m_whom, .ref m_actMany, .ref m_tokens, .ref m_afters, .ref m_afterOf, .int q_counted, .ref m_pile, .ref m_caseMany, .ref m_happen, .ref m_hasIf, .ref m_becomes, .ref m_goneOf, .ref m_heard, .ref m_pairs, .ref m_heaps, .int q_rounds, .int q_heapMany, .ref m_led, .ref m_newAt, .ref m_knowing, .ref m_firsts, .int (nI q_people), .ref m_secrets, .ref m_tried, .ref m_lanes, .ref m_lengths, .ref m_cells])), (m_manys, .inl (E.2.1 1, 18, .inl gt_manys)), (m_caseMany, .inl (E.2.1 1, 4, .inl f_caseMany)), (m_happen, .inl (E.2.1 1, 4, .inl f_happen)), (m_pairs, .inl (E.2.1 1, 576, .inl gt_pairs))]) ?_ rfl rfl rfl
                  refine ww_istore (lv' := [(5, .int r_27), (3, .int (nI (h2 - 1))), (4, .int (nI la)), (0, .ref hm), (1, .int (nI k)), (2, .int (nI pa))]) C dX12_truthOf_135 rfl rfl ?_
                  refine ww_goto (tgt := 108) C dX12_truthOf_137 (by decide) ?_
                  exact ww_lv [0, 2, 1, 3, 4, 5] rfl (ww_sub [13, 14, 0, 1, 2, 17, 3, 15, 16, 4, 5, 6, 7, 8, 9, 10, 11, 12] rfl rfl (ih_108 (h2 - 1) r_27 (by omega) (by omega) (by omega)))
            exact ww_lv [0, 1, 2, 3, 4, 5] rfl (ww_sub [0, 1, 2, 3, 4, 5, 6, 7, 8, 9, 10, 11, 12, 13, 14, 15, 16, 17] rfl rfl (loop_108 _ hh r_22 (by omega) (by omega) (Nat.lt_succ_self _)))
          · have zc_20 : ((la : Nat) : Int) ≠ 0 := i_ne (nI_toInt (n := la) (by omega)) rfl c_20
            omega
        · have zc_19 : ((la : Nat) : Int) ≠ 0 := i_ne (nI_toInt (n := la) (by omega)) rfl c_19
          refine ww_aload_n C dX12_truthOf_24 3 rfl rfl ?_
          refine ww_get C fg_X12_46 0 rfl rfl dX12_truthOf_25 ?_
          refine ww_iconst (v := 2) C dX12_truthOf_28 rfl ?_
          refine ww_iload_n C dX12_truthOf_29 4 rfl rfl ?_
          refine ww_imul (v := (nI (2 * k))) C dX12_truthOf_30 (pk_mul 2 k) ?_
          refine ww_iload C dX12_truthOf_31 0 rfl ?_
          refine ww_iadd (v := (nI ((2 * k) + a1))) C dX12_truthOf_33 (nI_add (2 * k) a1) ?_
          have hbx_29 := (hb_afterOf ((2 * k) + a1) (by omega)).2
          refine ww_iald (v := (nI (cN f_afterOf ((2 * k) + a1)))) C 17 rfl (vp_in_nI (by omega) (by omega)) (ldn (by omega) (hb_afterOf ((2 * k) + a1) (by omega)).1) dX12_truthOf_34 ?_
          refine ww_istore (lv' := [(6, .int (nI (cN f_afterOf ((2 * k) + a1)))), (5, .int (nI a1)), (4, .int (nI la)), (3, .int (nI hh)), (0, .ref hm), (1, .int (nI k)), (2, .int (nI pa))]) C dX12_truthOf_35 rfl rfl ?_
          refine ww_aload_n C dX12_truthOf_37 4 rfl rfl ?_
          refine ww_get C fg_X12_52 0 rfl rfl dX12_truthOf_38 ?_
          refine ww_iload C dX12_truthOf_41 0 rfl ?_
          have hbx_30 := (hb_caseMany (cN f_afterOf ((2 * k) + a1)) (by omega)).2
          refine ww_iald (v := (nI (cN f_caseMany (cN f_afterOf ((2 * k) + a1))))) C 7 rfl (vp_in_nI (by omega) (by omega)) (ldn (by omega) (hb_caseMany (cN f_afterOf ((2 * k) + a1)) (by omega)).1) dX12_truthOf_43 ?_
          refine ww_if_le (tgt := 61) C dX12_truthOf_44 (by decide) (fun c_31 => ?_) (fun c_31 => ?_)
          · have zc_31 : ((cN f_caseMany (cN f_afterOf ((2 * k) + a1)) : Nat) : Int) ≤ 0 := i_le (nI_toInt (n := cN f_caseMany (cN f_afterOf ((2 * k) + a1))) (by omega)) rfl c_31
            refine ww_iconst (v := 0) C dX12_truthOf_61 rfl ?_
            refine ww_istore (lv' := [(4, .int 0), (6, .int (nI (cN f_afterOf ((2 * k) + a1)))), (5, .int (nI a1)), (3, .int (nI hh)), (0, .ref hm), (1, .int (nI k)), (2, .int (nI pa))]) C dX12_truthOf_62 rfl rfl ?_
            refine ww_iload_n C dX12_truthOf_64 3 rfl rfl ?_
            refine ww_iload C dX12_truthOf_65 0 rfl ?_
            refine ww_if_eq_t (tgt := 74) C dX12_truthOf_67 (by decide) (rfl) ?_
            refine ww_iconst (v := 0) C dX12_truthOf_74 rfl ?_
            refine ww_iadd (v := (nI hh)) C dX12_truthOf_75 (nI_add hh 0) ?_
            refine ww_istore_n (lv' := [(3, .int (nI hh)), (4, .int 0), (6, .int (nI (cN f_afterOf ((2 * k) + a1)))), (5, .int (nI a1)), (0, .ref hm), (1, .int (nI k)), (2, .int (nI pa))]) C dX12_truthOf_76 rfl rfl rfl ?_
            refine ww_iinc (j := 3) (v := (nI (a1 + 1))) (lv' := [(5, .int (nI (a1 + 1))), (3, .int (nI hh)), (4, .int 0), (6, .int (nI (cN f_afterOf ((2 * k) + a1)))), (0, .ref hm), (1, .int (nI k)), (2, .int (nI pa))]) C dX12_truthOf_77 rfl (nI_add a1 1) rfl rfl ?_
            refine ww_goto (tgt := 8) C dX12_truthOf_80 (by decide) ?_
            exact ww_lv [0, 2, 1, 4, 5, 6] rfl (ww_sub [0, 1, 2, 3, 4, 5, 6, 7, 8, 9, 10, 11, 12, 13, 14, 15, 16, 17] rfl rfl (ih_8 hh 0 (a1 + 1) gt_manys gt_reals gt_factsOf gt_possible gt_pairs gt_pile (by omega) (by omega) (by omega) (by omega) hk_manys hk_reals hnb_m_manys_8 hnb_m_reals_8 hpg_8 (by omega)))
          · have zc_31 : ((cN f_caseMany (cN f_afterOf ((2 * k) + a1)) : Nat) : Int) > 0 := i_nle (nI_toInt (n := cN f_caseMany (cN f_afterOf ((2 * k) + a1))) (by omega)) rfl c_31
            refine ww_aload_n C dX12_truthOf_47 4 rfl rfl ?_
            refine ww_iload C dX12_truthOf_48 0 rfl ?_
            refine ww_iload_n C dX12_truthOf_50 3 rfl rfl ?_
            refine ww_ci (wr := [(m_afters, .inl (E.2.1 1, 9, .inl f_afters)), (m_afterOf, .inl (E.2.1 1, 18, .inl f_afterOf))]) (k' := 0) (n' := 0) C (run_V (As := [.int (nI (cN f_afterOf ((2 * k) + a1))), .int (nI hh)]) (rest := []) C (r_laid X.2.1 E ro hm (cN f_afterOf ((2 * k) + a1)) hh m_manys m_reals m_factsOf m_possible q_undos q_models m_tape q_taped q_fault q_wrong q_wrongAt q_spot q_place q_token q_value m_ends m_letters m_actOf m_whom m_actMany m_tokens m_afters m_afterOf q_counted m_pile m_caseMany m_happen m_hasIf m_becomes m_goneOf m_heard m_pairs m_heaps q_rounds q_heapMany m_led m_newAt m_knowing m_firsts q_people m_secrets m_tried m_lanes m_lengths m_cells gt_manys gt_reals gt_factsOf gt_possible gt_pairs gt_pile f_caseMany f_happen f_hasIf f_becomes f_goneOf f_heard f_actMany f_actOf f_whom hnb_m_manys_8 hnb_m_reals_8 hpg_8 hb_caseMany hb_happen hb_actMany hhp hsv (by omega) (by omega) (by omega)) mi_X12_laid wl_X12_267 rfl 0 12 rfl rfl rfl rfl rfl dX12_truthOf_51) (roK hro) [0, 1, 2, 3, 4, 5, 6, 7, 8, 9, 10, 11, 12, 13, 14, 15] [16, 17] rfl rfl rfl rfl (fun r_32 uz hw => ?_)
            rcases hw with hw | hw
            · refine ex6 hw ?_
              clear hw
              intro f_manysz_33 f_realsz_34 f_factsOfz_35 f_possiblez_36 f_pairsz_37 f_pilez_38 hw
              refine an6 hw ?_
              clear hw
              intro he_44 he_45 h_39 h_40 h_41 h_42 hw
              have h_43 := hw
              clear hw
              have he_44 := he_44.symm
              subst he_44
              subst he_45
              refine ww_eq (ws' := [(m_afters, .inl (E.2.1 1, 9, .inl f_afters)), (m_afterOf, .inl (E.2.1 1, 18, .inl f_afterOf)), (hm, .inr (12, [.ref m_manys, .ref m_reals, .ref m_factsOf, .ref m_possible, .int (nI q_undos), .int (nI q_models), .ref m_tape, .int (nI q_taped), .int q_fault, .int q_wrong, .int q_wrongAt, .int q_spot, .int q_place, .int q_token, .int q_value, .ref m_ends, .ref m_letters, .ref m_actOf, .ref m_whom, .ref m_actMany, .ref m_tokens, .ref m_afters, .ref m_afterOf, .int q_counted, .ref m_pile, .ref m_caseMany, .ref m_happen, .ref m_hasIf, .ref m_becomes, .ref m_goneOf, .ref m_heard, .ref m_pairs, .ref m_heaps, .int q_rounds, .int q_heapMany, .ref m_led, .ref m_newAt, .ref m_knowing, .ref m_firsts, .int (nI q_people), .ref m_secrets, .ref m_tried, .ref m_lanes, .ref m_lengths, .ref m_cells])), (m_manys, .inl (E.2.1 1, 18, .inl f_manysz_33)), (m_reals, .inl (E.2.1 1, 18, .inl f_realsz_34)), (m_factsOf, .inl (E.2.1 1, 432, .inl f_factsOfz_35)), (m_possible, .inl (E.2.1 1, 1728, .inl f_possiblez_36)), (m_pairs, .inl (E.2.1 1, 576, .inl f_pairsz_37)), (m_pile, .inl (E.2.1 1, 34, .inl f_pilez_38)), (m_caseMany, .inl (E.2.1 1, 4, .inl f_caseMany)), (m_happen, .inl (E.2.1 1, 4, .inl f_happen)), (m_hasIf, .inl (E.2.1 3, 16, .inl f_hasIf)), (m_becomes, .inl (E.2.1 1, 16, .inl f_becomes)), (m_goneOf, .inl (E.2.1 1, 16, .inl f_goneOf)), (m_heard, .inl (E.2.1 1, 64, .inl f_heard)), (m_actMany, .inl (E.2.1 1, 25, .inl f_actMany)), (m_actOf, .inl (E.2.1 1, 800, .inl f_actOf)), (m_whom, .inl (E.2.1 1, 800, .inl f_whom))]) ?_ rfl rfl rfl
              refine ww_if_lt_t (tgt := 61) C dX12_truthOf_54 (by decide) (by decide) ?_
              refine ww_iconst (v := 0) C dX12_truthOf_61 rfl ?_
              refine ww_istore (lv' := [(4, .int 0), (6, .int (nI (cN f_afterOf ((2 * k) + a1)))), (5, .int (nI a1)), (3, .int (nI hh)), (0, .ref hm), (1, .int (nI k)), (2, .int (nI pa))]) C dX12_truthOf_62 rfl rfl ?_
              refine ww_iload_n C dX12_truthOf_64 3 rfl rfl ?_
              refine ww_iload C dX12_truthOf_65 0 rfl ?_
              refine ww_if_eq_t (tgt := 74) C dX12_truthOf_67 (by decide) (rfl) ?_
              refine ww_iconst (v := 0) C dX12_truthOf_74 rfl ?_
              refine ww_iadd (v := (nI hh)) C dX12_truthOf_75 (nI_add hh 0) ?_
              refine ww_istore_n (lv' := [(3, .int (nI hh)), (4, .int 0), (6, .int (nI (cN f_afterOf ((2 * k) + a1)))), (5, .int (nI a1)), (0, .ref hm), (1, .int (nI k)), (2, .int (nI pa))]) C dX12_truthOf_76 rfl rfl rfl ?_
              refine ww_iinc (j := 3) (v := (nI (a1 + 1))) (lv' := [(5, .int (nI (a1 + 1))), (3, .int (nI hh)), (4, .int 0), (6, .int (nI (cN f_afterOf ((2 * k) + a1)))), (0, .ref hm), (1, .int (nI k)), (2, .int (nI pa))]) C dX12_truthOf_77 rfl (nI_add a1 1) rfl rfl ?_
              refine ww_goto (tgt := 8) C dX12_truthOf_80 (by decide) ?_
              exact ww_lv [0, 2, 1, 4, 5, 6] rfl (ww_sub [2, 3, 4, 5, 6, 7, 8, 9, 10, 11, 12, 13, 14, 15, 16, 17, 0, 1] rfl rfl (ih_8 hh 0 (a1 + 1) f_manysz_33 f_realsz_34 f_factsOfz_35 f_possiblez_36 f_pairsz_37 f_pilez_38 (by omega) (by omega) (by omega) (by omega) (KP.tr hk_manys (KP.up h_42 (by omega))) (KP.tr hk_reals (KP.up h_43 (by omega))) h_39 h_40 h_41 (by omega)))
            · refine ex7 hw ?_
              clear hw
              intro mz_46 f_manysz_47 f_realsz_48 f_factsOfz_49 f_possiblez_50 f_pairsz_51 f_pilez_52 hw
              refine an7 hw ?_
              clear hw
              intro he_59 he_60 h_53 h_54 h_55 h_56 h_57 hw
              have h_58 := hw
              clear hw
              have he_59 := he_59.symm
              subst he_59
              subst he_60
              refine ww_eq (ws' := [(m_afters, .inl (E.2.1 1, 9, .inl f_afters)), (m_afterOf, .inl (E.2.1 1, 18, .inl f_afterOf)), (hm, .inr (12, [.ref m_manys, .ref m_reals, .ref m_factsOf, .ref m_possible, .int (nI q_undos), .int (nI q_models), .ref m_tape, .int (nI q_taped), .int q_fault, .int q_wrong, .int q_wrongAt, .int q_spot, .int q_place, .int q_token, .int q_value, .ref m_ends, .ref m_letters, .ref m_actOf, .ref m_whom, .ref m_actMany, .ref m_tokens, .ref m_afters, .ref m_afterOf, .int q_counted, .ref m_pile, .ref m_caseMany, .ref m_happen, .ref m_hasIf, .ref m_becomes, .ref m_goneOf, .ref m_heard, .ref m_pairs, .ref m_heaps, .int q_rounds, .int q_heapMany, .ref m_led, .ref m_newAt, .ref m_knowing, .ref m_firsts, .int (nI q_people), .ref m_secrets, .ref m_tried, .ref m_lanes, .ref m_lengths, .ref m_cells])), (m_manys, .inl (E.2.1 1, 18, .inl f_manysz_47)), (m_reals, .inl (E.2.1 1, 18, .inl f_realsz_48)), (m_factsOf, .inl (E.2.1 1, 432, .inl f_factsOfz_49)), (m_possible, .inl (E.2.1 1, 1728, .inl f_possiblez_50)), (m_pairs, .inl (E.2.1 1, 576, .inl f_pairsz_51)), (m_pile, .inl (E.2.1 1, 34, .inl f_pilez_52)), (m_caseMany, .inl (E.2.1 1, 4, .inl f_caseMany)), (m_happen, .inl (E.2.1 1, 4, .inl f_happen)), (m_hasIf, .inl (E.2.1 3, 16, .inl f_hasIf)), (m_becomes, .inl (E.2.1 1, 16, .inl f_becomes)), (m_goneOf, .inl (E.2.1 1, 16, .inl f_goneOf)), (m_heard, .inl (E.2.1 1, 64, .inl f_heard)), (m_actMany, .inl (E.2.1 1, 25, .inl f_actMany)), (m_actOf, .inl (E.2.1 1, 800, .inl f_actOf)), (m_whom, .inl (E.2.1 1, 800, .inl f_whom))]) ?_ rfl rfl rfl
              refine ww_if_lt (tgt := 61) C dX12_truthOf_54 (by decide) (fun c_61 => ?_) (fun c_61 => ?_)
              · have zc_61 : ((mz_46 : Nat) : Int) < 0 := i_lt (nI_toInt (n := mz_46) (by omega)) rfl c_61
                omega
              · have zc_61 : ((mz_46 : Nat) : Int) ≥ 0 := i_nlt (nI_toInt (n := mz_46) (by omega)) rfl c_61
                refine ww_iconst (v := 1) C dX12_truthOf_57 rfl ?_
                refine ww_goto (tgt := 62) C dX12_truthOf_58 (by decide) ?_
                refine ww_istore (lv' := [(4, .int 1), (6, .int (nI (cN f_afterOf ((2 * k) + a1)))), (5, .int (nI a1)), (3, .int (nI hh)), (0, .ref hm), (1, .int (nI k)), (2, .int (nI pa))]) C dX12_truthOf_62 rfl rfl ?_
                refine ww_iload_n C dX12_truthOf_64 3 rfl rfl ?_
                refine ww_iload C dX12_truthOf_65 0 rfl ?_
                refine ww_if_eq_f (tgt := 74) C dX12_truthOf_67 (by decide) (by decide) ?_
                refine ww_iconst (v := 1) C dX12_truthOf_70 rfl ?_
                refine ww_goto (tgt := 75) C dX12_truthOf_71 (by decide) ?_
                refine ww_iadd (v := (nI (hh + 1))) C dX12_truthOf_75 (nI_add hh 1) ?_
                refine ww_istore_n (lv' := [(3, .int (nI (hh + 1))), (4, .int 1), (6, .int (nI (cN f_afterOf ((2 * k) + a1)))), (5, .int (nI a1)), (0, .ref hm), (1, .int (nI k)), (2, .int (nI pa))]) C dX12_truthOf_76 rfl rfl rfl ?_
                refine ww_iinc (j := 3) (v := (nI (a1 + 1))) (lv' := [(5, .int (nI (a1 + 1))), (3, .int (nI (hh + 1))), (4, .int 1), (6, .int (nI (cN f_afterOf ((2 * k) + a1)))), (0, .ref hm), (1, .int (nI k)), (2, .int (nI pa))]) C dX12_truthOf_77 rfl (nI_add a1 1) rfl rfl ?_
                refine ww_goto (tgt := 8) C dX12_truthOf_80 (by decide) ?_
                exact ww_lv [0, 2, 1, 4, 5, 6] rfl (ww_sub [2, 3, 4, 5, 6, 7, 8, 9, 10, 11, 12, 13, 14, 15, 16, 17, 0, 1] rfl rfl (ih_8 (hh + 1) 1 (a1 + 1) f_manysz_47 f_realsz_48 f_factsOfz_49 f_possiblez_50 f_pairsz_51 f_pilez_52 (by omega) (by omega) (by omega) (by omega) (KP.tr hk_manys (KP.up h_56 (by omega))) (KP.tr hk_reals (KP.up h_57 (by omega))) h_53 h_54 h_55 (by omega)))
  exact ww_lv [0, 1, 2, 3, 4, 5] rfl (ww_sub [0, 1, 2, 3, 4, 5, 6, 7, 8, 9, 10, 11, 12, 13, 14, 15, 16, 17] rfl rfl (loop_8 _ pa 1 0 f_manys f_reals f_factsOf f_possible f_pairs f_pile (by omega) (by omega) (by omega) (by omega) KP.rf KP.rf hb_manys hb_reals hpg (Nat.lt_succ_self _)))
