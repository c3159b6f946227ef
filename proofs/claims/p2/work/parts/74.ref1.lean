theorem dX12_in_0 : decode cX12_in 0 = .ok (.lload_n 0, 1) := by decide +kernel
theorem dX12_in_1 : decode cX12_in 1 = .ok (.lload_n 2, 1) := by decide +kernel
theorem dX12_in_2 : decode cX12_in 2 = .ok (.lcmp, 1) := by decide +kernel
theorem dX12_in_3 : decode cX12_in 3 = .ok (.ifCond .lt 14, 3) := by decide +kernel
theorem dX12_in_17 : decode cX12_in 17 = .ok (.iconst 0, 1) := by decide +kernel
theorem dX12_in_18 : decode cX12_in 18 = .ok (.ireturn, 1) := by decide +kernel
theorem dX12_in_6 : decode cX12_in 6 = .ok (.lload_n 0, 1) := by decide +kernel
theorem dX12_in_7 : decode cX12_in 7 = .ok (.lload 4, 2) := by decide +kernel
theorem dX12_in_9 : decode cX12_in 9 = .ok (.lcmp, 1) := by decide +kernel
theorem dX12_in_10 : decode cX12_in 10 = .ok (.ifCond .gt 7, 3) := by decide +kernel
theorem dX12_in_13 : decode cX12_in 13 = .ok (.iconst 1, 1) := by decide +kernel
theorem dX12_in_14 : decode cX12_in 14 = .ok (.goto 4, 3) := by decide +kernel
set_option maxRecDepth 100000 in
set_option maxHeartbeats 4000000 in
theorem r_in (l : Launch) (E : EV) (ro : va_W) (v : Int64) (lo : Int64) (hi : Int64) (zv : Int) (zl : Int) (zh : Int) (hz_zv : v.toInt = zv) (hz_zl : lo.toInt = zl) (hz_zh : hi.toInt = zh) : CT l yX12_in (Cond.code yX12_in cX12_in 6 (some .boolean) :: TB) ({ frames := 0, cells := 0, slots := 0, locals := 0 }) E ro [.long v, .long lo, .long hi] [] (Qi E (fun (rz : Int32) uz => (rz = 1 ∧ uz = [] ∧ (zl ≤ zv) ∧ (zv ≤ zh)) ∨ (rz = 0 ∧ uz = [] ∧ (zv < zl ∨ zh < zv)))) 0 0 := by
  refine ct_of rfl rfl ?_
  intro X C hT hin hro
  show WW X 6 E 0 [(0, .long v), (2, .long lo), (4, .long hi)] [] [] 0 0
  refine ww_lload_n C dX12_in_0 0 rfl rfl ?_
  refine ww_lload_n C dX12_in_1 1 rfl rfl ?_
  refine ww_lcmp (v := lg_cmp v lo) C dX12_in_2 rfl ?_
  refine ww_if_lt (tgt := 17) C dX12_in_3 (by decide) (fun c_2 => ?_) (fun c_2 => ?_)
  · have zc_2 : v.toInt < lo.toInt := lc_lt_t rfl rfl c_2
    refine ww_iconst (v := 0) C dX12_in_17 rfl ?_
    exact ww_zret (u := []) C hT [] rfl rfl rfl rfl rfl dX12_in_18 (Or.inr ⟨rfl, rfl, (by first | assumption | omega | decide)⟩)
  · have zc_2 : v.toInt ≥ lo.toInt := lc_lt_f rfl rfl c_2
    refine ww_lload_n C dX12_in_6 0 rfl rfl ?_
    refine ww_lload C dX12_in_7 2 rfl ?_
    refine ww_lcmp (v := lg_cmp v hi) C dX12_in_9 rfl ?_
    refine ww_if_gt (tgt := 17) C dX12_in_10 (by decide) (fun c_4 => ?_) (fun c_4 => ?_)
    · have zc_4 : v.toInt > hi.toInt := lc_gt_t rfl rfl c_4
      refine ww_iconst (v := 0) C dX12_in_17 rfl ?_
      exact ww_zret (u := []) C hT [] rfl rfl rfl rfl rfl dX12_in_18 (Or.inr ⟨rfl, rfl, (by first | assumption | omega | decide)⟩)
    · have zc_4 : v.toInt ≤ hi.toInt := lc_gt_f rfl rfl c_4
      refine ww_iconst (v := 1) C dX12_in_13 rfl ?_
      refine ww_goto (tgt := 18) C dX12_in_14 (by decide) ?_
      exact ww_zret (u := []) C hT [] rfl rfl rfl rfl rfl dX12_in_18 (Or.inl ⟨rfl, rfl, (by first | assumption | omega | decide), (by first | assumption | omega | decide)⟩)
theorem dX12_copy_0 : decode cX12_copy 0 = .ok (.aload_n 0, 1) := by decide +kernel
theorem dX12_copy_1 : decode cX12_copy 1 = .ok (.getfield 7, 3) := by decide +kernel
theorem uw_X12 : ∀ w ∈ u_ws RX12 TX12 45, w ∈ TB := uw_of [1083, 1085, 1087, 1089, 1091, 1093, 1095, 1097, 1099, 1101, 1103, 1105, 1107, 1109, 1111, 1113, 1115, 1117, 1119, 1121, 1123, 1125, 1127, 1129, 1131, 1133, 1135, 1137, 1139, 1141, 1143, 1145, 1147, 1149, 1151, 1153, 1155, 1157, 1159, 1161, 1163, 1165, 1167, 1169, 1171] (by decide +kernel) (by decide +kernel)
theorem wf_X12_7 : Cond.fieldLink RX12 7 RX12 "manys" "[I" ∈ TB := tbm (tq5 (List.mem_of_getElem? (i := 78) (by decide +kernel))) (by decide +kernel)
theorem fg_X12_7 : FG RX12 7 12 0 := ⟨RX12, TX12, 45, uw_X12, wf_X12_7, rfl, by decide, rfl⟩
theorem dX12_copy_4 : decode cX12_copy 4 = .ok (.iload_n 2, 1) := by decide +kernel
theorem dX12_copy_5 : decode cX12_copy 5 = .ok (.aload_n 0, 1) := by decide +kernel
theorem dX12_copy_6 : decode cX12_copy 6 = .ok (.getfield 7, 3) := by decide +kernel
theorem dX12_copy_9 : decode cX12_copy 9 = .ok (.iload_n 1, 1) := by decide +kernel
theorem dX12_copy_10 : decode cX12_copy 10 = .ok (.iaload, 1) := by decide +kernel
theorem dX12_copy_11 : decode cX12_copy 11 = .ok (.iastore, 1) := by decide +kernel
theorem dX12_copy_12 : decode cX12_copy 12 = .ok (.aload_n 0, 1) := by decide +kernel
theorem dX12_copy_13 : decode cX12_copy 13 = .ok (.getfield 13, 3) := by decide +kernel
theorem wf_X12_13 : Cond.fieldLink RX12 13 RX12 "reals" "[I" ∈ TB := tbm (tq5 (List.mem_of_getElem? (i := 79) (by decide +kernel))) (by decide +kernel)
theorem fg_X12_13 : FG RX12 13 12 1 := ⟨RX12, TX12, 45, uw_X12, wf_X12_13, rfl, by decide, rfl⟩
theorem dX12_copy_16 : decode cX12_copy 16 = .ok (.iload_n 2, 1) := by decide +kernel
theorem dX12_copy_17 : decode cX12_copy 17 = .ok (.aload_n 0, 1) := by decide +kernel
theorem dX12_copy_18 : decode cX12_copy 18 = .ok (.getfield 13, 3) := by decide +kernel
theorem dX12_copy_21 : decode cX12_copy 21 = .ok (.iload_n 1, 1) := by decide +kernel
theorem dX12_copy_22 : decode cX12_copy 22 = .ok (.iaload, 1) := by decide +kernel
theorem dX12_copy_23 : decode cX12_copy 23 = .ok (.iastore, 1) := by decide +kernel
theorem dX12_copy_24 : decode cX12_copy 24 = .ok (.iconst 0, 1) := by decide +kernel
theorem dX12_copy_25 : decode cX12_copy 25 = .ok (.istore_n 3, 1) := by decide +kernel
theorem dX12_copy_26 : decode cX12_copy 26 = .ok (.iload_n 3, 1) := by decide +kernel
theorem dX12_copy_27 : decode cX12_copy 27 = .ok (.bipush 24, 2) := by decide +kernel
theorem dX12_copy_29 : decode cX12_copy 29 = .ok (.if_icmp .ge 31, 3) := by decide +kernel
theorem dX12_copy_60 : decode cX12_copy 60 = .ok (.iconst 0, 1) := by decide +kernel
theorem dX12_copy_61 : decode cX12_copy 61 = .ok (.istore_n 3, 1) := by decide +kernel
theorem dX12_copy_62 : decode cX12_copy 62 = .ok (.iload_n 3, 1) := by decide +kernel
theorem dX12_copy_63 : decode cX12_copy 63 = .ok (.bipush 96, 2) := by decide +kernel
theorem dX12_copy_65 : decode cX12_copy 65 = .ok (.if_icmp .ge 31, 3) := by decide +kernel
theorem dX12_copy_96 : decode cX12_copy 96 = .ok (.return_, 1) := by decide +kernel
theorem dX12_copy_68 : decode cX12_copy 68 = .ok (.aload_n 0, 1) := by decide +kernel
theorem dX12_copy_69 : decode cX12_copy 69 = .ok (.getfield 19, 3) := by decide +kernel
theorem wf_X12_19 : Cond.fieldLink RX12 19 RX12 "possible" "[I" ∈ TB := tbm (tq5 (List.mem_of_getElem? (i := 81) (by decide +kernel))) (by decide +kernel)
theorem fg_X12_19 : FG RX12 19 12 3 := ⟨RX12, TX12, 45, uw_X12, wf_X12_19, rfl, by decide, rfl⟩
theorem dX12_copy_72 : decode cX12_copy 72 = .ok (.bipush 96, 2) := by decide +kernel
theorem dX12_copy_74 : decode cX12_copy 74 = .ok (.iload_n 2, 1) := by decide +kernel
theorem dX12_copy_75 : decode cX12_copy 75 = .ok (.imul, 1) := by decide +kernel
theorem dX12_copy_76 : decode cX12_copy 76 = .ok (.iload_n 3, 1) := by decide +kernel
theorem dX12_copy_77 : decode cX12_copy 77 = .ok (.iadd, 1) := by decide +kernel
theorem dX12_copy_78 : decode cX12_copy 78 = .ok (.aload_n 0, 1) := by decide +kernel
theorem dX12_copy_79 : decode cX12_copy 79 = .ok (.getfield 19, 3) := by decide +kernel
theorem dX12_copy_82 : decode cX12_copy 82 = .ok (.bipush 96, 2) := by decide +kernel
theorem dX12_copy_84 : decode cX12_copy 84 = .ok (.iload_n 1, 1) := by decide +kernel
theorem dX12_copy_85 : decode cX12_copy 85 = .ok (.imul, 1) := by decide +kernel
theorem dX12_copy_86 : decode cX12_copy 86 = .ok (.iload_n 3, 1) := by decide +kernel
theorem dX12_copy_87 : decode cX12_copy 87 = .ok (.iadd, 1) := by decide +kernel
theorem dX12_copy_88 : decode cX12_copy 88 = .ok (.iaload, 1) := by decide +kernel
theorem dX12_copy_89 : decode cX12_copy 89 = .ok (.iastore, 1) := by decide +kernel
theorem dX12_copy_90 : decode cX12_copy 90 = .ok (.iinc 3 1, 3) := by decide +kernel
theorem dX12_copy_93 : decode cX12_copy 93 = .ok (.goto (-31), 3) := by decide +kernel
theorem dX12_copy_32 : decode cX12_copy 32 = .ok (.aload_n 0, 1) := by decide +kernel
theorem dX12_copy_33 : decode cX12_copy 33 = .ok (.getfield 16, 3) := by decide +kernel
theorem wf_X12_16 : Cond.fieldLink RX12 16 RX12 "factsOf" "[I" ∈ TB := tbm (tq5 (List.mem_of_getElem? (i := 80) (by decide +kernel))) (by decide +kernel)
theorem fg_X12_16 : FG RX12 16 12 2 := ⟨RX12, TX12, 45, uw_X12, wf_X12_16, rfl, by decide, rfl⟩
theorem dX12_copy_36 : decode cX12_copy 36 = .ok (.bipush 24, 2) := by decide +kernel
theorem dX12_copy_38 : decode cX12_copy 38 = .ok (.iload_n 2, 1) := by decide +kernel
theorem dX12_copy_39 : decode cX12_copy 39 = .ok (.imul, 1) := by decide +kernel
theorem dX12_copy_40 : decode cX12_copy 40 = .ok (.iload_n 3, 1) := by decide +kernel
theorem dX12_copy_41 : decode cX12_copy 41 = .ok (.iadd, 1) := by decide +kernel
theorem dX12_copy_42 : decode cX12_copy 42 = .ok (.aload_n 0, 1) := by decide +kernel
theorem dX12_copy_43 : decode cX12_copy 43 = .ok (.getfield 16, 3) := by decide +kernel
theorem dX12_copy_46 : decode cX12_copy 46 = .ok (.bipush 24, 2) := by decide +kernel
theorem dX12_copy_48 : decode cX12_copy 48 = .ok (.iload_n 1, 1) := by decide +kernel
theorem dX12_copy_49 : decode cX12_copy 49 = .ok (.imul, 1) := by decide +kernel
theorem dX12_copy_50 : decode cX12_copy 50 = .ok (.iload_n 3, 1) := by decide +kernel
theorem dX12_copy_51 : decode cX12_copy 51 = .ok (.iadd, 1) := by decide +kernel
theorem dX12_copy_52 : decode cX12_copy 52 = .ok (.iaload, 1) := by decide +kernel
theorem dX12_copy_53 : decode cX12_copy 53 = .ok (.iastore, 1) := by decide +kernel
theorem dX12_copy_54 : decode cX12_copy 54 = .ok (.iinc 3 1, 3) := by decide +kernel
theorem dX12_copy_57 : decode cX12_copy 57 = .ok (.goto (-31), 3) := by decide +kernel
set_option maxRecDepth 100000 in
set_option maxHeartbeats 4000000 in
theorem r_copy (l : Launch) (E : EV) (ro : va_W) (hm : Nat) (p : Nat) (q : Nat) (m_manys : Nat) (m_reals : Nat) (m_factsOf : Nat) (m_possible : Nat) (q_undos : Nat) (q_models : Nat) (m_tape : Nat) (q_taped : Nat) (q_fault : Int32) (q_wrong : Int32) (q_wrongAt : Int32) (q_spot : Int32) (q_place : Int32) (q_token : Int32) (q_value : Int32) (m_ends : Nat) (m_letters : Nat) (m_actOf : Nat) (m_whom : Nat) (m_actMany : Nat) (m_tokens : Nat) (m_afters : Nat) (m_afterOf : Nat) (q_counted : Int32) (m_pile : Nat) (m_caseMany : Nat) (m_happen : Nat) (m_hasIf : Nat) (m_becomes : Nat) (m_goneOf : Nat) (m_heard : Nat) (m_pairs : Nat) (m_heaps : Nat) (q_rounds : Int32) (q_heapMany : Int32) (m_led : Nat) (m_newAt : Nat) (m_knowing : Nat) (m_firsts : Nat) (q_people : Nat) (m_secrets : Nat) (m_tried : Nat) (m_lanes : Nat) (m_lengths : Nat) (m_cells : Nat) (f_manys : Nat → Int32) (f_reals : Nat → Int32) (f_factsOf : Nat → Int32) (f_possible : Nat → Int32) (hb_manys : NB 18 24 f_manys) (hb_reals : NB 18 23 f_reals) (hpg : PG f_manys f_reals) (hwf : WFP (pgs f_manys f_reals f_factsOf f_possible)) (hp : p < 18) (hq : q < 18) : CT l yX12_copy (Cond.code yX12_copy cX12_copy 4 none :: TB) ({ frames := 0, cells := 0, slots := 0, locals := 0 }) E ro [.ref hm, .int (nI p), .int (nI q)] [(hm, .inr (12, [.ref m_manys, .ref m_reals, .ref m_factsOf, .ref m_possible, .int (nI q_undos), .int (nI q_models), .ref m_tape, .int (nI q_taped), .int q_fault, .int q_wrong, .int q_wrongAt, .int q_spot, .int q_place, .int q_token, .int q_value, .ref m_ends, .ref m_letters, .ref m_actOf, .ref m_whom, .ref m_actMany, .ref m_tokens, .ref m_afters, .ref m_afterOf, .int q_counted, .ref m_pile, .ref m_caseMany, .ref m_happen, .ref m_hasIf, .ref m_becomes, .ref m_goneOf, .ref m_heard, .ref m_pairs, .ref m_heaps, .int q_rounds, .int q_heapMany, .ref m_led, .ref m_newAt, .ref m_knowing, .ref m_firsts, .int (nI q_people), .ref m_secrets, .ref m_tried, .ref m_lanes, .ref m_lengths, .ref m_cells])), (m_manys, .inl (E.2.1 1, 18, .inl f_manys)), (m_reals, .inl (E.2.1 1, 18, .inl f_reals)), (m_factsOf, .inl (E.2.1 1, 432, .inl f_factsOf)), (m_possible, .inl (E.2.1 1, 1728, .inl f_possible))] (Qv E (fun uz => (∃ (f_manysz : Nat → Int32) (f_realsz : Nat → Int32) (f_factsOfz : Nat → Int32) (f_possiblez : Nat → Int32), uz = [(hm, .inr (12, [.ref m_manys, .ref m_reals, .ref m_factsOf, .ref m_possible, .int (nI q_undos), .int (nI q_models), .ref m_tape, .int (nI q_taped), .int q_fault, .int q_wrong, .int q_wrongAt, .int q_spot, .int q_place, .int q_token, .int q_value, .ref m_ends, .ref m_letters, .ref m_actOf, .ref m_whom, .ref m_actMany, .ref m_tokens, .ref m_afters, .ref m_afterOf, .int q_counted, .ref m_pile, .ref m_caseMany, .ref m_happen, .ref m_hasIf, .ref m_becomes, .ref m_goneOf, .ref m_heard, .ref m_pairs, .ref m_heaps, .int q_rounds, .int q_heapMany, .ref m_led, .ref m_newAt, .ref m_knowing, .ref m_firsts, .int (nI q_people), .ref m_secrets, .ref m_tried, .ref m_lanes, .ref m_lengths, .ref m_cells])), (m_manys, .inl (E.2.1 1, 18, .inl f_manysz)), (m_reals, .inl (E.2.1 1, 18, .inl f_realsz)), (m_factsOf, .inl (E.2.1 1, 432, .inl f_factsOfz)), (m_possible, .inl (E.2.1 1, 1728, .inl f_possiblez))] ∧ (NB 18 24 f_manysz) ∧ (NB 18 23 f_realsz) ∧ (PG f_manysz f_realsz) ∧ (WFP (pgs f_manysz f_realsz f_factsOfz f_possiblez)) ∧ (upd f_manys q (nI (cN f_manys p)) = f_manysz) ∧ (upd f_reals q (nI (cN f_reals p)) = f_realsz) ∧ (CPG 24 p q 24 f_factsOf f_factsOfz) ∧ (CPG 96 p q 96 f_possible f_possiblez) ∧ (∀ j, j < 18 → pgs f_manysz f_realsz f_factsOfz f_possiblez j = if j = q then pgs f_manys f_reals f_factsOf f_possible p else pgs f_manys f_reals f_factsOf f_possible j)))) 0 0 := by
  refine ct_of rfl rfl ?_
  intro X C hT hin hro
  show WW X 4 E 0 [(0, .ref hm), (1, .int (nI p)), (2, .int (nI q))] [] [(hm, .inr (12, [.ref m_manys, .ref m_reals, .ref m_factsOf, .ref m_possible, .int (nI q_undos), .int (nI q_models), .ref m_tape, .int (nI q_taped), .int q_fault, .int q_wrong, .int q_wrongAt, .int q_spot, .int q_place, .int q_token, .int q_value, .ref m_ends, .ref m_letters, .ref m_actOf, .ref m_whom, .ref m_actMany, .ref m_tokens, .ref m_afters, .ref m_afterOf, .int q_counted, .ref m_pile, .ref m_caseMany, .ref m_happen, .ref m_hasIf, .ref m_becomes, .ref m_goneOf, .ref m_heard, .ref m_pairs, .ref m_heaps, .int q_rounds, .int q_heapMany, .ref m_led, .ref m_newAt, .ref m_knowing, .ref m_firsts, .int (nI q_people), .ref m_secrets, .ref m_tried, .ref m_lanes, .ref m_lengths, .ref m_cells])), (m_manys, .inl (E.2.1 1, 18, .inl f_manys)), (m_reals, .inl (E.2.1 1, 18, .inl f_reals)), (m_factsOf, .inl (E.2.1 1, 432, .inl f_factsOf)), (m_possible, .inl (E.2.1 1, 1728, .inl f_possible))] 0 0
  have hmn0 := (hb_manys 0 (by omega)).2
  refine ww_aload_n C dX12_copy_0 0 rfl rfl ?_
  refine ww_get C fg_X12_7 0 rfl rfl dX12_copy_1 ?_
  refine ww_iload_n C dX12_copy_4 2 rfl rfl ?_
  refine ww_aload_n C dX12_copy_5 0 rfl rfl ?_
  refine ww_get C fg_X12_7 0 rfl rfl dX12_copy_6 ?_
  refine ww_iload_n C dX12_copy_9 1 rfl rfl ?_
  have hbx_1 := (hb_manys p (by omega)).2
  refine ww_iald (v := (nI (cN f_manys p))) C 1 rfl (vp_in_nI (by omega) (by omega)) (ldn (by omega) (hb_manys p (by omega)).1) dX12_copy_10 ?_
  obtain ⟨f_2, ef_2⟩ : ∃ z : Nat → Int32, upd f_manys q (nI (cN f_manys p)) = z := ⟨_, rfl⟩
  refine ww_iast (ws' := [(hm, .inr (12, [.ref m_manys, .ref m_reals, .ref m_factsOf, .ref m_possible, .int (nI q_undos), .int (nI q_models), .ref m_tape, .int (nI q_taped), .int q_fault, .int q_wrong, .int q_wrongAt, .int q_spot, .int q_place, .int q_token, .int q_value, .ref m_ends, .ref m_letters, .ref m_actOf, .ref m_whom, .ref m_actMany, .ref m_tokens, .ref m_afters, .ref m_afterOf, .int q_counted, .ref m_pile, .ref m_caseMany, .ref m_happen, .ref m_hasIf, .ref m_becomes, .ref m_goneOf, .ref m_heard, .ref m_pairs, .ref m_heaps, .int q_rounds, .int q_heapMany, .ref m_led, .ref m_newAt, .ref m_knowing, .ref m_firsts, .int (nI q_people), .ref m_secrets, .ref m_tried, .ref m_lanes, .ref m_lengths, .ref m_cells])), (m_manys, .inl (E.2.1 1, 18, .inl f_2)), (m_reals, .inl (E.2.1 1, 18, .inl f_reals)), (m_factsOf, .inl (E.2.1 1, 432, .inl f_factsOf)), (m_possible, .inl (E.2.1 1, 1728, .inl f_possible))]) C 1 rfl (vp_in_nI (by omega) (by omega)) (ldn2 (by omega) ef_2) rfl dX12_copy_11 ?_
  refine ww_aload_n C dX12_copy_12 0 rfl rfl ?_
  refine ww_get C fg_X12_13 0 rfl rfl dX12_copy_13 ?_
  refine ww_iload_n C dX12_copy_16 2 rfl rfl ?_
  refine ww_aload_n C dX12_copy_17 0 rfl rfl ?_
  refine ww_get C fg_X12_13 0 rfl rfl dX12_copy_18 ?_
  refine ww_iload_n C dX12_copy_21 1 rfl rfl ?_
  have hbx_3 := (hb_reals p (by omega)).2
  refine ww_iald (v := (nI (cN f_reals p))) C 2 rfl (vp_in_nI (by omega) (by omega)) (ldn (by omega) (hb_reals p (by omega)).1) dX12_copy_22 ?_
  obtain ⟨f_4, ef_4⟩ : ∃ z : Nat → Int32, upd f_reals q (nI (cN f_reals p)) = z := ⟨_, rfl⟩
  refine ww_iast (ws' := [(hm, .inr (12, [.ref m_manys, .ref m_reals, .ref m_factsOf, .ref m_possible, .int (nI q_undos), .int (nI q_models), .ref m_tape, .int (nI q_taped), .int q_fault, .int q_wrong, .int q_wrongAt, .int q_spot, .int q_place, .int q_token, .int q_value, .ref m_ends, .ref m_letters, .ref m_actOf, .ref m_whom, .ref m_actMany, .ref m_tokens, .ref m_afters, .ref m_afterOf, .int q_counted, .ref m_pile, .ref m_caseMany, .ref m_happen, .ref m_hasIf, .ref m_becomes, .ref m_goneOf, .ref m_heard, .ref m_pairs, .ref m_heaps, .int q_rounds, .int q_heapMany, .ref m_led, .ref m_newAt, .ref m_knowing, .ref m_firsts, .int (nI q_people), .ref m_secrets, .ref m_tried, .ref m_lanes, .ref m_lengths, .ref m_cells])), (m_manys, .inl (E.2.1 1, 18, .inl f_2)), (m_reals, .inl (E.2.1 1, 18, .inl f_4)), (m_factsOf, .inl (E.2.1 1, 432, .inl f_factsOf)), (m_possible, .inl (E.2.1 1, 1728, .inl f_possible))]) C 2 rfl (vp_in_nI (by omega) (by omega)) (ldn2 (by omega) ef_4) rfl dX12_copy_23 ?_
  refine ww_iconst (v := 0) C dX12_copy_24 rfl ?_
  refine ww_istore_n (lv' := [(3, .int 0), (0, .ref hm), (1, .int (nI p)), (2, .int (nI q))]) C dX12_copy_25 rfl rfl rfl ?_
  have loop_26 : ∀ (fu : Nat) (i1 : Nat) (g1 : Nat → Int32), (i1 ≤ 24) → (CPG 24 p q i1 f_factsOf g1) → 24 - i1 < fu → WW X 4 E 26 [(3, .int (nI i1)), (0, .ref hm), (1, .int (nI p)), (2, .int (nI q))] [] [(hm, .inr (12, [.ref m_manys, .ref m_reals, .ref m_factsOf, .ref m_possible, .int (nI q_undos), .int (nI q_models), .ref m_tape, .int (nI q_taped), .int q_fault, .int q_wrong, .int q_wrongAt, .int q_spot, .int q_place, .int q_token, .int q_value, .ref m_ends, .ref m_letters, .ref m_actOf, .ref m_whom, .ref m_actMany, .ref m_tokens, .ref m_afters, .ref m_afterOf, .int q_counted, .ref m_pile, .ref m_caseMany, .ref m_happen, .ref m_hasIf, .ref m_becomes, .ref m_goneOf, .ref m_heard, .ref m_pairs, .ref m_heaps, .int q_rounds, .int q_heapMany, .ref m_led, .ref m_newAt, .ref m_knowing, .ref m_firsts, .int (nI q_people), .ref m_secrets, .ref m_tried, .ref m_lanes, .ref m_lengths, .ref m_cells])), (m_manys, .inl (E.2.1 1, 18, .inl f_2)), (m_reals, .inl (E.2.1 1, 18, .inl f_4)), (m_factsOf, .inl (E.2.1 1, 432, .inl g1)), (m_possible, .inl (E.2.1 1, 1728, .inl f_possible))] 0 0 := by
    intro fu
    induction fu with
    | zero => intro i1 g1 hi1 hc_g1 hmeas; exact absurd hmeas (Nat.not_lt_zero _)
    | succ fu ih_26 =>
      intro i1 g1 hi1 hc_g1 hmeas
      refine ww_iload_n C dX12_copy_26 0 rfl rfl ?_
      refine ww_bipush (v := 24) C dX12_copy_27 rfl ?_
      refine ww_icmp_ge (tgt := 60) C dX12_copy_29 (by decide) (fun c_5 => ?_) (fun c_5 => ?_)
      · have zc_5 : ((i1 : Nat) : Int) ≥ 24 := i_le rfl (nI_toInt (n := i1) (by omega)) c_5
        refine ww_iconst (v := 0) C dX12_copy_60 rfl ?_
        refine ww_istore_n (lv' := [(3, .int 0), (0, .ref hm), (1, .int (nI p)), (2, .int (nI q))]) C dX12_copy_61 rfl rfl rfl ?_
        have loop_62 : ∀ (fu : Nat) (i2 : Nat) (g2 : Nat → Int32), (i2 ≤ 96) → (CPG 96 p q i2 f_possible g2) → 96 - i2 < fu → WW X 4 E 62 [(3, .int (nI i2)), (0, .ref hm), (1, .int (nI p)), (2, .int (nI q))] [] [(hm, .inr (12, [.ref m_manys, .ref m_reals, .ref m_factsOf, .ref m_possible, .int (nI q_undos), .int (nI q_models), .ref m_tape, .int (nI q_taped), .int q_fault, .int q_wrong, .int q_wrongAt, .int q_spot, .int q_place, .int q_token, .int q_value, .ref m_ends, .ref m_letters, .ref m_actOf, .ref m_whom, .ref m_actMany, .ref m_tokens, .ref m_afters, .ref m_afterOf, .int q_counted, .ref m_pile, .ref m_caseMany, .ref m_happen, .ref m_hasIf, .ref m_becomes, .ref m_goneOf, .ref m_heard, .ref m_pairs, .ref m_heaps, .int q_rounds, .int q_heapMany, .ref m_led, .ref m_newAt, .ref m_knowing, .ref m_firsts, .int (nI q_people), .ref m_secrets, .ref m_tried, .ref m_lanes, .ref m_lengths, .ref m_cells])), (m_manys, .inl (E.2.1 1, 18, .inl f_2)), (m_reals, .inl (E.2.1 1, 18, .inl f_4)), (m_factsOf, .inl (E.2.1 1, 432, .inl g1)), (m_possible, .inl (E.2.1 1, 1728, .inl g2))] 0 0 := by
          intro fu
          induction fu with
          | zero => intro i2 g2 hi2 hc_g2 hmeas; exact absurd hmeas (Nat.not_lt_zero _)
          | succ fu ih_62 =>
            intro i2 g2 hi2 hc_g2 hmeas
            refine ww_iload_n C dX12_copy_62 0 rfl rfl ?_
            refine ww_bipush (v := 96) C dX12_copy_63 rfl ?_
            refine ww_icmp_ge (tgt := 96) C dX12_copy_65 (by decide) (fun c_6 => ?_) (fun c_6 => ?_)
            · have zc_6 : ((i2 : Nat) : Int) ≥ 96 := i_le rfl (nI_toInt (n := i2) (by omega)) c_6
              exact ww_vret (u := [(hm, .inr (12, [.ref m_manys, .ref m_reals, .ref m_factsOf, .ref m_possible, .int (nI q_undos), .int (nI q_models), .ref m_tape, .int (nI q_taped), .int q_fault, .int q_wrong, .int q_wrongAt, .int q_spot, .int q_place, .int q_token, .int q_value, .ref m_ends, .ref m_letters, .ref m_actOf, .ref m_whom, .ref m_actMany, .ref m_tokens, .ref m_afters, .ref m_afterOf, .int q_counted, .ref m_pile, .ref m_caseMany, .ref m_happen, .ref m_hasIf, .ref m_becomes, .ref m_goneOf, .ref m_heard, .ref m_pairs, .ref m_heaps, .int q_rounds, .int q_heapMany, .ref m_led, .ref m_newAt, .ref m_knowing, .ref m_firsts, .int (nI q_people), .ref m_secrets, .ref m_tried, .ref m_lanes, .ref m_lengths, .ref m_cells])), (m_manys, .inl (E.2.1 1, 18, .inl f_2)), (m_reals, .inl (E.2.1 1, 18, .inl f_4)), (m_factsOf, .inl (E.2.1 1, 432, .inl g1)), (m_possible, .inl (E.2.1 1, 1728, .inl g2))]) C hT [0, 1, 2, 3, 4] rfl rfl rfl rfl dX12_copy_96 (⟨f_2, f_4, g1, g2, rfl, (NB.put hb_manys (t := cN f_manys p) (by omega) (by decide) ef_2), (NB.put hb_reals (t := cN f_reals p) (by omega) (by decide) ef_4), (PG.put hpg ef_2 ef_4 (by omega) (by omega) (hpg p hp)), (WFP.copy hwf hp (pgs_copy hb_manys hb_reals hp ef_2 ef_4 (by have h9 : i1 = 24 := (by omega); rw [h9] at hc_g1; exact hc_g1) (by have h9 : i2 = 96 := (by omega); rw [h9] at hc_g2; exact hc_g2))), ef_2, ef_4, (by have h9 : i1 = 24 := (by omega); rw [h9] at hc_g1; exact hc_g1), (by have h9 : i2 = 96 := (by omega); rw [h9] at hc_g2; exact hc_g2), (pgs_copy hb_manys hb_reals hp ef_2 ef_4 (by have h9 : i1 = 24 := (by omega); rw [h9] at hc_g1; exact hc_g1) (by have h9 : i2 = 96 := (by omega); rw [h9] at hc_g2; exact hc_g2))⟩)
            · have zc_6 : ((i2 : Nat) : Int) < 96 := i_nle rfl (nI_toInt (n := i2) (by omega)) c_6
              refine ww_aload_n C dX12_copy_68 1 rfl rfl ?_
              refine ww_get C fg_X12_19 0 rfl rfl dX12_copy_69 ?_
              refine ww_bipush (v := 96) C dX12_copy_72 rfl ?_
              refine ww_iload_n C dX12_copy_74 3 rfl rfl ?_
              refine ww_imul (v := (nI (96 * q))) C dX12_copy_75 (pk_mul 96 q) ?_
              refine ww_iload_n C dX12_copy_76 0 rfl rfl ?_
              refine ww_iadd (v := (nI ((96 * q) + i2))) C dX12_copy_77 (nI_add (96 * q) i2) ?_
              refine ww_aload_n C dX12_copy_78 1 rfl rfl ?_
              refine ww_get C fg_X12_19 0 rfl rfl dX12_copy_79 ?_
              refine ww_bipush (v := 96) C dX12_copy_82 rfl ?_
              refine ww_iload_n C dX12_copy_84 2 rfl rfl ?_
              refine ww_imul (v := (nI (96 * p))) C dX12_copy_85 (pk_mul 96 p) ?_
              refine ww_iload_n C dX12_copy_86 0 rfl rfl ?_
              refine ww_iadd (v := (nI ((96 * p) + i2))) C dX12_copy_87 (nI_add (96 * p) i2) ?_
              obtain ⟨x_7, ex_7⟩ : ∃ z : Int32, g2 ((96 * p) + i2) = z := ⟨_, rfl⟩
              refine ww_iald (v := x_7) C 4 rfl (vp_in_nI (by omega) (by omega)) (ldn (by omega) ex_7) dX12_copy_88 ?_
              obtain ⟨f_8, ef_8⟩ : ∃ z : Nat → Int32, upd g2 ((96 * q) + i2) x_7 = z := ⟨_, rfl⟩
              refine ww_iast (ws' := [(hm, .inr (12, [.ref m_manys, .ref m_reals, .ref m_factsOf, .ref m_possible, .int (nI q_undos), .int (nI q_models), .ref m_tape, .int (nI q_taped), .int q_fault, .int q_wrong, .int q_wrongAt, .int q_spot, .int q_place, .int q_token, .int q_value, .ref m_ends, .ref m_letters, .ref m_actOf, .ref m_whom, .ref m_actMany, .ref m_tokens, .ref m_afters, .ref m_afterOf, .int q_counted, .ref m_pile, .ref m_caseMany, .ref m_happen, .ref m_hasIf, .ref m_becomes, .ref m_goneOf, .ref m_heard, .ref m_pairs, .ref m_heaps, .int q_rounds, .int q_heapMany, .ref m_led, .ref m_newAt, .ref m_knowing, .ref m_firsts, .int (nI q_people), .ref m_secrets, .ref m_tried, .ref m_lanes, .ref m_lengths, .ref m_cells])), (m_manys, .inl (E.2.1 1, 18, .inl f_2)), (m_reals, .inl (E.2.1 1, 18, .inl f_4)), (m_factsOf, .inl (E.2.1 1, 432, .inl g1)), (m_possible, .inl (E.2.1 1, 1728, .inl f_8))]) C 4 rfl (vp_in_nI (by omega) (by omega)) (ldn2 (by omega) ef_8) rfl dX12_copy_89 ?_
              refine ww_iinc (j := 0) (v := (nI (i2 + 1))) (lv' := [(3, .int (nI (i2 + 1))), (0, .ref hm), (1, .int (nI p)), (2, .int (nI q))]) C dX12_copy_90 rfl (nI_add i2 1) rfl rfl ?_
              refine ww_goto (tgt := 62) C dX12_copy_93 (by decide) ?_
              exact ww_lv [0, 1, 2, 3] rfl (ww_sub [0, 1, 2, 3, 4] rfl rfl (ih_62 (i2 + 1) f_8 (by omega) (CPG.ext hc_g2 (by omega) (by assumption) ef_8) (by omega)))
        exact ww_lv [0, 1, 2, 3] rfl (ww_sub [0, 1, 2, 3, 4] rfl rfl (loop_62 _ 0 f_possible (by omega) CPG.nil (Nat.lt_succ_self _)))
      · have zc_5 : ((i1 : Nat) : Int) < 24 := i_nle rfl (nI_toInt (n := i1) (by omega)) c_5
        refine ww_aload_n C dX12_copy_32 1 rfl rfl ?_
        refine ww_get C fg_X12_16 0 rfl rfl dX12_copy_33 ?_
        refine ww_bipush (v := 24) C dX12_copy_36 rfl ?_
        refine ww_iload_n C dX12_copy_38 3 rfl rfl ?_
        refine ww_imul (v := (nI (24 * q))) C dX12_copy_39 (pk_mul 24 q) ?_
        refine ww_iload_n C dX12_copy_40 0 rfl rfl ?_
        refine ww_iadd (v := (nI ((24 * q) + i1))) C dX12_copy_41 (nI_add (24 * q) i1) ?_
        refine ww_aload_n C dX12_copy_42 1 rfl rfl ?_
        refine ww_get C fg_X12_16 0 rfl rfl dX12_copy_43 ?_
        refine ww_bipush (v := 24) C dX12_copy_46 rfl ?_
        refine ww_iload_n C dX12_copy_48 2 rfl rfl ?_
        refine ww_imul (v := (nI (24 * p))) C dX12_copy_49 (pk_mul 24 p) ?_
        refine ww_iload_n C dX12_copy_50 0 rfl rfl ?_
        refine ww_iadd (v := (nI ((24 * p) + i1))) C dX12_copy_51 (nI_add (24 * p) i1) ?_
        obtain ⟨x_9, ex_9⟩ : ∃ z : Int32, g1 ((24 * p) + i1) = z := ⟨_, rfl⟩
        refine ww_iald (v := x_9) C 3 rfl (vp_in_nI (by omega) (by omega)) (ldn (by omega) ex_9) dX12_copy_52 ?_
        obtain ⟨f_10, ef_10⟩ : ∃ z : Nat → Int32, upd g1 ((24 * q) + i1) x_9 = z := ⟨_, rfl⟩
        refine ww_iast (ws' := [(hm, .inr (12, [.ref m_manys, .ref m_reals, .ref m_factsOf, .ref m_possible, .int (nI q_undos), .int (nI q_models), .ref m_tape, .int (nI q_taped), .int q_fault, .int q_wrong, .int q_wrongAt, .int q_spot, .int q_place, .int q_token, .int q_value, .ref m_ends, .ref m_letters, .ref m_actOf, .ref m_whom, .ref m_actMany, .ref m_tokens, .ref m_afters, .ref m_afterOf, .int q_counted, .ref m_pile, .ref m_caseMany, .ref m_happen, .ref m_hasIf, .ref m_becomes, .ref m_goneOf, .ref m_heard, .ref m_pairs, .ref m_heaps, .int q_rounds, .int q_heapMany, .ref m_led, .ref m_newAt, .ref m_knowing, .ref m_firsts, .int (nI q_people), .ref m_secrets, .ref m_tried, .ref m_lanes, .ref m_lengths, .ref m_cells])), (m_manys, .inl (E.2.1 1, 18, .inl f_2)), (m_reals, .inl (E.2.1 1, 18, .inl f_4)), (m_factsOf, .inl (E.2.1 1, 432, .inl f_10)), (m_possible, .inl (E.2.1 1, 1728, .inl f_possible))]) C 3 rfl (vp_in_nI (by omega) (by omega)) (ldn2 (by omega) ef_10) rfl dX12_copy_53 ?_
        refine ww_iinc (j := 0) (v := (nI (i1 + 1))) (lv' := [(3, .int (nI (i1 + 1))), (0, .ref hm), (1, .int (nI p)), (2, .int (nI q))]) C dX12_copy_54 rfl (nI_add i1 1) rfl rfl ?_
        refine ww_goto (tgt := 26) C dX12_copy_57 (by decide) ?_
        exact ww_lv [0, 1, 2, 3] rfl (ww_sub [0, 1, 2, 3, 4] rfl rfl (ih_26 (i1 + 1) f_10 (by omega) (CPG.ext hc_g1 (by omega) (by assumption) ef_10) (by omega)))
  exact ww_lv [0, 1, 2, 3] rfl (ww_sub [0, 1, 2, 3, 4] rfl rfl (loop_26 _ 0 f_factsOf (by omega) CPG.nil (Nat.lt_succ_self _)))
theorem dX12_seen_0 : decode cX12_seen 0 = .ok (.aload_n 0, 1) := by decide +kernel
theorem dX12_seen_1 : decode cX12_seen 1 = .ok (.getfield 19, 3) := by decide +kernel
theorem dX12_seen_4 : decode cX12_seen 4 = .ok (.bipush 96, 2) := by decide +kernel
theorem dX12_seen_6 : decode cX12_seen 6 = .ok (.iload_n 1, 1) := by decide +kernel
theorem dX12_seen_7 : decode cX12_seen 7 = .ok (.imul, 1) := by decide +kernel
theorem dX12_seen_8 : decode cX12_seen 8 = .ok (.bipush 24, 2) := by decide +kernel
theorem dX12_seen_10 : decode cX12_seen 10 = .ok (.iload_n 2, 1) := by decide +kernel
theorem dX12_seen_11 : decode cX12_seen 11 = .ok (.imul, 1) := by decide +kernel
theorem dX12_seen_12 : decode cX12_seen 12 = .ok (.iadd, 1) := by decide +kernel
theorem dX12_seen_13 : decode cX12_seen 13 = .ok (.iload_n 3, 1) := by decide +kernel
theorem dX12_seen_14 : decode cX12_seen 14 = .ok (.iadd, 1) := by decide +kernel
theorem dX12_seen_15 : decode cX12_seen 15 = .ok (.iaload, 1) := by decide +kernel
theorem dX12_seen_16 : decode cX12_seen 16 = .ok (.ireturn, 1) := by decide +kernel
set_option maxRecDepth 100000 in
set_option maxHeartbeats 4000000 in
theorem r_seen (l : Launch) (E : EV) (ro : va_W) (hm : Nat) (pg : Nat) (k : Nat) (w : Nat) (m_manys : Nat) (m_reals : Nat) (m_factsOf : Nat) (m_possible : Nat) (q_undos : Nat) (q_models : Nat) (m_tape : Nat) (q_taped : Nat) (q_fault : Int32) (q_wrong : Int32) (q_wrongAt : Int32) (q_spot : Int32) (q_place : Int32) (q_token : Int32) (q_value : Int32) (m_ends : Nat) (m_letters : Nat) (m_actOf : Nat) (m_whom : Nat) (m_actMany : Nat) (m_tokens : Nat) (m_afters : Nat) (m_afterOf : Nat) (q_counted : Int32) (m_pile : Nat) (m_caseMany : Nat) (m_happen : Nat) (m_hasIf : Nat) (m_becomes : Nat) (m_goneOf : Nat) (m_heard : Nat) (m_pairs : Nat) (m_heaps : Nat) (q_rounds : Int32) (q_heapMany : Int32) (m_led : Nat) (m_newAt : Nat) (m_knowing : Nat) (m_firsts : Nat) (q_people : Nat) (m_secrets : Nat) (m_tried : Nat) (m_lanes : Nat) (m_lengths : Nat) (m_cells : Nat) (f_possible : Nat → Int32) (hpg : pg < 18) (hk : k < 4) (hw : w < 24) : CT l yX12_seen (Cond.code yX12_seen cX12_seen 4 (some .int) :: TB) ({ frames := 0, cells := 0, slots := 0, locals := 0 }) E ro [.ref hm, .int (nI pg), .int (nI k), .int (nI w)] [(hm, .inr (12, [.ref m_manys, .ref m_reals, .ref m_factsOf, .ref m_possible, .int (nI q_undos), .int (nI q_models), .ref m_tape, .int (nI q_taped), .int q_fault, .int q_wrong, .int q_wrongAt, .int q_spot, .int q_place, .int q_token, .int q_value, .ref m_ends, .ref m_letters, .ref m_actOf, .ref m_whom, .ref m_actMany, .ref m_tokens, .ref m_afters, .ref m_afterOf, .int q_counted, .ref m_pile, .ref m_caseMany, .ref m_happen, .ref m_hasIf, .ref m_becomes, .ref m_goneOf, .ref m_heard, .ref m_pairs, .ref m_heaps, .int q_rounds, .int q_heapMany, .ref m_led, .ref m_newAt, .ref m_knowing, .ref m_firsts, .int (nI q_people), .ref m_secrets, .ref m_tried, .ref m_lanes, .ref m_lengths, .ref m_cells])), (m_possible, .inl (E.2.1 1, 1728, .inl f_possible))] (Qi E (fun (rz : Int32) uz => (rz = (f_possible (96 * pg + 24 * k + w)) ∧ uz = [(hm, .inr (12, [.ref m_manys, .ref m_reals, .ref m_factsOf, .ref m_possible, .int (nI q_undos), .int (nI q_models), .ref m_tape, .int (nI q_taped), .int q_fault, .int q_wrong, .int q_wrongAt, .int q_spot, .int q_place, .int q_token, .int q_value, .ref m_ends, .ref m_letters, .ref m_actOf, .ref m_whom, .ref m_actMany, .ref m_tokens, .ref m_afters, .ref m_afterOf, .int q_counted, .ref m_pile, .ref m_caseMany, .ref m_happen, .ref m_hasIf, .ref m_becomes, .ref m_goneOf, .ref m_heard, .ref m_pairs, .ref m_heaps, .int q_rounds, .int q_heapMany, .ref m_led, .ref m_newAt, .ref m_knowing, .ref m_firsts, .int (nI q_people), .ref m_secrets, .ref m_tried, .ref m_lanes, .ref m_lengths, .ref m_cells])), (m_possible, .inl (E.2.1 1, 1728, .inl f_possible))]))) 0 0 := by
  refine ct_of rfl rfl ?_
  intro X C hT hin hro
  show WW X 4 E 0 [(0, .ref hm), (1, .int (nI pg)), (2, .int (nI k)), (3, .int (nI w))] [] [(hm, .inr (12, [.ref m_manys, .ref m_reals, .ref m_factsOf, .ref m_possible, .int (nI q_undos), .int (nI q_models), .ref m_tape, .int (nI q_taped), .int q_fault, .int q_wrong, .int q_wrongAt, .int q_spot, .int q_place, .int q_token, .int q_value, .ref m_ends, .ref m_letters, .ref m_actOf, .ref m_whom, .ref m_actMany, .ref m_tokens, .ref m_afters, .ref m_afterOf, .int q_counted, .ref m_pile, .ref m_caseMany, .ref m_happen, .ref m_hasIf, .ref m_becomes, .ref m_goneOf, .ref m_heard, .ref m_pairs, .ref m_heaps, .int q_rounds, .int q_heapMany, .ref m_led, .ref m_newAt, .ref m_knowing, .ref m_firsts, .int (nI q_people), .ref m_secrets, .ref m_tried, .ref m_lanes, .ref m_lengths, .ref m_cells])), (m_possible, .inl (E.2.1 1, 1728, .inl f_possible))] 0 0
  refine ww_aload_n C dX12_seen_0 0 rfl rfl ?_
  refine ww_get C fg_X12_19 0 rfl rfl dX12_seen_1 ?_
  refine ww_bipush (v := 96) C dX12_seen_4 rfl ?_
  refine ww_iload_n C dX12_seen_6 1 rfl rfl ?_
  refine ww_imul (v := (nI (96 * pg))) C dX12_seen_7 (pk_mul 96 pg) ?_
  refine ww_bipush (v := 24) C dX12_seen_8 rfl ?_
  refine ww_iload_n C dX12_seen_10 2 rfl rfl ?_
  refine ww_imul (v := (nI (24 * k))) C dX12_seen_11 (pk_mul 24 k) ?_
  refine ww_iadd (v := (nI ((96 * pg) + (24 * k)))) C dX12_seen_12 (nI_add (96 * pg) (24 * k)) ?_
  refine ww_iload_n C dX12_seen_13 3 rfl rfl ?_
  refine ww_iadd (v := (nI (((96 * pg) + (24 * k)) + w))) C dX12_seen_14 (nI_add ((96 * pg) + (24 * k)) w) ?_
  obtain ⟨x_1, ex_1⟩ : ∃ z : Int32, f_possible (((96 * pg) + (24 * k)) + w) = z := ⟨_, rfl⟩
  refine ww_iald (v := x_1) C 1 rfl (vp_in_nI (by omega) (by omega)) (ldn (by omega) ex_1) dX12_seen_15 ?_
  exact ww_iret (u := [(hm, .inr (12, [.ref m_manys, .ref m_reals, .ref m_factsOf, .ref m_possible, .int (nI q_undos), .int (nI q_models), .ref m_tape, .int (nI q_taped), .int q_fault, .int q_wrong, .int q_wrongAt, .int q_spot, .int q_place, .int q_token, .int q_value, .ref m_ends, .ref m_letters, .ref m_actOf, .ref m_whom, .ref m_actMany, .ref m_tokens, .ref m_afters, .ref m_afterOf, .int q_counted, .ref m_pile, .ref m_caseMany, .ref m_happen, .ref m_hasIf, .ref m_becomes, .ref m_goneOf, .ref m_heard, .ref m_pairs, .ref m_heaps, .int q_rounds, .int q_heapMany, .ref m_led, .ref m_newAt, .ref m_knowing, .ref m_firsts, .int (nI q_people), .ref m_secrets, .ref m_tried, .ref m_lanes, .ref m_lengths, .ref m_cells])), (m_possible, .inl (E.2.1 1, 1728, .inl f_possible))]) C hT [0, 1] rfl rfl rfl rfl dX12_seen_16 (⟨(by subst_vars; rfl), rfl⟩)
theorem dX12_acts_0 : decode cX12_acts 0 = .ok (.aload_n 0, 1) := by decide +kernel
theorem dX12_acts_1 : decode cX12_acts 1 = .ok (.getfield 105, 3) := by decide +kernel
theorem wf_X12_105 : Cond.fieldLink RX12 105 RX12 "undos" "I" ∈ TB := tbm (tq5 (List.mem_of_getElem? (i := 82) (by decide +kernel))) (by decide +kernel)
theorem fg_X12_105 : FG RX12 105 12 4 := ⟨RX12, TX12, 45, uw_X12, wf_X12_105, rfl, by decide, rfl⟩
theorem dX12_acts_4 : decode cX12_acts 4 = .ok (.bipush 8, 2) := by decide +kernel
theorem dX12_acts_6 : decode cX12_acts 6 = .ok (.if_icmp .ne 41, 3) := by decide +kernel
theorem dX12_acts_47 : decode cX12_acts 47 = .ok (.aload_n 0, 1) := by decide +kernel
theorem dX12_acts_48 : decode cX12_acts 48 = .ok (.iconst 0, 1) := by decide +kernel
theorem dX12_acts_49 : decode cX12_acts 49 = .ok (.bipush 10, 2) := by decide +kernel
theorem dX12_acts_51 : decode cX12_acts 51 = .ok (.aload_n 0, 1) := by decide +kernel
theorem dX12_acts_52 : decode cX12_acts 52 = .ok (.getfield 105, 3) := by decide +kernel
theorem dX12_acts_55 : decode cX12_acts 55 = .ok (.iadd, 1) := by decide +kernel
theorem dX12_acts_56 : decode cX12_acts 56 = .ok (.invokevirtual 109, 3) := by decide +kernel
theorem wl_X12_109 : Cond.methodLink RX12 109 yX12_copy ∈ TB := tbm (tq5 (List.mem_of_getElem? (i := 227) (by decide +kernel))) (by decide +kernel)
theorem wc_X12_copy : Cond.code yX12_copy cX12_copy 4 none ∈ TB := tbm (tq5 (List.mem_of_getElem? (i := 230) (rfl))) (by decide +kernel)
theorem wn_X12 : Cond.initialized RX12 ∈ TB := tbm (tq1 (List.mem_of_getElem? (i := 12) (by decide +kernel))) (by decide +kernel)
theorem wi_X12_copy : Cond.instanceMethod yX12_copy ∈ TB := tbm (tq5 (List.mem_of_getElem? (i := 229) (by decide +kernel))) (by decide +kernel)
theorem ws_X12_copy : Cond.selects RX12 yX12_copy yX12_copy ∈ TB := tbm (tq0 (List.mem_of_getElem? (i := 37) (by decide +kernel))) (by decide +kernel)
theorem mi_X12_copy : MI yX12_copy cX12_copy 4 none 2 := ⟨wc_X12_copy, wn_X12, ⟨by decide +kernel, by decide +kernel, by decide +kernel⟩, wi_X12_copy, ws_X12_copy⟩
theorem dX12_acts_59 : decode cX12_acts 59 = .ok (.aload_n 0, 1) := by decide +kernel
theorem dX12_acts_60 : decode cX12_acts 60 = .ok (.dup, 1) := by decide +kernel
theorem dX12_acts_61 : decode cX12_acts 61 = .ok (.getfield 105, 3) := by decide +kernel
theorem dX12_acts_64 : decode cX12_acts 64 = .ok (.iconst 1, 1) := by decide +kernel
theorem dX12_acts_65 : decode cX12_acts 65 = .ok (.iadd, 1) := by decide +kernel
theorem dX12_acts_66 : decode cX12_acts 66 = .ok (.putfield 105, 3) := by decide +kernel
theorem fp_X12_105 : FP RX12 105 12 4 .int false := ⟨RX12, TX12, 45, tyX12, uw_X12, wf_X12_105, rfl, by decide, rfl, tyX12_ok, nmX12, rfl, by decide +kernel⟩
theorem dX12_acts_69 : decode cX12_acts 69 = .ok (.return_, 1) := by decide +kernel
theorem dX12_acts_9 : decode cX12_acts 9 = .ok (.iconst 1, 1) := by decide +kernel
theorem dX12_acts_10 : decode cX12_acts 10 = .ok (.istore_n 1, 1) := by decide +kernel
theorem dX12_acts_11 : decode cX12_acts 11 = .ok (.iload_n 1, 1) := by decide +kernel
theorem dX12_acts_12 : decode cX12_acts 12 = .ok (.bipush 8, 2) := by decide +kernel
theorem dX12_acts_14 : decode cX12_acts 14 = .ok (.if_icmp .ge 23, 3) := by decide +kernel
theorem dX12_acts_37 : decode cX12_acts 37 = .ok (.aload_n 0, 1) := by decide +kernel
theorem dX12_acts_38 : decode cX12_acts 38 = .ok (.dup, 1) := by decide +kernel
theorem dX12_acts_39 : decode cX12_acts 39 = .ok (.getfield 105, 3) := by decide +kernel
theorem dX12_acts_42 : decode cX12_acts 42 = .ok (.iconst 1, 1) := by decide +kernel
theorem dX12_acts_43 : decode cX12_acts 43 = .ok (.isub, 1) := by decide +kernel
theorem dX12_acts_44 : decode cX12_acts 44 = .ok (.putfield 105, 3) := by decide +kernel
theorem dX12_acts_17 : decode cX12_acts 17 = .ok (.aload_n 0, 1) := by decide +kernel
theorem dX12_acts_18 : decode cX12_acts 18 = .ok (.bipush 10, 2) := by decide +kernel
theorem dX12_acts_20 : decode cX12_acts 20 = .ok (.iload_n 1, 1) := by decide +kernel
theorem dX12_acts_21 : decode cX12_acts 21 = .ok (.iadd, 1) := by decide +kernel
theorem dX12_acts_22 : decode cX12_acts 22 = .ok (.bipush 10, 2) := by decide +kernel
theorem dX12_acts_24 : decode cX12_acts 24 = .ok (.iload_n 1, 1) := by decide +kernel
theorem dX12_acts_25 : decode cX12_acts 25 = .ok (.iadd, 1) := by decide +kernel
theorem dX12_acts_26 : decode cX12_acts 26 = .ok (.iconst 1, 1) := by decide +kernel
theorem dX12_acts_27 : decode cX12_acts 27 = .ok (.isub, 1) := by decide +kernel
theorem dX12_acts_28 : decode cX12_acts 28 = .ok (.invokevirtual 109, 3) := by decide +kernel
theorem dX12_acts_31 : decode cX12_acts 31 = .ok (.iinc 1 1, 3) := by decide +kernel
theorem dX12_acts_34 : decode cX12_acts 34 = .ok (.goto (-23), 3) := by decide +kernel
set_option maxRecDepth 100000 in
set_option maxHeartbeats 4000000 in
theorem r_acts (l : Launch) (E : EV) (ro : va_W) (hm : Nat) (m_manys : Nat) (m_reals : Nat) (m_factsOf : Nat) (m_possible : Nat) (q_undos : Nat) (q_models : Nat) (m_tape : Nat) (q_taped : Nat) (q_fault : Int32) (q_wrong : Int32) (q_wrongAt : Int32) (q_spot : Int32) (q_place : Int32) (q_token : Int32) (q_value : Int32) (m_ends : Nat) (m_letters : Nat) (m_actOf : Nat) (m_whom : Nat) (m_actMany : Nat) (m_tokens : Nat) (m_afters : Nat) (m_afterOf : Nat) (q_counted : Int32) (m_pile : Nat) (m_caseMany : Nat) (m_happen : Nat) (m_hasIf : Nat) (m_becomes : Nat) (m_goneOf : Nat) (m_heard : Nat) (m_pairs : Nat) (m_heaps : Nat) (q_rounds : Int32) (q_heapMany : Int32) (m_led : Nat) (m_newAt : Nat) (m_knowing : Nat) (m_firsts : Nat) (q_people : Nat) (m_secrets : Nat) (m_tried : Nat) (m_lanes : Nat) (m_lengths : Nat) (m_cells : Nat) (f_manys : Nat → Int32) (f_reals : Nat → Int32) (f_factsOf : Nat → Int32) (f_possible : Nat → Int32) (hb_manys : NB 18 24 f_manys) (hb_reals : NB 18 23 f_reals) (hpg : PG f_manys f_reals) (hwf : WFP (pgs f_manys f_reals f_factsOf f_possible)) (hq_undos : q_undos ≤ 8) : CT l yX12_acts (Cond.code yX12_acts cX12_acts 2 none :: TB) ({ frames := 1, cells := 0, slots := 0, locals := 23 }) E ro [.ref hm] [(hm, .inr (12, [.ref m_manys, .ref m_reals, .ref m_factsOf, .ref m_possible, .int (nI q_undos), .int (nI q_models), .ref m_tape, .int (nI q_taped), .int q_fault, .int q_wrong, .int q_wrongAt, .int q_spot, .int q_place, .int q_token, .int q_value, .ref m_ends, .ref m_letters, .ref m_actOf, .ref m_whom, .ref m_actMany, .ref m_tokens, .ref m_afters, .ref m_afterOf, .int q_counted, .ref m_pile, .ref m_caseMany, .ref m_happen, .ref m_hasIf, .ref m_becomes, .ref m_goneOf, .ref m_heard, .ref m_pairs, .ref m_heaps, .int q_rounds, .int q_heapMany, .ref m_led, .ref m_newAt, .ref m_knowing, .ref m_firsts, .int (nI q_people), .ref m_secrets, .ref m_tried, .ref m_lanes, .ref m_lengths, .ref m_cells])), (m_manys, .inl (E.2.1 1, 18, .inl f_manys)), (m_reals, .inl (E.2.1 1, 18, .inl f_reals)), (m_factsOf, .inl (E.2.1 1, 432, .inl f_factsOf)), (m_possible, .inl (E.2.1 1, 1728, .inl f_possible))] (Qv E (fun uz => (∃ (uz_ : Nat) (f_manysz : Nat → Int32) (f_realsz : Nat → Int32) (f_factsOfz : Nat → Int32) (f_possiblez : Nat → Int32), uz = [(hm, .inr (12, [.ref m_manys, .ref m_reals, .ref m_factsOf, .ref m_possible, .int (nI uz_), .int (nI q_models), .ref m_tape, .int (nI q_taped), .int q_fault, .int q_wrong, .int q_wrongAt, .int q_spot, .int q_place, .int q_token, .int q_value, .ref m_ends, .ref m_letters, .ref m_actOf, .ref m_whom, .ref m_actMany, .ref m_tokens, .ref m_afters, .ref m_afterOf, .int q_counted, .ref m_pile, .ref m_caseMany, .ref m_happen, .ref m_hasIf, .ref m_becomes, .ref m_goneOf, .ref m_heard, .ref m_pairs, .ref m_heaps, .int q_rounds, .int q_heapMany, .ref m_led, .ref m_newAt, .ref m_knowing, .ref m_firsts, .int (nI q_people), .ref m_secrets, .ref m_tried, .ref m_lanes, .ref m_lengths, .ref m_cells])), (m_manys, .inl (E.2.1 1, 18, .inl f_manysz)), (m_reals, .inl (E.2.1 1, 18, .inl f_realsz)), (m_factsOf, .inl (E.2.1 1, 432, .inl f_factsOfz)), (m_possible, .inl (E.2.1 1, 1728, .inl f_possiblez))] ∧ (NB 18 24 f_manysz) ∧ (NB 18 23 f_realsz) ∧ (PG f_manysz f_realsz) ∧ (WFP (pgs f_manysz f_realsz f_factsOfz f_possiblez)) ∧ (uz_ = min (q_undos + 1) 8) ∧ (KP 10 f_manys f_manysz) ∧ (KP 10 f_reals f_realsz) ∧ (KP 240 f_factsOf f_factsOfz) ∧ (KP 960 f_possible f_possiblez) ∧ (REMS q_undos uz_ (pgs f_manys f_reals f_factsOf f_possible) (pgs f_manysz f_realsz f_factsOfz f_possiblez))))) 0 0 := by
  refine ct_of rfl rfl ?_
  intro X C hT hin hro
  show WW X 2 E 0 [(0, .ref hm)] [] [(hm, .inr (12, [.ref m_manys, .ref m_reals, .ref m_factsOf, .ref m_possible, .int (nI q_undos), .int (nI q_models), .ref m_tape, .int (nI q_taped), .int q_fault, .int q_wrong, .int q_wrongAt, .int q_spot, .int q_place, .int q_token, .int q_value, .ref m_ends, .ref m_letters, .ref m_actOf, .ref m_whom, .ref m_actMany, .ref m_tokens, .ref m_afters, .ref m_afterOf, .int q_counted, .ref m_pile, .ref m_caseMany, .ref m_happen, .ref m_hasIf, .ref m_becomes, .ref m_goneOf, .ref m_heard, .ref m_pairs, .ref m_heaps, .int q_rounds, .int q_heapMany, .ref m_led, .ref m_newAt, .ref m_knowing, .ref m_firsts, .int (nI q_people), .ref m_secrets, .ref m_tried, .ref m_lanes, .ref m_lengths, .ref m_cells])), (m_manys, .inl (E.2.1 1, 18, .inl f_manys)), (m_reals, .inl (E.2.1 1, 18, .inl f_reals)), (m_factsOf, .inl (E.2.1 1, 432, .inl f_factsOf)), (m_possible, .inl (E.2.1 1, 1728, .inl f_possible))] 0 0
  have hmn0 := (hb_manys 0 (by omega)).2
  refine ww_aload_n C dX12_acts_0 0 rfl rfl ?_
  refine ww_get C fg_X12_105 0 rfl rfl dX12_acts_1 ?_
  refine ww_bipush (v := 8) C dX12_acts_4 rfl ?_
  refine ww_icmp_ne (tgt := 47) C dX12_acts_6 (by decide) (fun c_1 => ?_) (fun c_1 => ?_)
  · have zc_1 : ((q_undos : Nat) : Int) ≠ 8 := i_ne (nI_toInt (n := q_undos) (by omega)) rfl c_1
    refine ww_aload_n C dX12_acts_47 0 rfl rfl ?_
    refine ww_iconst (v := 0) C dX12_acts_48 rfl ?_
    refine ww_bipush (v := 10) C dX12_acts_49 rfl ?_
    refine ww_aload_n C dX12_acts_51 0 rfl rfl ?_
    refine ww_get C fg_X12_105 0 rfl rfl dX12_acts_52 ?_
    refine ww_iadd (v := (nI (10 + q_undos))) C dX12_acts_55 (nI_add 10 q_undos) ?_
    refine ww_cv (wr := []) (k' := 0) (n' := 0) C (run_V (As := [.int 0, .int (nI (10 + q_undos))]) (rest := []) C (r_copy X.2.1 E ro hm 0 (10 + q_undos) m_manys m_reals m_factsOf m_possible q_undos q_models m_tape q_taped q_fault q_wrong q_wrongAt q_spot q_place q_token q_value m_ends m_letters m_actOf m_whom m_actMany m_tokens m_afters m_afterOf q_counted m_pile m_caseMany m_happen m_hasIf m_becomes m_goneOf m_heard m_pairs m_heaps q_rounds q_heapMany m_led m_newAt m_knowing m_firsts q_people m_secrets m_tried m_lanes m_lengths m_cells f_manys f_reals f_factsOf f_possible hb_manys hb_reals hpg hwf (by omega) (by omega)) mi_X12_copy wl_X12_109 rfl 0 12 rfl rfl rfl rfl rfl dX12_acts_56) (roK hro) [0, 1, 2, 3, 4] [] rfl rfl rfl rfl (fun uz hw => ?_)
    refine ex4 hw ?_
    clear hw
    intro f_manysz_3 f_realsz_4 f_factsOfz_5 f_possiblez_6 hw
    refine an8 hw ?_
    clear hw
    intro he_16 h_7 h_8 h_9 h_10 h_11 h_12 h_13 hw
    refine an1 hw ?_
    clear hw
    intro h_14 hw
    have h_15 := hw
    clear hw
    subst he_16
    refine ww_eq (ws' := [(hm, .inr (12, [.ref m_manys, .ref m_reals, .ref m_factsOf, .ref m_possible, .int (nI q_undos), .int (nI q_models), .ref m_tape, .int (nI q_taped), .int q_fault, .int q_wrong, .int q_wrongAt, .int q_spot, .int q_place, .int q_token, .int q_value, .ref m_ends, .ref m_letters, .ref m_actOf, .ref m_whom, .ref m_actMany, .ref m_tokens, .ref m_afters, .ref m_afterOf, .int q_counted, .ref m_pile, .ref m_caseMany, .ref m_happen, .ref m_hasIf, .ref m_becomes, .ref m_goneOf, .ref m_heard, .ref m_pairs, .ref m_heaps, .int q_rounds, .int q_heapMany, .ref m_led, .ref m_newAt, .ref m_knowing, .ref m_firsts, .int (nI q_people), .ref m_secrets, .ref m_tried, .ref m_lanes, .ref m_lengths, .ref m_cells])), (m_manys, .inl (E.2.1 1, 18, .inl f_manysz_3)), (m_reals, .inl (E.2.1 1, 18, .inl f_realsz_4)), (m_factsOf, .inl (E.2.1 1, 432, .inl f_factsOfz_5)), (m_possible, .inl (E.2.1 1, 1728, .inl f_possiblez_6))]) ?_ rfl rfl rfl
    refine ww_aload_n C dX12_acts_59 0 rfl rfl ?_
    refine ww_dup C dX12_acts_60 rfl ?_
    refine ww_get C fg_X12_105 0 rfl rfl dX12_acts_61 ?_
    refine ww_iconst (v := 1) C dX12_acts_64 rfl ?_
    refine ww_iadd (v := (nI (q_undos + 1))) C dX12_acts_65 (nI_add q_undos 1) ?_
    refine ww_put (ws' := [(hm, .inr (12, [.ref m_manys, .ref m_reals, .ref m_factsOf, .ref m_possible, .int (nI (q_undos + 1)), .int (nI q_models), .ref m_tape, .int (nI q_taped), .int q_fault, .int q_wrong, .int q_wrongAt, .int q_spot, .int q_place, .int q_token, .int q_value, .ref m_ends, .ref m_letters, .ref m_actOf, .ref m_whom, .ref m_actMany, .ref m_tokens, .ref m_afters, .ref m_afterOf, .int q_counted, .ref m_pile, .ref m_caseMany, .ref m_happen, .ref m_hasIf, .ref m_becomes, .ref m_goneOf, .ref m_heard, .ref m_pairs, .ref m_heaps, .int q_rounds, .int q_heapMany, .ref m_led, .ref m_newAt, .ref m_knowing, .ref m_firsts, .int (nI q_people), .ref m_secrets, .ref m_tried, .ref m_lanes, .ref m_lengths, .ref m_cells])), (m_manys, .inl (E.2.1 1, 18, .inl f_manysz_3)), (m_reals, .inl (E.2.1 1, 18, .inl f_realsz_4)), (m_factsOf, .inl (E.2.1 1, 432, .inl f_factsOfz_5)), (m_possible, .inl (E.2.1 1, 1728, .inl f_possiblez_6))]) C fp_X12_105 0 rfl rfl rfl rfl rfl dX12_acts_66 ?_
    exact ww_vret (u := [(hm, .inr (12, [.ref m_manys, .ref m_reals, .ref m_factsOf, .ref m_possible, .int (nI (q_undos + 1)), .int (nI q_models), .ref m_tape, .int (nI q_taped), .int q_fault, .int q_wrong, .int q_wrongAt, .int q_spot, .int q_place, .int q_token, .int q_value, .ref m_ends, .ref m_letters, .ref m_actOf, .ref m_whom, .ref m_actMany, .ref m_tokens, .ref m_afters, .ref m_afterOf, .int q_counted, .ref m_pile, .ref m_caseMany, .ref m_happen, .ref m_hasIf, .ref m_becomes, .ref m_goneOf, .ref m_heard, .ref m_pairs, .ref m_heaps, .int q_rounds, .int q_heapMany, .ref m_led, .ref m_newAt, .ref m_knowing, .ref m_firsts, .int (nI q_people), .ref m_secrets, .ref m_tried, .ref m_lanes, .ref m_lengths, .ref m_cells])), (m_manys, .inl (E.2.1 1, 18, .inl f_manysz_3)), (m_reals, .inl (E.2.1 1, 18, .inl f_realsz_4)), (m_factsOf, .inl (E.2.1 1, 432, .inl f_factsOfz_5)), (m_possible, .inl (E.2.1 1, 1728, .inl f_possiblez_6))]) C hT [0, 1, 2, 3, 4] rfl rfl rfl rfl dX12_acts_69 (⟨(q_undos + 1), f_manysz_3, f_realsz_4, f_factsOfz_5, f_possiblez_6, rfl, h_7, h_8, h_9, h_10, (by omega), (KP.put KP.rf (by omega) h_11), (KP.put KP.rf (by omega) h_12), (KP.tr KP.rf (CPG.kp h_13 (by omega))), (KP.tr KP.rf (CPG.kp h_14 (by omega))), (rem_n (by omega) (by omega) (by omega) h_15)⟩)
  · have zc_1 : ((q_undos : Nat) : Int) = 8 := i_eq (nI_toInt (n := q_undos) (by omega)) rfl c_1
    refine ww_iconst (v := 1) C dX12_acts_9 rfl ?_
    refine ww_istore_n (lv' := [(1, .int 1), (0, .ref hm)]) C dX12_acts_10 rfl rfl rfl ?_
    have loop_11 : ∀ (fu : Nat) (k1 : Nat) (g_manys : Nat → Int32) (g_reals : Nat → Int32) (g_factsOf : Nat → Int32) (g_possible : Nat → Int32), (1 ≤ k1 ∧ k1 ≤ 8) → (SHP (pgs f_manys f_reals f_factsOf f_possible) (pgs g_manys g_reals g_factsOf g_possible) k1) → (KP 10 f_manys g_manys) → (KP 10 f_reals g_reals) → (KP 240 f_factsOf g_factsOf) → (KP 960 f_possible g_possible) → (NB 18 24 g_manys) → (NB 18 23 g_reals) → (PG g_manys g_reals) → (WFP (pgs g_manys g_reals g_factsOf g_possible)) → 8 - k1 < fu → WW X 2 E 11 [(1, .int (nI k1)), (0, .ref hm)] [] [(hm, .inr (12, [.ref m_manys, .ref m_reals, .ref m_factsOf, .ref m_possible, .int (nI q_undos), .int (nI q_models), .ref m_tape, .int (nI q_taped), .int q_fault, .int q_wrong, .int q_wrongAt, .int q_spot, .int q_place, .int q_token, .int q_value, .ref m_ends, .ref m_letters, .ref m_actOf, .ref m_whom, .ref m_actMany, .ref m_tokens, .ref m_afters, .ref m_afterOf, .int q_counted, .ref m_pile, .ref m_caseMany, .ref m_happen, .ref m_hasIf, .ref m_becomes, .ref m_goneOf, .ref m_heard, .ref m_pairs, .ref m_heaps, .int q_rounds, .int q_heapMany, .ref m_led, .ref m_newAt, .ref m_knowing, .ref m_firsts, .int (nI q_people), .ref m_secrets, .ref m_tried, .ref m_lanes, .ref m_lengths, .ref m_cells])), (m_manys, .inl (E.2.1 1, 18, .inl g_manys)), (m_reals, .inl (E.2.1 1, 18, .inl g_reals)), (m_factsOf, .inl (E.2.1 1, 432, .inl g_factsOf)), (m_possible, .inl (E.2.1 1, 1728, .inl g_possible))] 0 0 := by
      intro fu
      induction fu with
      | zero => intro k1 g_manys g_reals g_factsOf g_possible hk1 hsh hk_manys hk_reals hk_factsOf hk_possible hnb_m_manys_11 hnb_m_reals_11 hpg_11 hwf_11 hmeas; exact absurd hmeas (Nat.not_lt_zero _)
      | succ fu ih_11 =>
        intro k1 g_manys g_reals g_factsOf g_possible hk1 hsh hk_manys hk_reals hk_factsOf hk_possible hnb_m_manys_11 hnb_m_reals_11 hpg_11 hwf_11 hmeas
        refine ww_iload_n C dX12_acts_11 0 rfl rfl ?_
        refine ww_bipush (v := 8) C dX12_acts_12 rfl ?_
        refine ww_icmp_ge (tgt := 37) C dX12_acts_14 (by decide) (fun c_17 => ?_) (fun c_17 => ?_)
        · have zc_17 : ((k1 : Nat) : Int) ≥ 8 := i_le rfl (nI_toInt (n := k1) (by omega)) c_17
          refine ww_aload_n C dX12_acts_37 1 rfl rfl ?_
          refine ww_dup C dX12_acts_38 rfl ?_
          refine ww_get C fg_X12_105 0 rfl rfl dX12_acts_39 ?_
          refine ww_iconst (v := 1) C dX12_acts_42 rfl ?_
          refine ww_isub (v := (nI (q_undos - 1))) C dX12_acts_43 (pk_sub (a := q_undos) (b := 1) (by omega)) ?_
          refine ww_put (ws' := [(hm, .inr (12, [.ref m_manys, .ref m_reals, .ref m_factsOf, .ref m_possible, .int (nI (q_undos - 1)), .int (nI q_models), .ref m_tape, .int (nI q_taped), .int q_fault, .int q_wrong, .int q_wrongAt, .int q_spot, .int q_place, .int q_token, .int q_value, .ref m_ends, .ref m_letters, .ref m_actOf, .ref m_whom, .ref m_actMany, .ref m_tokens, .ref m_afters, .ref m_afterOf, .int q_counted, .ref m_pile, .ref m_caseMany, .ref m_happen, .ref m_hasIf, .ref m_becomes, .ref m_goneOf, .ref m_heard, .ref m_pairs, .ref m_heaps, .int q_rounds, .int q_heapMany, .ref m_led, .ref m_newAt, .ref m_knowing, .ref m_firsts, .int (nI q_people), .ref m_secrets, .ref m_tried, .ref m_lanes, .ref m_lengths, .ref m_cells])), (m_manys, .inl (E.2.1 1, 18, .inl g_manys)), (m_reals, .inl (E.2.1 1, 18, .inl g_reals)), (m_factsOf, .inl (E.2.1 1, 432, .inl g_factsOf)), (m_possible, .inl (E.2.1 1, 1728, .inl g_possible))]) C fp_X12_105 0 rfl rfl rfl rfl rfl dX12_acts_44 ?_
          refine ww_aload_n C dX12_acts_47 1 rfl rfl ?_
          refine ww_iconst (v := 0) C dX12_acts_48 rfl ?_
          refine ww_bipush (v := 10) C dX12_acts_49 rfl ?_
          refine ww_aload_n C dX12_acts_51 1 rfl rfl ?_
          refine ww_get C fg_X12_105 0 rfl rfl dX12_acts_52 ?_
          refine ww_iadd (v := (nI (10 + (q_undos - 1)))) C dX12_acts_55 (nI_add 10 (q_undos - 1)) ?_
          refine ww_cv (wr := []) (k' := 0) (n' := 0) C (run_V (As := [.int 0, .int (nI (10 + (q_undos - 1)))]) (rest := []) C (r_copy X.2.1 E ro hm 0 (10 + (q_undos - 1)) m_manys m_reals m_factsOf m_possible (q_undos - 1) q_models m_tape q_taped q_fault q_wrong q_wrongAt q_spot q_place q_token q_value m_ends m_letters m_actOf m_whom m_actMany m_tokens m_afters m_afterOf q_counted m_pile m_caseMany m_happen m_hasIf m_becomes m_goneOf m_heard m_pairs m_heaps q_rounds q_heapMany m_led m_newAt m_knowing m_firsts q_people m_secrets m_tried m_lanes m_lengths m_cells g_manys g_reals g_factsOf g_possible hnb_m_manys_11 hnb_m_reals_11 hpg_11 hwf_11 (by omega) (by omega)) mi_X12_copy wl_X12_109 rfl 0 12 rfl rfl rfl rfl rfl dX12_acts_56) (roK hro) [0, 1, 2, 3, 4] [] rfl rfl rfl rfl (fun uz hw => ?_)
          refine ex4 hw ?_
          clear hw
          intro f_manysz_19 f_realsz_20 f_factsOfz_21 f_possiblez_22 hw
          refine an8 hw ?_
          clear hw
          intro he_32 h_23 h_24 h_25 h_26 h_27 h_28 h_29 hw
          refine an1 hw ?_
          clear hw
          intro h_30 hw
          have h_31 := hw
          clear hw
          subst he_32
          refine ww_eq (ws' := [(hm, .inr (12, [.ref m_manys, .ref m_reals, .ref m_factsOf, .ref m_possible, .int (nI (q_undos - 1)), .int (nI q_models), .ref m_tape, .int (nI q_taped), .int q_fault, .int q_wrong, .int q_wrongAt, .int q_spot, .int q_place, .int q_token, .int q_value, .ref m_ends, .ref m_letters, .ref m_actOf, .ref m_whom, .ref m_actMany, .ref m_tokens, .ref m_afters, .ref m_afterOf, .int q_counted, .ref m_pile, .ref m_caseMany, .ref m_happen, .ref m_hasIf, .ref m_becomes, .ref m_goneOf, .ref m_heard, .ref m_pairs, .ref m_heaps, .int q_rounds, .int q_heapMany, .ref m_led, .ref m_newAt, .ref m_knowing, .ref m_firsts, .int (nI q_people), .ref m_secrets, .ref m_tried, .ref m_lanes, .ref m_lengths, .ref m_cells])), (m_manys, .inl (E.2.1 1, 18, .inl f_manysz_19)), (m_reals, .inl (E.2.1 1, 18, .inl f_realsz_20)), (m_factsOf, .inl (E.2.1 1, 432, .inl f_factsOfz_21)), (m_possible, .inl (E.2.1 1, 1728, .inl f_possiblez_22))]) ?_ rfl rfl rfl
          refine ww_aload_n C dX12_acts_59 1 rfl rfl ?_
          refine ww_dup C dX12_acts_60 rfl ?_
          refine ww_get C fg_X12_105 0 rfl rfl dX12_acts_61 ?_
          refine ww_iconst (v := 1) C dX12_acts_64 rfl ?_
          refine ww_iadd (v := (nI ((q_undos - 1) + 1))) C dX12_acts_65 (nI_add (q_undos - 1) 1) ?_
          refine ww_put (ws' := [(hm, .inr (12, [.ref m_manys, .ref m_reals, .ref m_factsOf, .ref m_possible, .int (nI ((q_undos - 1) + 1)), .int (nI q_models), .ref m_tape, .int (nI q_taped), .int q_fault, .int q_wrong, .int q_wrongAt, .int q_spot, .int q_place, .int q_token, .int q_value, .ref m_ends, .ref m_letters, .ref m_actOf, .ref m_whom, .ref m_actMany, .ref m_tokens, .ref m_afters, .ref m_afterOf, .int q_counted, .ref m_pile, .ref m_caseMany, .ref m_happen, .ref m_hasIf, .ref m_becomes, .ref m_goneOf, .ref m_heard, .ref m_pairs, .ref m_heaps, .int q_rounds, .int q_heapMany, .ref m_led, .ref m_newAt, .ref m_knowing, .ref m_firsts, .int (nI q_people), .ref m_secrets, .ref m_tried, .ref m_lanes, .ref m_lengths, .ref m_cells])), (m_manys, .inl (E.2.1 1, 18, .inl f_manysz_19)), (m_reals, .inl (E.2.1 1, 18, .inl f_realsz_20)), (m_factsOf, .inl (E.2.1 1, 432, .inl f_factsOfz_21)), (m_possible, .inl (E.2.1 1, 1728, .inl f_possiblez_22))]) C fp_X12_105 0 rfl rfl rfl rfl rfl dX12_acts_66 ?_
          exact ww_vret (u := [(hm, .inr (12, [.ref m_manys, .ref m_reals, .ref m_factsOf, .ref m_possible, .int (nI ((q_undos - 1) + 1)), .int (nI q_models), .ref m_tape, .int (nI q_taped), .int q_fault, .int q_wrong, .int q_wrongAt, .int q_spot, .int q_place, .int q_token, .int q_value, .ref m_ends, .ref m_letters, .ref m_actOf, .ref m_whom, .ref m_actMany, .ref m_tokens, .ref m_afters, .ref m_afterOf, .int q_counted, .ref m_pile, .ref m_caseMany, .ref m_happen, .ref m_hasIf, .ref m_becomes, .ref m_goneOf, .ref m_heard, .ref m_pairs, .ref m_heaps, .int q_rounds, .int q_heapMany, .ref m_led, .ref m_newAt, .ref m_knowing, .ref m_firsts, .int (nI q_people), .ref m_secrets, .ref m_tried, .ref m_lanes, .ref m_lengths, .ref m_cells])), (m_manys, .inl (E.2.1 1, 18, .inl f_manysz_19)), (m_reals, .inl (E.2.1 1, 18, .inl f_realsz_20)), (m_factsOf, .inl (E.2.1 1, 432, .inl f_factsOfz_21)), (m_possible, .inl (E.2.1 1, 1728, .inl f_possiblez_22))]) C hT [0, 1, 2, 3, 4] rfl rfl rfl rfl dX12_acts_69 (⟨((q_undos - 1) + 1), f_manysz_19, f_realsz_20, f_factsOfz_21, f_possiblez_22, rfl, h_23, h_24, h_25, h_26, (by omega), (KP.put hk_manys (by omega) h_27), (KP.put hk_reals (by omega) h_28), (KP.tr hk_factsOf (CPG.kp h_29 (by omega))), (KP.tr hk_possible (CPG.kp h_30 (by omega))), (rem_8 hsh (by omega) (by omega) (by omega) (by omega) h_31)⟩)
        · have zc_17 : ((k1 : Nat) : Int) < 8 := i_nle rfl (nI_toInt (n := k1) (by omega)) c_17
          refine ww_aload_n C dX12_acts_17 1 rfl rfl ?_
          refine ww_bipush (v := 10) C dX12_acts_18 rfl ?_
          refine ww_iload_n C dX12_acts_20 0 rfl rfl ?_
          refine ww_iadd (v := (nI (10 + k1))) C dX12_acts_21 (nI_add 10 k1) ?_
          refine ww_bipush (v := 10) C dX12_acts_22 rfl ?_
          refine ww_iload_n C dX12_acts_24 0 rfl rfl ?_
          refine ww_iadd (v := (nI (10 + k1))) C dX12_acts_25 (nI_add 10 k1) ?_
          refine ww_iconst (v := 1) C dX12_acts_26 rfl ?_
          refine ww_isub (v := (nI ((10 + k1) - 1))) C dX12_acts_27 (pk_sub (a := (10 + k1)) (b := 1) (by omega)) ?_
          refine ww_cv (wr := []) (k' := 0) (n' := 0) C (run_V (As := [.int (nI (10 + k1)), .int (nI ((10 + k1) - 1))]) (rest := []) C (r_copy X.2.1 E ro hm (10 + k1) ((10 + k1) - 1) m_manys m_reals m_factsOf m_possible q_undos q_models m_tape q_taped q_fault q_wrong q_wrongAt q_spot q_place q_token q_value m_ends m_letters m_actOf m_whom m_actMany m_tokens m_afters m_afterOf q_counted m_pile m_caseMany m_happen m_hasIf m_becomes m_goneOf m_heard m_pairs m_heaps q_rounds q_heapMany m_led m_newAt m_knowing m_firsts q_people m_secrets m_tried m_lanes m_lengths m_cells g_manys g_reals g_factsOf g_possible hnb_m_manys_11 hnb_m_reals_11 hpg_11 hwf_11 (by omega) (by omega)) mi_X12_copy wl_X12_109 rfl 0 12 rfl rfl rfl rfl rfl dX12_acts_28) (roK hro) [0, 1, 2, 3, 4] [] rfl rfl rfl rfl (fun uz hw => ?_)
          refine ex4 hw ?_
          clear hw
          intro f_manysz_34 f_realsz_35 f_factsOfz_36 f_possiblez_37 hw
          refine an8 hw ?_
          clear hw
          intro he_47 h_38 h_39 h_40 h_41 h_42 h_43 h_44 hw
          refine an1 hw ?_
          clear hw
          intro h_45 hw
          have h_46 := hw
          clear hw
          subst he_47
          refine ww_eq (ws' := [(hm, .inr (12, [.ref m_manys, .ref m_reals, .ref m_factsOf, .ref m_possible, .int (nI q_undos), .int (nI q_models), .ref m_tape, .int (nI q_taped), .int q_fault, .int q_wrong, .int q_wrongAt, .int q_spot, .int q_place, .int q_token, .int q_value, .ref m_ends, .ref m_letters, .ref m_actOf, .ref m_whom, .ref m_actMany, .ref m_tokens, .ref m_afters, .ref m_afterOf, .int q_counted, .ref m_pile, .ref m_caseMany, .ref m_happen, .ref m_hasIf, .ref m_becomes, .ref m_goneOf, .ref m_heard, .ref m_pairs, .ref m_heaps, .int q_rounds, .int q_heapMany, .ref m_led, .ref m_newAt, .ref m_knowing, .ref m_firsts, .int (nI q_people), .ref m_secrets, .ref m_tried, .ref m_lanes, .ref m_lengths, .ref m_cells])), (m_manys, .inl (E.2.1 1, 18, .inl f_manysz_34)), (m_reals, .inl (E.2.1 1, 18, .inl f_realsz_35)), (m_factsOf, .inl (E.2.1 1, 432, .inl f_factsOfz_36)), (m_possible, .inl (E.2.1 1, 1728, .inl f_possiblez_37))]) ?_ rfl rfl rfl
          refine ww_iinc (j := 0) (v := (nI (k1 + 1))) (lv' := [(1, .int (nI (k1 + 1))), (0, .ref hm)]) C dX12_acts_31 rfl (nI_add k1 1) rfl rfl ?_
          refine ww_goto (tgt := 11) C dX12_acts_34 (by decide) ?_
          exact ww_lv [0, 1] rfl (ww_sub [0, 1, 2, 3, 4] rfl rfl (ih_11 (k1 + 1) f_manysz_34 f_realsz_35 f_factsOfz_36 f_possiblez_37 (by omega) (SHP.ext hsh (by omega) (by omega) (by omega) (by omega) h_46) (KP.put hk_manys (by omega) h_42) (KP.put hk_reals (by omega) h_43) (KP.tr hk_factsOf (CPG.kp h_44 (by omega))) (KP.tr hk_possible (CPG.kp h_45 (by omega))) h_38 h_39 h_40 h_41 (by omega)))
    exact ww_lv [0, 1] rfl (ww_sub [0, 1, 2, 3, 4] rfl rfl (loop_11 _ 1 f_manys f_reals f_factsOf f_possible (by omega) SHP.nil KP.rf KP.rf KP.rf KP.rf hb_manys hb_reals hpg hwf (Nat.lt_succ_self _)))
theorem dX12_isKnower_0 : decode cX12_isKnower 0 = .ok (.iload_n 0, 1) := by decide +kernel
theorem dX12_isKnower_1 : decode cX12_isKnower 1 = .ok (.i2l, 1) := by decide +kernel
theorem dX12_isKnower_2 : decode cX12_isKnower 2 = .ok (.lconst 0, 1) := by decide +kernel
theorem dX12_isKnower_3 : decode cX12_isKnower 3 = .ok (.ldc2_w 113, 3) := by decide +kernel
theorem wv_X12_113 : Cond.constantLong RX12 113 3 ∈ TB := tbm (tq6 (List.mem_of_getElem? (i := 2) (by decide +kernel))) (by decide +kernel)
theorem dX12_isKnower_6 : decode cX12_isKnower 6 = .ok (.invokestatic 115, 3) := by decide +kernel
theorem wl_X12_115 : Cond.methodLink RX12 115 yX12_in ∈ TB := tbm (tq5 (List.mem_of_getElem? (i := 220) (by decide +kernel))) (by decide +kernel)
theorem wc_X12_in : Cond.code yX12_in cX12_in 6 (some .boolean) ∈ TB := tbm (tq5 (List.mem_of_getElem? (i := 222) (rfl))) (by decide +kernel)
theorem wt_X12_in : Cond.static yX12_in ∈ TB := tbm (tq5 (List.mem_of_getElem? (i := 221) (by decide +kernel))) (by decide +kernel)
theorem ms_X12_in : MS yX12_in cX12_in 6 (some .boolean) 3 := ⟨wc_X12_in, wn_X12, ⟨by decide +kernel, by decide +kernel, by decide +kernel⟩, wt_X12_in⟩
theorem dX12_isKnower_9 : decode cX12_isKnower 9 = .ok (.ireturn, 1) := by decide +kernel
set_option maxRecDepth 100000 in
set_option maxHeartbeats 4000000 in
theorem r_isKnower (l : Launch) (E : EV) (ro : va_W) (k : Int32)  : CT l yX12_isKnower (Cond.code yX12_isKnower cX12_isKnower 1 (some .boolean) :: TB) ({ frames := 1, cells := 0, slots := 0, locals := 25 }) E ro [.int k] [] (Qi E (fun (rz : Int32) uz => (rz = 1 ∧ uz = [] ∧ (0 ≤ k.toInt) ∧ (k.toInt ≤ 3)) ∨ (rz = 0 ∧ uz = [] ∧ (k.toInt < 0 ∨ 3 < k.toInt)))) 0 0 := by
  refine ct_of rfl rfl ?_
  intro X C hT hin hro
  show WW X 1 E 0 [(0, .int k)] [] [] 0 0
  refine ww_iload_n C dX12_isKnower_0 0 rfl rfl ?_
  refine ww_i2l (v := k.toInt64) C dX12_isKnower_1 rfl ?_
  refine ww_lconst (v := 0) C dX12_isKnower_2 rfl ?_
  refine ww_ldc2 C wv_X12_113 dX12_isKnower_3 ?_
  refine ww_ci (wr := []) (k' := 0) (n' := 0) C (run_S (As := [.long k.toInt64, .long 0, .long 3]) (rest := []) C (r_in X.2.1 E ro k.toInt64 0 3 k.toInt 0 3 (Int32.toInt_toInt64 _) rfl rfl) ms_X12_in wl_X12_115 rfl rfl rfl rfl dX12_isKnower_6) (roK hro) [] [] rfl rfl rfl rfl (fun r_1 uz hw => ?_)
  rcases hw with hw | hw
  · refine an3 hw ?_
    clear hw
    intro he_4 he_5 h_2 hw
    have h_3 := hw
    clear hw
    have he_4 := he_4.symm
    subst he_4
    subst he_5
    refine ww_eq (ws' := []) ?_ rfl rfl rfl
    exact ww_zret (u := []) C hT [] rfl rfl rfl rfl rfl dX12_isKnower_9 (Or.inl ⟨rfl, rfl, (by first | assumption | omega | decide), (by first | assumption | omega | decide)⟩)
  · refine an2 hw ?_
    clear hw
    intro he_7 he_8 hw
    have h_6 := hw
    clear hw
    have he_7 := he_7.symm
    subst he_7
    subst he_8
    refine ww_eq (ws' := []) ?_ rfl rfl rfl
    exact ww_zret (u := []) C hT [] rfl rfl rfl rfl rfl dX12_isKnower_9 (Or.inr ⟨rfl, rfl, (by first | assumption | omega | decide)⟩)
theorem dX12_isWorld_0 : decode cX12_isWorld 0 = .ok (.iload_n 1, 1) := by decide +kernel
theorem dX12_isWorld_1 : decode cX12_isWorld 1 = .ok (.i2l, 1) := by decide +kernel
theorem dX12_isWorld_2 : decode cX12_isWorld 2 = .ok (.lconst 0, 1) := by decide +kernel
theorem dX12_isWorld_3 : decode cX12_isWorld 3 = .ok (.aload_n 0, 1) := by decide +kernel
theorem dX12_isWorld_4 : decode cX12_isWorld 4 = .ok (.getfield 7, 3) := by decide +kernel
theorem dX12_isWorld_7 : decode cX12_isWorld 7 = .ok (.iconst 0, 1) := by decide +kernel
theorem dX12_isWorld_8 : decode cX12_isWorld 8 = .ok (.iaload, 1) := by decide +kernel
theorem dX12_isWorld_9 : decode cX12_isWorld 9 = .ok (.iconst 1, 1) := by decide +kernel
theorem dX12_isWorld_10 : decode cX12_isWorld 10 = .ok (.isub, 1) := by decide +kernel
theorem dX12_isWorld_11 : decode cX12_isWorld 11 = .ok (.i2l, 1) := by decide +kernel
theorem dX12_isWorld_12 : decode cX12_isWorld 12 = .ok (.invokestatic 115, 3) := by decide +kernel
theorem dX12_isWorld_15 : decode cX12_isWorld 15 = .ok (.ireturn, 1) := by decide +kernel
set_option maxRecDepth 100000 in
set_option maxHeartbeats 4000000 in
theorem r_isWorld (l : Launch) (E : EV) (ro : va_W) (hm : Nat) (k : Int32) (m_manys : Nat) (m_reals : Nat) (m_factsOf : Nat) (m_possible : Nat) (q_undos : Nat) (q_models : Nat) (m_tape : Nat) (q_taped : Nat) (q_fault : Int32) (q_wrong : Int32) (q_wrongAt : Int32) (q_spot : Int32) (q_place : Int32) (q_token : Int32) (q_value : Int32) (m_ends : Nat) (m_letters : Nat) (m_actOf : Nat) (m_whom : Nat) (m_actMany : Nat) (m_tokens : Nat) (m_afters : Nat) (m_afterOf : Nat) (q_counted : Int32) (m_pile : Nat) (m_caseMany : Nat) (m_happen : Nat) (m_hasIf : Nat) (m_becomes : Nat) (m_goneOf : Nat) (m_heard : Nat) (m_pairs : Nat) (m_heaps : Nat) (q_rounds : Int32) (q_heapMany : Int32) (m_led : Nat) (m_newAt : Nat) (m_knowing : Nat) (m_firsts : Nat) (q_people : Nat) (m_secrets : Nat) (m_tried : Nat) (m_lanes : Nat) (m_lengths : Nat) (m_cells : Nat) (f_manys : Nat → Int32) (hb_manys : NB 18 24 f_manys) : CT l yX12_isWorld (Cond.code yX12_isWorld cX12_isWorld 2 (some .boolean) :: TB) ({ frames := 1, cells := 0, slots := 0, locals := 25 }) E ro [.ref hm, .int k] [(hm, .inr (12, [.ref m_manys, .ref m_reals, .ref m_factsOf, .ref m_possible, .int (nI q_undos), .int (nI q_models), .ref m_tape, .int (nI q_taped), .int q_fault, .int q_wrong, .int q_wrongAt, .int q_spot, .int q_place, .int q_token, .int q_value, .ref m_ends, .ref m_letters, .ref m_actOf, .ref m_whom, .ref m_actMany, .ref m_tokens, .ref m_afters, .ref m_afterOf, .int q_counted, .ref m_pile, .ref m_caseMany, .ref m_happen, .ref m_hasIf, .ref m_becomes, .ref m_goneOf, .ref m_heard, .ref m_pairs, .ref m_heaps, .int q_rounds, .int q_heapMany, .ref m_led, .ref m_newAt, .ref m_knowing, .ref m_firsts, .int (nI q_people), .ref m_secrets, .ref m_tried, .ref m_lanes, .ref m_lengths, .ref m_cells])), (m_manys, .inl (E.2.1 1, 18, .inl f_manys))] (Qi E (fun (rz : Int32) uz => (rz = 1 ∧ uz = [(hm, .inr (12, [.ref m_manys, .ref m_reals, .ref m_factsOf, .ref m_possible, .int (nI q_undos), .int (nI q_models), .ref m_tape, .int (nI q_taped), .int q_fault, .int q_wrong, .int q_wrongAt, .int q_spot, .int q_place, .int q_token, .int q_value, .ref m_ends, .ref m_letters, .ref m_actOf, .ref m_whom, .ref m_actMany, .ref m_tokens, .ref m_afters, .ref m_afterOf, .int q_counted, .ref m_pile, .ref m_caseMany, .ref m_happen, .ref m_hasIf, .ref m_becomes, .ref m_goneOf, .ref m_heard, .ref m_pairs, .ref m_heaps, .int q_rounds, .int q_heapMany, .ref m_led, .ref m_newAt, .ref m_knowing, .ref m_firsts, .int (nI q_people), .ref m_secrets, .ref m_tried, .ref m_lanes, .ref m_lengths, .ref m_cells])), (m_manys, .inl (E.2.1 1, 18, .inl f_manys))] ∧ (0 ≤ k.toInt) ∧ (k.toInt < cN f_manys 0)) ∨ (rz = 0 ∧ uz = [(hm, .inr (12, [.ref m_manys, .ref m_reals, .ref m_factsOf, .ref m_possible, .int (nI q_undos), .int (nI q_models), .ref m_tape, .int (nI q_taped), .int q_fault, .int q_wrong, .int q_wrongAt, .int q_spot, .int q_place, .int q_token, .int q_value, .ref m_ends, .ref m_letters, .ref m_actOf, .ref m_whom, .ref m_actMany, .ref m_tokens, .ref m_afters, .ref m_afterOf, .int q_counted, .ref m_pile, .ref m_caseMany, .ref m_happen, .ref m_hasIf, .ref m_becomes, .ref m_goneOf, .ref m_heard, .ref m_pairs, .ref m_heaps, .int q_rounds, .int q_heapMany, .ref m_led, .ref m_newAt, .ref m_knowing, .ref m_firsts, .int (nI q_people), .ref m_secrets, .ref m_tried, .ref m_lanes, .ref m_lengths, .ref m_cells])), (m_manys, .inl (E.2.1 1, 18, .inl f_manys))] ∧ (k.toInt < 0 ∨ ((cN f_manys 0 : Nat) : Int) ≤ k.toInt)))) 0 0 := by
  refine ct_of rfl rfl ?_
  intro X C hT hin hro
  show WW X 2 E 0 [(0, .ref hm), (1, .int k)] [] [(hm, .inr (12, [.ref m_manys, .ref m_reals, .ref m_factsOf, .ref m_possible, .int (nI q_undos), .int (nI q_models), .ref m_tape, .int (nI q_taped), .int q_fault, .int q_wrong, .int q_wrongAt, .int q_spot, .int q_place, .int q_token, .int q_value, .ref m_ends, .ref m_letters, .ref m_actOf, .ref m_whom, .ref m_actMany, .ref m_tokens, .ref m_afters, .ref m_afterOf, .int q_counted, .ref m_pile, .ref m_caseMany, .ref m_happen, .ref m_hasIf, .ref m_becomes, .ref m_goneOf, .ref m_heard, .ref m_pairs, .ref m_heaps, .int q_rounds, .int q_heapMany, .ref m_led, .ref m_newAt, .ref m_knowing, .ref m_firsts, .int (nI q_people), .ref m_secrets, .ref m_tried, .ref m_lanes, .ref m_lengths, .ref m_cells])), (m_manys, .inl (E.2.1 1, 18, .inl f_manys))] 0 0
  have hmn0 := (hb_manys 0 (by omega)).2
  refine ww_iload_n C dX12_isWorld_0 1 rfl rfl ?_
  refine ww_i2l (v := k.toInt64) C dX12_isWorld_1 rfl ?_
  refine ww_lconst (v := 0) C dX12_isWorld_2 rfl ?_
  refine ww_aload_n C dX12_isWorld_3 0 rfl rfl ?_
  refine ww_get C fg_X12_7 0 rfl rfl dX12_isWorld_4 ?_
  refine ww_iconst (v := 0) C dX12_isWorld_7 rfl ?_
  have hbx_1 := (hb_manys 0 (by omega)).2
  refine ww_iald (v := (nI (cN f_manys 0))) C 1 rfl (vin rfl) (hb_manys 0 (by omega)).1 dX12_isWorld_8 ?_
  refine ww_iconst (v := 1) C dX12_isWorld_9 rfl ?_
  obtain ⟨x_2, ex_2⟩ : ∃ z : Int32, (nI (cN f_manys 0)) - (1 : Int32) = z := ⟨_, rfl⟩
  have zx_2 : x_2.toInt = ((cN f_manys 0 : Nat) : Int) - 1 := by rw [← ex_2]; exact i_sub (nI_toInt (n := cN f_manys 0) (by omega)) rfl (by omega) (by omega)
  refine ww_isub (v := x_2) C dX12_isWorld_10 ex_2 ?_
  refine ww_i2l (v := x_2.toInt64) C dX12_isWorld_11 rfl ?_
  refine ww_ci (wr := [(hm, .inr (12, [.ref m_manys, .ref m_reals, .ref m_factsOf, .ref m_possible, .int (nI q_undos), .int (nI q_models), .ref m_tape, .int (nI q_taped), .int q_fault, .int q_wrong, .int q_wrongAt, .int q_spot, .int q_place, .int q_token, .int q_value, .ref m_ends, .ref m_letters, .ref m_actOf, .ref m_whom, .ref m_actMany, .ref m_tokens, .ref m_afters, .ref m_afterOf, .int q_counted, .ref m_pile, .ref m_caseMany, .ref m_happen, .ref m_hasIf, .ref m_becomes, .ref m_goneOf, .ref m_heard, .ref m_pairs, .ref m_heaps, .int q_rounds, .int q_heapMany, .ref m_led, .ref m_newAt, .ref m_knowing, .ref m_firsts, .int (nI q_people), .ref m_secrets, .ref m_tried, .ref m_lanes, .ref m_lengths, .ref m_cells])), (m_manys, .inl (E.2.1 1, 18, .inl f_manys))]) (k' := 0) (n' := 0) C (run_S (As := [.long k.toInt64, .long 0, .long x_2.toInt64]) (rest := []) C (r_in X.2.1 E ro k.toInt64 0 x_2.toInt64 k.toInt 0 (((cN f_manys 0 : Nat) : Int) - 1) (Int32.toInt_toInt64 _) rfl ((Int32.toInt_toInt64 _).trans zx_2)) ms_X12_in wl_X12_115 rfl rfl rfl rfl dX12_isWorld_12) (roK hro) [] [0, 1] rfl rfl rfl rfl (fun r_3 uz hw => ?_)
  rcases hw with hw | hw
  · refine an3 hw ?_
    clear hw
    intro he_6 he_7 h_4 hw
    have h_5 := hw
    clear hw
    have he_6 := he_6.symm
    subst he_6
    subst he_7
    refine ww_eq (ws' := [(hm, .inr (12, [.ref m_manys, .ref m_reals, .ref m_factsOf, .ref m_possible, .int (nI q_undos), .int (nI q_models), .ref m_tape, .int (nI q_taped), .int q_fault, .int q_wrong, .int q_wrongAt, .int q_spot, .int q_place, .int q_token, .int q_value, .ref m_ends, .ref m_letters, .ref m_actOf, .ref m_whom, .ref m_actMany, .ref m_tokens, .ref m_afters, .ref m_afterOf, .int q_counted, .ref m_pile, .ref m_caseMany, .ref m_happen, .ref m_hasIf, .ref m_becomes, .ref m_goneOf, .ref m_heard, .ref m_pairs, .ref m_heaps, .int q_rounds, .int q_heapMany, .ref m_led, .ref m_newAt, .ref m_knowing, .ref m_firsts, .int (nI q_people), .ref m_secrets, .ref m_tried, .ref m_lanes, .ref m_lengths, .ref m_cells])), (m_manys, .inl (E.2.1 1, 18, .inl f_manys))]) ?_ rfl rfl rfl
    exact ww_zret (u := [(hm, .inr (12, [.ref m_manys, .ref m_reals, .ref m_factsOf, .ref m_possible, .int (nI q_undos), .int (nI q_models), .ref m_tape, .int (nI q_taped), .int q_fault, .int q_wrong, .int q_wrongAt, .int q_spot, .int q_place, .int q_token, .int q_value, .ref m_ends, .ref m_letters, .ref m_actOf, .ref m_whom, .ref m_actMany, .ref m_tokens, .ref m_afters, .ref m_afterOf, .int q_counted, .ref m_pile, .ref m_caseMany, .ref m_happen, .ref m_hasIf, .ref m_becomes, .ref m_goneOf, .ref m_heard, .ref m_pairs, .ref m_heaps, .int q_rounds, .int q_heapMany, .ref m_led, .ref m_newAt, .ref m_knowing, .ref m_firsts, .int (nI q_people), .ref m_secrets, .ref m_tried, .ref m_lanes, .ref m_lengths, .ref m_cells])), (m_manys, .inl (E.2.1 1, 18, .inl f_manys))]) C hT [0, 1] rfl rfl rfl rfl rfl dX12_isWorld_15 (Or.inl ⟨rfl, rfl, (by first | assumption | omega | decide), (by first | assumption | omega | decide)⟩)
  · refine an2 hw ?_
    clear hw
    intro he_9 he_10 hw
    have h_8 := hw
    clear hw
    have he_9 := he_9.symm
    subst he_9
    subst he_10
    refine ww_eq (ws' := [(hm, .inr (12, [.ref m_manys, .ref m_reals, .ref m_factsOf, .ref m_possible, .int (nI q_undos), .int (nI q_models), .ref m_tape, .int (nI q_taped), .int q_fault, .int q_wrong, .int q_wrongAt, .int q_spot, .int q_place, .int q_token, .int q_value, .ref m_ends, .ref m_letters, .ref m_actOf, .ref m_whom, .ref m_actMany, .ref m_tokens, .ref m_afters, .ref m_afterOf, .int q_counted, .ref m_pile, .ref m_caseMany, .ref m_happen, .ref m_hasIf, .ref m_becomes, .ref m_goneOf, .ref m_heard, .ref m_pairs, .ref m_heaps, .int q_rounds, .int q_heapMany, .ref m_led, .ref m_newAt, .ref m_knowing, .ref m_firsts, .int (nI q_people), .ref m_secrets, .ref m_tried, .ref m_lanes, .ref m_lengths, .ref m_cells])), (m_manys, .inl (E.2.1 1, 18, .inl f_manys))]) ?_ rfl rfl rfl
    exact ww_zret (u := [(hm, .inr (12, [.ref m_manys, .ref m_reals, .ref m_factsOf, .ref m_possible, .int (nI q_undos), .int (nI q_models), .ref m_tape, .int (nI q_taped), .int q_fault, .int q_wrong, .int q_wrongAt, .int q_spot, .int q_place, .int q_token, .int q_value, .ref m_ends, .ref m_letters, .ref m_actOf, .ref m_whom, .ref m_actMany, .ref m_tokens, .ref m_afters, .ref m_afterOf, .int q_counted, .ref m_pile, .ref m_caseMany, .ref m_happen, .ref m_hasIf, .ref m_becomes, .ref m_goneOf, .ref m_heard, .ref m_pairs, .ref m_heaps, .int q_rounds, .int q_heapMany, .ref m_led, .ref m_newAt, .ref m_knowing, .ref m_firsts, .int (nI q_people), .ref m_secrets, .ref m_tried, .ref m_lanes, .ref m_lengths, .ref m_cells])), (m_manys, .inl (E.2.1 1, 18, .inl f_manys))]) C hT [0, 1] rfl rfl rfl rfl rfl dX12_isWorld_15 (Or.inr ⟨rfl, rfl, (by first | assumption | omega | decide)⟩)
theorem dX12_all_0 : decode cX12_all 0 = .ok (.iconst 1, 1) := by decide +kernel
theorem dX12_all_1 : decode cX12_all 1 = .ok (.iload_n 0, 1) := by decide +kernel
theorem dX12_all_2 : decode cX12_all 2 = .ok (.ishl, 1) := by decide +kernel
theorem dX12_all_3 : decode cX12_all 3 = .ok (.iconst 1, 1) := by decide +kernel
theorem dX12_all_4 : decode cX12_all 4 = .ok (.isub, 1) := by decide +kernel
theorem dX12_all_5 : decode cX12_all 5 = .ok (.ireturn, 1) := by decide +kernel
set_option maxRecDepth 100000 in
set_option maxHeartbeats 4000000 in
theorem r_all (l : Launch) (E : EV) (ro : va_W) (n : Nat) (hn : n ≤ 24) : CT l yX12_all (Cond.code yX12_all cX12_all 1 (some .int) :: TB) ({ frames := 0, cells := 0, slots := 0, locals := 0 }) E ro [.int (nI n)] [] (Qi E (fun (rz : Int32) uz => (uz = [] ∧ (∀ i, i < 32 → bt rz i = decide (i < n))))) 0 0 := by
  refine ct_of rfl rfl ?_
  intro X C hT hin hro
  show WW X 1 E 0 [(0, .int (nI n))] [] [] 0 0
  refine ww_iconst (v := 1) C dX12_all_0 rfl ?_
  refine ww_iload_n C dX12_all_1 0 rfl rfl ?_
  obtain ⟨x_1, ex_1⟩ : ∃ z : Int32, (1 : Int32) <<< ((nI n) &&& 31) = z := ⟨_, rfl⟩
  refine ww_ishl (v := x_1) C dX12_all_2 ex_1 ?_
  refine ww_iconst (v := 1) C dX12_all_3 rfl ?_
  obtain ⟨x_2, ex_2⟩ : ∃ z : Int32, x_1 - (1 : Int32) = z := ⟨_, rfl⟩
  refine ww_isub (v := x_2) C dX12_all_4 ex_2 ?_
  exact ww_iret (u := []) C hT [] rfl rfl rfl rfl dX12_all_5 (⟨rfl, (all_b hn (by assumption) (by assumption))⟩)
theorem dX12_size_0 : decode cX12_size 0 = .ok (.iconst 0, 1) := by decide +kernel
theorem dX12_size_1 : decode cX12_size 1 = .ok (.istore_n 1, 1) := by decide +kernel
theorem dX12_size_2 : decode cX12_size 2 = .ok (.iconst 0, 1) := by decide +kernel
theorem dX12_size_3 : decode cX12_size 3 = .ok (.istore_n 2, 1) := by decide +kernel
theorem dX12_size_4 : decode cX12_size 4 = .ok (.iload_n 2, 1) := by decide +kernel
theorem dX12_size_5 : decode cX12_size 5 = .ok (.bipush 24, 2) := by decide +kernel
theorem dX12_size_7 : decode cX12_size 7 = .ok (.if_icmp .ge 17, 3) := by decide +kernel
theorem dX12_size_24 : decode cX12_size 24 = .ok (.iload_n 1, 1) := by decide +kernel
theorem dX12_size_25 : decode cX12_size 25 = .ok (.ireturn, 1) := by decide +kernel
theorem dX12_size_10 : decode cX12_size 10 = .ok (.iload_n 1, 1) := by decide +kernel
theorem dX12_size_11 : decode cX12_size 11 = .ok (.iload_n 0, 1) := by decide +kernel
theorem dX12_size_12 : decode cX12_size 12 = .ok (.iload_n 2, 1) := by decide +kernel
theorem dX12_size_13 : decode cX12_size 13 = .ok (.ishr, 1) := by decide +kernel
theorem dX12_size_14 : decode cX12_size 14 = .ok (.iconst 1, 1) := by decide +kernel
theorem dX12_size_15 : decode cX12_size 15 = .ok (.iand, 1) := by decide +kernel
theorem dX12_size_16 : decode cX12_size 16 = .ok (.iadd, 1) := by decide +kernel
theorem dX12_size_17 : decode cX12_size 17 = .ok (.istore_n 1, 1) := by decide +kernel
theorem dX12_size_18 : decode cX12_size 18 = .ok (.iinc 2 1, 3) := by decide +kernel
theorem dX12_size_21 : decode cX12_size 21 = .ok (.goto (-17), 3) := by decide +kernel
set_option maxRecDepth 100000 in
set_option maxHeartbeats 4000000 in
theorem r_size (l : Launch) (E : EV) (ro : va_W) (x : Int32)  : CT l yX12_size (Cond.code yX12_size cX12_size 3 (some .int) :: TB) ({ frames := 0, cells := 0, slots := 0, locals := 0 }) E ro [.int x] [] (Qi E (fun (rz : Int32) uz => (rz = (nI (cb (bt x) 24)) ∧ uz = [] ∧ (cb (bt x) 24 ≤ 24)))) 0 0 := by
  refine ct_of rfl rfl ?_
  intro X C hT hin hro
  show WW X 3 E 0 [(0, .int x)] [] [] 0 0
  refine ww_iconst (v := 0) C dX12_size_0 rfl ?_
  refine ww_istore_n (lv' := [(1, .int 0), (0, .int x)]) C dX12_size_1 rfl rfl rfl ?_
  refine ww_iconst (v := 0) C dX12_size_2 rfl ?_
  refine ww_istore_n (lv' := [(2, .int 0), (1, .int 0), (0, .int x)]) C dX12_size_3 rfl rfl rfl ?_
  have loop_4 : ∀ (fu : Nat) (i1 : Nat) (c1 : Nat), (i1 ≤ 24) → (c1 = cb (bt x) i1) → 24 - i1 < fu → WW X 3 E 4 [(2, .int (nI i1)), (1, .int (nI c1)), (0, .int x)] [] [] 0 0 := by
    intro fu
    induction fu with
    | zero => intro i1 c1 hi1 hc1 hmeas; exact absurd hmeas (Nat.not_lt_zero _)
    | succ fu ih_4 =>
      intro i1 c1 hi1 hc1 hmeas
      refine ww_iload_n C dX12_size_4 0 rfl rfl ?_
      refine ww_bipush (v := 24) C dX12_size_5 rfl ?_
      refine ww_icmp_ge (tgt := 24) C dX12_size_7 (by decide) (fun c_1 => ?_) (fun c_1 => ?_)
      · have zc_1 : ((i1 : Nat) : Int) ≥ 24 := i_le rfl (nI_toInt (n := i1) (by omega)) c_1
        refine ww_iload_n C dX12_size_24 1 rfl rfl ?_
        exact ww_iret (u := []) C hT [] rfl rfl rfl rfl dX12_size_25 (⟨(by rw [hc1, show i1 = 24 by omega]), rfl, (cb_le _ _)⟩)
      · have zc_1 : ((i1 : Nat) : Int) < 24 := i_nle rfl (nI_toInt (n := i1) (by omega)) c_1
        refine ww_iload_n C dX12_size_10 1 rfl rfl ?_
        refine ww_iload_n C dX12_size_11 2 rfl rfl ?_
        refine ww_iload_n C dX12_size_12 0 rfl rfl ?_
        obtain ⟨x_2, ex_2⟩ : ∃ z : Int32, x >>> ((nI i1) &&& 31) = z := ⟨_, rfl⟩
        refine ww_ishr (v := x_2) C dX12_size_13 ex_2 ?_
        refine ww_iconst (v := 1) C dX12_size_14 rfl ?_
        obtain ⟨j_3, hj_3, ej_3⟩ := pk_andE x_2 (m := 1) 1 rfl
        refine ww_iand (v := (nI j_3)) C dX12_size_15 ej_3 ?_
        refine ww_iadd (v := (nI (c1 + j_3))) C dX12_size_16 (nI_add c1 j_3) ?_
        refine ww_istore_n (lv' := [(1, .int (nI (c1 + j_3))), (2, .int (nI i1)), (0, .int x)]) C dX12_size_17 rfl rfl rfl ?_
        refine ww_iinc (j := 1) (v := (nI (i1 + 1))) (lv' := [(2, .int (nI (i1 + 1))), (1, .int (nI (c1 + j_3))), (0, .int x)]) C dX12_size_18 rfl (nI_add i1 1) rfl rfl ?_
        refine ww_goto (tgt := 4) C dX12_size_21 (by decide) ?_
        exact ww_lv [0, 1, 2] rfl (ww_sub [] rfl rfl (ih_4 (i1 + 1) (c1 + j_3) (by omega) (by rw [cb_bit (j := j_3) (by omega) (by omega) (by assumption) (by assumption)]; omega) (by omega)))
  exact ww_lv [0, 1, 2] rfl (ww_sub [] rfl rfl (loop_4 _ 0 0 (by omega) rfl (Nat.lt_succ_self _)))
