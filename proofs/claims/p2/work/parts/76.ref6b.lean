theorem dX12_knownBy_0 : decode cX12_knownBy 0 = .ok (.iconst 0, 1) := by decide +kernel
theorem dX12_knownBy_1 : decode cX12_knownBy 1 = .ok (.istore 5, 2) := by decide +kernel
theorem dX12_knownBy_3 : decode cX12_knownBy 3 = .ok (.iconst 0, 1) := by decide +kernel
theorem dX12_knownBy_4 : decode cX12_knownBy 4 = .ok (.istore 6, 2) := by decide +kernel
theorem dX12_knownBy_6 : decode cX12_knownBy 6 = .ok (.iload 6, 2) := by decide +kernel
theorem dX12_knownBy_8 : decode cX12_knownBy 8 = .ok (.aload_n 0, 1) := by decide +kernel
theorem dX12_knownBy_9 : decode cX12_knownBy 9 = .ok (.getfield 7, 3) := by decide +kernel
theorem dX12_knownBy_12 : decode cX12_knownBy 12 = .ok (.iload_n 1, 1) := by decide +kernel
theorem dX12_knownBy_13 : decode cX12_knownBy 13 = .ok (.iaload, 1) := by decide +kernel
theorem dX12_knownBy_14 : decode cX12_knownBy 14 = .ok (.if_icmp .ge 189, 3) := by decide +kernel
theorem dX12_knownBy_203 : decode cX12_knownBy 203 = .ok (.iload 5, 2) := by decide +kernel
theorem dX12_knownBy_205 : decode cX12_knownBy 205 = .ok (.ireturn, 1) := by decide +kernel
theorem dX12_knownBy_17 : decode cX12_knownBy 17 = .ok (.iconst 1, 1) := by decide +kernel
theorem dX12_knownBy_18 : decode cX12_knownBy 18 = .ok (.istore 7, 2) := by decide +kernel
theorem dX12_knownBy_20 : decode cX12_knownBy 20 = .ok (.iconst (-1), 1) := by decide +kernel
theorem dX12_knownBy_21 : decode cX12_knownBy 21 = .ok (.istore 8, 2) := by decide +kernel
theorem dX12_knownBy_23 : decode cX12_knownBy 23 = .ok (.iconst 0, 1) := by decide +kernel
theorem dX12_knownBy_24 : decode cX12_knownBy 24 = .ok (.istore 9, 2) := by decide +kernel
theorem dX12_knownBy_26 : decode cX12_knownBy 26 = .ok (.iload 9, 2) := by decide +kernel
theorem dX12_knownBy_28 : decode cX12_knownBy 28 = .ok (.iconst 4, 1) := by decide +kernel
theorem dX12_knownBy_29 : decode cX12_knownBy 29 = .ok (.if_icmp .ge 62, 3) := by decide +kernel
theorem dX12_knownBy_91 : decode cX12_knownBy 91 = .ok (.iload 7, 2) := by decide +kernel
theorem dX12_knownBy_93 : decode cX12_knownBy 93 = .ok (.istore 9, 2) := by decide +kernel
theorem dX12_knownBy_95 : decode cX12_knownBy 95 = .ok (.iload_n 2, 1) := by decide +kernel
theorem dX12_knownBy_96 : decode cX12_knownBy 96 = .ok (.bipush 9, 2) := by decide +kernel
theorem dX12_knownBy_98 : decode cX12_knownBy 98 = .ok (.if_icmp .ne 26, 3) := by decide +kernel
theorem dX12_knownBy_124 : decode cX12_knownBy 124 = .ok (.iload_n 2, 1) := by decide +kernel
theorem dX12_knownBy_125 : decode cX12_knownBy 125 = .ok (.bipush 12, 2) := by decide +kernel
theorem dX12_knownBy_127 : decode cX12_knownBy 127 = .ok (.if_icmp .ne 23, 3) := by decide +kernel
theorem dX12_knownBy_150 : decode cX12_knownBy 150 = .ok (.iload_n 2, 1) := by decide +kernel
theorem dX12_knownBy_151 : decode cX12_knownBy 151 = .ok (.bipush 11, 2) := by decide +kernel
theorem dX12_knownBy_153 : decode cX12_knownBy 153 = .ok (.if_icmp .ne 26, 3) := by decide +kernel
theorem dX12_knownBy_179 : decode cX12_knownBy 179 = .ok (.iload 5, 2) := by decide +kernel
theorem dX12_knownBy_181 : decode cX12_knownBy 181 = .ok (.iload 9, 2) := by decide +kernel
theorem dX12_knownBy_183 : decode cX12_knownBy 183 = .ok (.ifCond .eq 10, 3) := by decide +kernel
theorem dX12_knownBy_193 : decode cX12_knownBy 193 = .ok (.iconst 0, 1) := by decide +kernel
theorem dX12_knownBy_194 : decode cX12_knownBy 194 = .ok (.ior, 1) := by decide +kernel
theorem dX12_knownBy_195 : decode cX12_knownBy 195 = .ok (.istore 5, 2) := by decide +kernel
theorem dX12_knownBy_197 : decode cX12_knownBy 197 = .ok (.iinc 6 1, 3) := by decide +kernel
theorem dX12_knownBy_200 : decode cX12_knownBy 200 = .ok (.goto (-194), 3) := by decide +kernel
theorem dX12_knownBy_186 : decode cX12_knownBy 186 = .ok (.iconst 1, 1) := by decide +kernel
theorem dX12_knownBy_187 : decode cX12_knownBy 187 = .ok (.iload 6, 2) := by decide +kernel
theorem dX12_knownBy_189 : decode cX12_knownBy 189 = .ok (.ishl, 1) := by decide +kernel
theorem dX12_knownBy_190 : decode cX12_knownBy 190 = .ok (.goto 4, 3) := by decide +kernel
theorem dX12_knownBy_156 : decode cX12_knownBy 156 = .ok (.aload_n 0, 1) := by decide +kernel
theorem dX12_knownBy_157 : decode cX12_knownBy 157 = .ok (.iload_n 1, 1) := by decide +kernel
theorem dX12_knownBy_158 : decode cX12_knownBy 158 = .ok (.iload_n 3, 1) := by decide +kernel
theorem dX12_knownBy_159 : decode cX12_knownBy 159 = .ok (.iload 6, 2) := by decide +kernel
theorem dX12_knownBy_161 : decode cX12_knownBy 161 = .ok (.invokevirtual 151, 3) := by decide +kernel
theorem dX12_knownBy_164 : decode cX12_knownBy 164 = .ok (.iload 4, 2) := by decide +kernel
theorem dX12_knownBy_166 : decode cX12_knownBy 166 = .ok (.iconst (-1), 1) := by decide +kernel
theorem dX12_knownBy_167 : decode cX12_knownBy 167 = .ok (.ixor, 1) := by decide +kernel
theorem dX12_knownBy_168 : decode cX12_knownBy 168 = .ok (.iand, 1) := by decide +kernel
theorem dX12_knownBy_169 : decode cX12_knownBy 169 = .ok (.ifCond .ne 7, 3) := by decide +kernel
theorem dX12_knownBy_176 : decode cX12_knownBy 176 = .ok (.iconst 0, 1) := by decide +kernel
theorem dX12_knownBy_177 : decode cX12_knownBy 177 = .ok (.istore 9, 2) := by decide +kernel
theorem dX12_knownBy_172 : decode cX12_knownBy 172 = .ok (.iconst 1, 1) := by decide +kernel
theorem dX12_knownBy_173 : decode cX12_knownBy 173 = .ok (.goto 4, 3) := by decide +kernel
theorem dX12_knownBy_130 : decode cX12_knownBy 130 = .ok (.iload 8, 2) := by decide +kernel
theorem dX12_knownBy_132 : decode cX12_knownBy 132 = .ok (.iload 4, 2) := by decide +kernel
theorem dX12_knownBy_134 : decode cX12_knownBy 134 = .ok (.iconst (-1), 1) := by decide +kernel
theorem dX12_knownBy_135 : decode cX12_knownBy 135 = .ok (.ixor, 1) := by decide +kernel
theorem dX12_knownBy_136 : decode cX12_knownBy 136 = .ok (.iand, 1) := by decide +kernel
theorem dX12_knownBy_137 : decode cX12_knownBy 137 = .ok (.ifCond .ne 7, 3) := by decide +kernel
theorem dX12_knownBy_144 : decode cX12_knownBy 144 = .ok (.iconst 0, 1) := by decide +kernel
theorem dX12_knownBy_145 : decode cX12_knownBy 145 = .ok (.istore 9, 2) := by decide +kernel
theorem dX12_knownBy_147 : decode cX12_knownBy 147 = .ok (.goto 32, 3) := by decide +kernel
theorem dX12_knownBy_140 : decode cX12_knownBy 140 = .ok (.iconst 1, 1) := by decide +kernel
theorem dX12_knownBy_141 : decode cX12_knownBy 141 = .ok (.goto 4, 3) := by decide +kernel
theorem dX12_knownBy_101 : decode cX12_knownBy 101 = .ok (.iload 7, 2) := by decide +kernel
theorem dX12_knownBy_103 : decode cX12_knownBy 103 = .ok (.ifCond .ne 11, 3) := by decide +kernel
theorem dX12_knownBy_114 : decode cX12_knownBy 114 = .ok (.iconst 1, 1) := by decide +kernel
theorem dX12_knownBy_115 : decode cX12_knownBy 115 = .ok (.goto 4, 3) := by decide +kernel
theorem dX12_knownBy_119 : decode cX12_knownBy 119 = .ok (.istore 9, 2) := by decide +kernel
theorem dX12_knownBy_121 : decode cX12_knownBy 121 = .ok (.goto 58, 3) := by decide +kernel
theorem dX12_knownBy_106 : decode cX12_knownBy 106 = .ok (.iload 8, 2) := by decide +kernel
theorem dX12_knownBy_108 : decode cX12_knownBy 108 = .ok (.iload 4, 2) := by decide +kernel
theorem dX12_knownBy_110 : decode cX12_knownBy 110 = .ok (.iand, 1) := by decide +kernel
theorem dX12_knownBy_111 : decode cX12_knownBy 111 = .ok (.ifCond .ne 7, 3) := by decide +kernel
theorem dX12_knownBy_118 : decode cX12_knownBy 118 = .ok (.iconst 0, 1) := by decide +kernel
theorem dX12_knownBy_32 : decode cX12_knownBy 32 = .ok (.iload_n 3, 1) := by decide +kernel
theorem dX12_knownBy_33 : decode cX12_knownBy 33 = .ok (.iload 9, 2) := by decide +kernel
theorem dX12_knownBy_35 : decode cX12_knownBy 35 = .ok (.ishr, 1) := by decide +kernel
theorem dX12_knownBy_36 : decode cX12_knownBy 36 = .ok (.iconst 1, 1) := by decide +kernel
theorem dX12_knownBy_37 : decode cX12_knownBy 37 = .ok (.iand, 1) := by decide +kernel
theorem dX12_knownBy_38 : decode cX12_knownBy 38 = .ok (.iconst 1, 1) := by decide +kernel
theorem dX12_knownBy_39 : decode cX12_knownBy 39 = .ok (.if_icmp .ne 46, 3) := by decide +kernel
theorem dX12_knownBy_85 : decode cX12_knownBy 85 = .ok (.iinc 9 1, 3) := by decide +kernel
theorem dX12_knownBy_88 : decode cX12_knownBy 88 = .ok (.goto (-62), 3) := by decide +kernel
theorem dX12_knownBy_42 : decode cX12_knownBy 42 = .ok (.iload 7, 2) := by decide +kernel
theorem dX12_knownBy_44 : decode cX12_knownBy 44 = .ok (.ifCond .eq 24, 3) := by decide +kernel
theorem dX12_knownBy_68 : decode cX12_knownBy 68 = .ok (.iconst 0, 1) := by decide +kernel
theorem dX12_knownBy_69 : decode cX12_knownBy 69 = .ok (.istore 7, 2) := by decide +kernel
theorem dX12_knownBy_71 : decode cX12_knownBy 71 = .ok (.iload 8, 2) := by decide +kernel
theorem dX12_knownBy_73 : decode cX12_knownBy 73 = .ok (.aload_n 0, 1) := by decide +kernel
theorem dX12_knownBy_74 : decode cX12_knownBy 74 = .ok (.iload_n 1, 1) := by decide +kernel
theorem dX12_knownBy_75 : decode cX12_knownBy 75 = .ok (.iload 9, 2) := by decide +kernel
theorem dX12_knownBy_77 : decode cX12_knownBy 77 = .ok (.iload 6, 2) := by decide +kernel
theorem dX12_knownBy_79 : decode cX12_knownBy 79 = .ok (.invokevirtual 135, 3) := by decide +kernel
theorem dX12_knownBy_82 : decode cX12_knownBy 82 = .ok (.iand, 1) := by decide +kernel
theorem dX12_knownBy_83 : decode cX12_knownBy 83 = .ok (.istore 8, 2) := by decide +kernel
theorem dX12_knownBy_47 : decode cX12_knownBy 47 = .ok (.aload_n 0, 1) := by decide +kernel
theorem dX12_knownBy_48 : decode cX12_knownBy 48 = .ok (.iload_n 1, 1) := by decide +kernel
theorem dX12_knownBy_49 : decode cX12_knownBy 49 = .ok (.iload 9, 2) := by decide +kernel
theorem dX12_knownBy_51 : decode cX12_knownBy 51 = .ok (.iload 6, 2) := by decide +kernel
theorem dX12_knownBy_53 : decode cX12_knownBy 53 = .ok (.invokevirtual 135, 3) := by decide +kernel
theorem dX12_knownBy_56 : decode cX12_knownBy 56 = .ok (.iload 4, 2) := by decide +kernel
theorem dX12_knownBy_58 : decode cX12_knownBy 58 = .ok (.iconst (-1), 1) := by decide +kernel
theorem dX12_knownBy_59 : decode cX12_knownBy 59 = .ok (.ixor, 1) := by decide +kernel
theorem dX12_knownBy_60 : decode cX12_knownBy 60 = .ok (.iand, 1) := by decide +kernel
theorem dX12_knownBy_61 : decode cX12_knownBy 61 = .ok (.ifCond .ne 7, 3) := by decide +kernel
theorem dX12_knownBy_64 : decode cX12_knownBy 64 = .ok (.iconst 1, 1) := by decide +kernel
theorem dX12_knownBy_65 : decode cX12_knownBy 65 = .ok (.goto 4, 3) := by decide +kernel
set_option maxRecDepth 100000 in
set_option maxHeartbeats 4000000 in
theorem r_knownBy (l : Launch) (E : EV) (ro : va_W) (hm : Nat) (pg : Nat) (act : Int32) (gr : Int32) (so : Int32) (m_manys : Nat) (m_reals : Nat) (m_factsOf : Nat) (m_possible : Nat) (q_undos : Nat) (q_models : Nat) (m_tape : Nat) (q_taped : Nat) (q_fault : Int32) (q_wrong : Int32) (q_wrongAt : Int32) (q_spot : Int32) (q_place : Int32) (q_token : Int32) (q_value : Int32) (m_ends : Nat) (m_letters : Nat) (m_actOf : Nat) (m_whom : Nat) (m_actMany : Nat) (m_tokens : Nat) (m_afters : Nat) (m_afterOf : Nat) (q_counted : Int32) (m_pile : Nat) (m_caseMany : Nat) (m_happen : Nat) (m_hasIf : Nat) (m_becomes : Nat) (m_goneOf : Nat) (m_heard : Nat) (m_pairs : Nat) (m_heaps : Nat) (q_rounds : Int32) (q_heapMany : Int32) (m_led : Nat) (m_newAt : Nat) (m_knowing : Nat) (m_firsts : Nat) (q_people : Nat) (m_secrets : Nat) (m_tried : Nat) (m_lanes : Nat) (m_lengths : Nat) (m_cells : Nat) (f_manys : Nat → Int32) (f_reals : Nat → Int32) (f_factsOf : Nat → Int32) (f_possible : Nat → Int32) (hb_manys : NB 18 24 f_manys) (hb_reals : NB 18 23 f_reals) (hpg : PG f_manys f_reals) (hwf : WFP (pgs f_manys f_reals f_factsOf f_possible)) (hpgl : pg < 18) (hk9 : act.toInt = 9 → ∃ k, k < 4 ∧ ∀ i, i < 4 → bt gr i = decide (i = k)) (hk12 : act.toInt = 12 → ∃ k, k < 4 ∧ bt gr k = true) : CT l yX12_knownBy (Cond.code yX12_knownBy cX12_knownBy 10 (some .int) :: TB) ({ frames := 2, cells := 0, slots := 0, locals := 50 }) E ro [.ref hm, .int (nI pg), .int act, .int gr, .int so] [(hm, .inr (12, [.ref m_manys, .ref m_reals, .ref m_factsOf, .ref m_possible, .int (nI q_undos), .int (nI q_models), .ref m_tape, .int (nI q_taped), .int q_fault, .int q_wrong, .int q_wrongAt, .int q_spot, .int q_place, .int q_token, .int q_value, .ref m_ends, .ref m_letters, .ref m_actOf, .ref m_whom, .ref m_actMany, .ref m_tokens, .ref m_afters, .ref m_afterOf, .int q_counted, .ref m_pile, .ref m_caseMany, .ref m_happen, .ref m_hasIf, .ref m_becomes, .ref m_goneOf, .ref m_heard, .ref m_pairs, .ref m_heaps, .int q_rounds, .int q_heapMany, .ref m_led, .ref m_newAt, .ref m_knowing, .ref m_firsts, .int (nI q_people), .ref m_secrets, .ref m_tried, .ref m_lanes, .ref m_lengths, .ref m_cells])), (m_manys, .inl (E.2.1 1, 18, .inl f_manys)), (m_reals, .inl (E.2.1 1, 18, .inl f_reals)), (m_factsOf, .inl (E.2.1 1, 432, .inl f_factsOf)), (m_possible, .inl (E.2.1 1, 1728, .inl f_possible))] (Qi E (fun (rz : Int32) uz => (uz = [(hm, .inr (12, [.ref m_manys, .ref m_reals, .ref m_factsOf, .ref m_possible, .int (nI q_undos), .int (nI q_models), .ref m_tape, .int (nI q_taped), .int q_fault, .int q_wrong, .int q_wrongAt, .int q_spot, .int q_place, .int q_token, .int q_value, .ref m_ends, .ref m_letters, .ref m_actOf, .ref m_whom, .ref m_actMany, .ref m_tokens, .ref m_afters, .ref m_afterOf, .int q_counted, .ref m_pile, .ref m_caseMany, .ref m_happen, .ref m_hasIf, .ref m_becomes, .ref m_goneOf, .ref m_heard, .ref m_pairs, .ref m_heaps, .int q_rounds, .int q_heapMany, .ref m_led, .ref m_newAt, .ref m_knowing, .ref m_firsts, .int (nI q_people), .ref m_secrets, .ref m_tried, .ref m_lanes, .ref m_lengths, .ref m_cells])), (m_manys, .inl (E.2.1 1, 18, .inl f_manys)), (m_reals, .inl (E.2.1 1, 18, .inl f_reals)), (m_factsOf, .inl (E.2.1 1, 432, .inl f_factsOf)), (m_possible, .inl (E.2.1 1, 1728, .inl f_possible))] ∧ (BS rz (evK act gr (pgs f_manys f_reals f_factsOf f_possible pg) (bt so)))))) 0 0 := by
  refine ct_of rfl rfl ?_
  intro X C hT hin hro
  show WW X 10 E 0 [(0, .ref hm), (1, .int (nI pg)), (2, .int act), (3, .int gr), (4, .int so)] [] [(hm, .inr (12, [.ref m_manys, .ref m_reals, .ref m_factsOf, .ref m_possible, .int (nI q_undos), .int (nI q_models), .ref m_tape, .int (nI q_taped), .int q_fault, .int q_wrong, .int q_wrongAt, .int q_spot, .int q_place, .int q_token, .int q_value, .ref m_ends, .ref m_letters, .ref m_actOf, .ref m_whom, .ref m_actMany, .ref m_tokens, .ref m_afters, .ref m_afterOf, .int q_counted, .ref m_pile, .ref m_caseMany, .ref m_happen, .ref m_hasIf, .ref m_becomes, .ref m_goneOf, .ref m_heard, .ref m_pairs, .ref m_heaps, .int q_rounds, .int q_heapMany, .ref m_led, .ref m_newAt, .ref m_knowing, .ref m_firsts, .int (nI q_people), .ref m_secrets, .ref m_tried, .ref m_lanes, .ref m_lengths, .ref m_cells])), (m_manys, .inl (E.2.1 1, 18, .inl f_manys)), (m_reals, .inl (E.2.1 1, 18, .inl f_reals)), (m_factsOf, .inl (E.2.1 1, 432, .inl f_factsOf)), (m_possible, .inl (E.2.1 1, 1728, .inl f_possible))] 0 0
  have hmn0 := (hb_manys 0 (by omega)).2
  have hmn := (hb_manys pg (by omega)).2
  refine ww_iconst (v := 0) C dX12_knownBy_0 rfl ?_
  refine ww_istore (lv' := [(5, .int 0), (0, .ref hm), (1, .int (nI pg)), (2, .int act), (3, .int gr), (4, .int so)]) C dX12_knownBy_1 rfl rfl ?_
  refine ww_iconst (v := 0) C dX12_knownBy_3 rfl ?_
  refine ww_istore (lv' := [(6, .int 0), (5, .int 0), (0, .ref hm), (1, .int (nI pg)), (2, .int act), (3, .int gr), (4, .int so)]) C dX12_knownBy_4 rfl rfl ?_
  have loop_6 : ∀ (fu : Nat) (i1 : Nat) (ac : Int32), (i1 ≤ cN f_manys pg) → (AC ac no_ i1 (KB act gr (pgs f_manys f_reals f_factsOf f_possible pg) (bt so))) → cN f_manys pg - i1 < fu → WW X 10 E 6 [(6, .int (nI i1)), (5, .int ac), (0, .ref hm), (1, .int (nI pg)), (2, .int act), (3, .int gr), (4, .int so)] [] [(hm, .inr (12, [.ref m_manys, .ref m_reals, .ref m_factsOf, .ref m_possible, .int (nI q_undos), .int (nI q_models), .ref m_tape, .int (nI q_taped), .int q_fault, .int q_wrong, .int q_wrongAt, .int q_spot, .int q_place, .int q_token, .int q_value, .ref m_ends, .ref m_letters, .ref m_actOf, .ref m_whom, .ref m_actMany, .ref m_tokens, .ref m_afters, .ref m_afterOf, .int q_counted, .ref m_pile, .ref m_caseMany, .ref m_happen, .ref m_hasIf, .ref m_becomes, .ref m_goneOf, .ref m_heard, .ref m_pairs, .ref m_heaps, .int q_rounds, .int q_heapMany, .ref m_led, .ref m_newAt, .ref m_knowing, .ref m_firsts, .int (nI q_people), .ref m_secrets, .ref m_tried, .ref m_lanes, .ref m_lengths, .ref m_cells])), (m_manys, .inl (E.2.1 1, 18, .inl f_manys)), (m_reals, .inl (E.2.1 1, 18, .inl f_reals)), (m_factsOf, .inl (E.2.1 1, 432, .inl f_factsOf)), (m_possible, .inl (E.2.1 1, 1728, .inl f_possible))] 0 0 := by
    intro fu
    induction fu with
    | zero => intro i1 ac hi1 hac hmeas; exact absurd hmeas (Nat.not_lt_zero _)
    | succ fu ih_6 =>
      intro i1 ac hi1 hac hmeas
      refine ww_iload C dX12_knownBy_6 0 rfl ?_
      refine ww_aload_n C dX12_knownBy_8 2 rfl rfl ?_
      refine ww_get C fg_X12_7 0 rfl rfl dX12_knownBy_9 ?_
      refine ww_iload_n C dX12_knownBy_12 3 rfl rfl ?_
      have hbx_1 := (hb_manys pg (by omega)).2
      refine ww_iald (v := (nI (cN f_manys pg))) C 1 rfl (vp_in_nI (by omega) (by omega)) (ldn (by omega) (hb_manys pg (by omega)).1) dX12_knownBy_13 ?_
      refine ww_icmp_ge (tgt := 203) C dX12_knownBy_14 (by decide) (fun c_2 => ?_) (fun c_2 => ?_)
      · have zc_2 : ((i1 : Nat) : Int) ≥ ((cN f_manys pg : Nat) : Int) := i_le (nI_toInt (n := cN f_manys pg) (by omega)) (nI_toInt (n := i1) (by omega)) c_2
        refine ww_iload C dX12_knownBy_203 1 rfl ?_
        exact ww_iret (u := [(hm, .inr (12, [.ref m_manys, .ref m_reals, .ref m_factsOf, .ref m_possible, .int (nI q_undos), .int (nI q_models), .ref m_tape, .int (nI q_taped), .int q_fault, .int q_wrong, .int q_wrongAt, .int q_spot, .int q_place, .int q_token, .int q_value, .ref m_ends, .ref m_letters, .ref m_actOf, .ref m_whom, .ref m_actMany, .ref m_tokens, .ref m_afters, .ref m_afterOf, .int q_counted, .ref m_pile, .ref m_caseMany, .ref m_happen, .ref m_hasIf, .ref m_becomes, .ref m_goneOf, .ref m_heard, .ref m_pairs, .ref m_heaps, .int q_rounds, .int q_heapMany, .ref m_led, .ref m_newAt, .ref m_knowing, .ref m_firsts, .int (nI q_people), .ref m_secrets, .ref m_tried, .ref m_lanes, .ref m_lengths, .ref m_cells])), (m_manys, .inl (E.2.1 1, 18, .inl f_manys)), (m_reals, .inl (E.2.1 1, 18, .inl f_reals)), (m_factsOf, .inl (E.2.1 1, 432, .inl f_factsOf)), (m_possible, .inl (E.2.1 1, 1728, .inl f_possible))]) C hT [0, 1, 2, 3, 4] rfl rfl rfl rfl dX12_knownBy_205 (⟨rfl, (AC.fin hac (show i1 = cN f_manys pg by omega))⟩)
      · have zc_2 : ((i1 : Nat) : Int) < ((cN f_manys pg : Nat) : Int) := i_nle (nI_toInt (n := cN f_manys pg) (by omega)) (nI_toInt (n := i1) (by omega)) c_2
        refine ww_iconst (v := 1) C dX12_knownBy_17 rfl ?_
        refine ww_istore (lv' := [(7, .int 1), (6, .int (nI i1)), (5, .int ac), (0, .ref hm), (1, .int (nI pg)), (2, .int act), (3, .int gr), (4, .int so)]) C dX12_knownBy_18 rfl rfl ?_
        refine ww_iconst (v := (-1)) C dX12_knownBy_20 rfl ?_
        refine ww_istore (lv' := [(8, .int (-1)), (7, .int 1), (6, .int (nI i1)), (5, .int ac), (0, .ref hm), (1, .int (nI pg)), (2, .int act), (3, .int gr), (4, .int so)]) C dX12_knownBy_21 rfl rfl ?_
        refine ww_iconst (v := 0) C dX12_knownBy_23 rfl ?_
        refine ww_istore (lv' := [(9, .int 0), (8, .int (-1)), (7, .int 1), (6, .int (nI i1)), (5, .int ac), (0, .ref hm), (1, .int (nI pg)), (2, .int act), (3, .int gr), (4, .int so)]) C dX12_knownBy_24 rfl rfl ?_
        have loop_26 : ∀ (fu : Nat) (k2 : Nat) (al : Nat) (bo : Int32), (k2 ≤ 4) → (al ≤ 1) → (decide (al = 1) = KAb (pgs f_manys f_reals f_factsOf f_possible pg) gr (bt so) i1 k2) → (BS bo (KBo (pgs f_manys f_reals f_factsOf f_possible pg) gr i1 k2)) → 4 - k2 < fu → WW X 10 E 26 [(9, .int (nI k2)), (8, .int bo), (7, .int (nI al)), (6, .int (nI i1)), (5, .int ac), (0, .ref hm), (1, .int (nI pg)), (2, .int act), (3, .int gr), (4, .int so)] [] [(hm, .inr (12, [.ref m_manys, .ref m_reals, .ref m_factsOf, .ref m_possible, .int (nI q_undos), .int (nI q_models), .ref m_tape, .int (nI q_taped), .int q_fault, .int q_wrong, .int q_wrongAt, .int q_spot, .int q_place, .int q_token, .int q_value, .ref m_ends, .ref m_letters, .ref m_actOf, .ref m_whom, .ref m_actMany, .ref m_tokens, .ref m_afters, .ref m_afterOf, .int q_counted, .ref m_pile, .ref m_caseMany, .ref m_happen, .ref m_hasIf, .ref m_becomes, .ref m_goneOf, .ref m_heard, .ref m_pairs, .ref m_heaps, .int q_rounds, .int q_heapMany, .ref m_led, .ref m_newAt, .ref m_knowing, .ref m_firsts, .int (nI q_people), .ref m_secrets, .ref m_tried, .ref m_lanes, .ref m_lengths, .ref m_cells])), (m_manys, .inl (E.2.1 1, 18, .inl f_manys)), (m_reals, .inl (E.2.1 1, 18, .inl f_reals)), (m_factsOf, .inl (E.2.1 1, 432, .inl f_factsOf)), (m_possible, .inl (E.2.1 1, 1728, .inl f_possible))] 0 0 := by
          intro fu
          induction fu with
          | zero => intro k2 al bo hk2 hal hka hbo hmeas; exact absurd hmeas (Nat.not_lt_zero _)
          | succ fu ih_26 =>
            intro k2 al bo hk2 hal hka hbo hmeas
            refine ww_iload C dX12_knownBy_26 0 rfl ?_
            refine ww_iconst (v := 4) C dX12_knownBy_28 rfl ?_
            refine ww_icmp_ge (tgt := 91) C dX12_knownBy_29 (by decide) (fun c_3 => ?_) (fun c_3 => ?_)
            · have zc_3 : ((k2 : Nat) : Int) ≥ 4 := i_le rfl (nI_toInt (n := k2) (by omega)) c_3
              refine ww_iload C dX12_knownBy_91 2 rfl ?_
              refine ww_istore (lv' := [(9, .int (nI al)), (8, .int bo), (7, .int (nI al)), (6, .int (nI i1)), (5, .int ac), (0, .ref hm), (1, .int (nI pg)), (2, .int act), (3, .int gr), (4, .int so)]) C dX12_knownBy_93 rfl rfl ?_
              refine ww_iload_n C dX12_knownBy_95 7 rfl rfl ?_
              refine ww_bipush (v := 9) C dX12_knownBy_96 rfl ?_
              refine ww_icmp_ne (tgt := 124) C dX12_knownBy_98 (by decide) (fun c_4 => ?_) (fun c_4 => ?_)
              · have zc_4 : act.toInt ≠ 9 := i_ne rfl rfl c_4
                refine ww_iload_n C dX12_knownBy_124 7 rfl rfl ?_
                refine ww_bipush (v := 12) C dX12_knownBy_125 rfl ?_
                refine ww_icmp_ne (tgt := 150) C dX12_knownBy_127 (by decide) (fun c_5 => ?_) (fun c_5 => ?_)
                · have zc_5 : act.toInt ≠ 12 := i_ne rfl rfl c_5
                  refine ww_iload_n C dX12_knownBy_150 7 rfl rfl ?_
                  refine ww_bipush (v := 11) C dX12_knownBy_151 rfl ?_
                  refine ww_icmp_ne (tgt := 179) C dX12_knownBy_153 (by decide) (fun c_6 => ?_) (fun c_6 => ?_)
                  · have zc_6 : act.toInt ≠ 11 := i_ne rfl rfl c_6
                    refine ww_iload C dX12_knownBy_179 4 rfl ?_
                    refine ww_iload C dX12_knownBy_181 0 rfl ?_
                    refine ww_if_eq (tgt := 193) C dX12_knownBy_183 (by decide) (fun c_7 => ?_) (fun c_7 => ?_)
                    · have zc_7 : ((al : Nat) : Int) = 0 := i_eq (nI_toInt (n := al) (by omega)) rfl c_7
                      refine ww_iconst (v := 0) C dX12_knownBy_193 rfl ?_
                      obtain ⟨x_8, ex_8⟩ : ∃ z : Int32, ac ||| (0 : Int32) = z := ⟨_, rfl⟩
                      refine ww_ior (v := x_8) C dX12_knownBy_194 ex_8 ?_
                      refine ww_istore (lv' := [(5, .int x_8), (9, .int (nI al)), (8, .int bo), (7, .int (nI al)), (6, .int (nI i1)), (0, .ref hm), (1, .int (nI pg)), (2, .int act), (3, .int gr), (4, .int so)]) C dX12_knownBy_195 rfl rfl ?_
                      refine ww_iinc (j := 4) (v := (nI (i1 + 1))) (lv' := [(6, .int (nI (i1 + 1))), (5, .int x_8), (9, .int (nI al)), (8, .int bo), (7, .int (nI al)), (0, .ref hm), (1, .int (nI pg)), (2, .int act), (3, .int gr), (4, .int so)]) C dX12_knownBy_197 rfl (nI_add i1 1) rfl rfl ?_
                      refine ww_goto (tgt := 6) C dX12_knownBy_200 (by decide) ?_
                      exact ww_lv [0, 1, 5, 6, 7, 8, 9] rfl (ww_sub [0, 1, 2, 3, 4] rfl rfl (ih_6 (i1 + 1) x_8 (by omega) (by first | exact AC.t hac (by omega) (by first | exact kb_o (by assumption) (by assumption) (by assumption) (by have h9 : k2 = 4 := (by omega); rw [h9] at hka; exact hka) (decide_eq_true (by omega)) | exact kb_11 (by assumption) hbo (by assumption) (by assumption) (decide_eq_true (by first | exact i_z (by assumption) | exact i_nz (by assumption))) | exact kb_12 (by assumption) (hwf pg (by omega)) (hk12 (by assumption)) (by have h9 : k2 = 4 := (by omega); rw [h9] at hbo; exact hbo) (by assumption) (by assumption) (decide_eq_true (by first | exact i_z (by assumption) | exact i_nz (by assumption))) | exact kb_9 (by assumption) (by have h9 : k2 = 4 := (by omega); rw [h9] at hka; exact hka) (by omega) (hk9 (by assumption)) (by have h9 : k2 = 4 := (by omega); rw [h9] at hbo; exact hbo) (by assumption) (decide_eq_true (by first | exact i_z (by assumption) | exact i_nz (by assumption))) | exact kb_9a (by assumption) (by have h9 : k2 = 4 := (by omega); rw [h9] at hka; exact hka) (by omega)) (by assumption) (by assumption) | exact AC.z hac (by first | exact kb_o (by assumption) (by assumption) (by assumption) (by have h9 : k2 = 4 := (by omega); rw [h9] at hka; exact hka) (decide_eq_false (by omega)) | exact kb_11 (by assumption) hbo (by assumption) (by assumption) (decide_eq_false (by first | exact i_z (by assumption) | exact i_nz (by assumption))) | exact kb_12 (by assumption) (hwf pg (by omega)) (hk12 (by assumption)) (by have h9 : k2 = 4 := (by omega); rw [h9] at hbo; exact hbo) (by assumption) (by assumption) (decide_eq_false (by first | exact i_z (by assumption) | exact i_nz (by assumption))) | exact kb_9 (by assumption) (by have h9 : k2 = 4 := (by omega); rw [h9] at hka; exact hka) (by omega) (hk9 (by assumption)) (by have h9 : k2 = 4 := (by omega); rw [h9] at hbo; exact hbo) (by assumption) (decide_eq_false (by first | exact i_z (by assumption) | exact i_nz (by assumption)))) (by assumption)) (by omega)))
                    · have zc_7 : ((al : Nat) : Int) ≠ 0 := i_ne (nI_toInt (n := al) (by omega)) rfl c_7
                      refine ww_iconst (v := 1) C dX12_knownBy_186 rfl ?_
                      refine ww_iload C dX12_knownBy_187 3 rfl ?_
                      obtain ⟨x_9, ex_9⟩ : ∃ z : Int32, (1 : Int32) <<< ((nI i1) &&& 31) = z := ⟨_, rfl⟩
                      refine ww_ishl (v := x_9) C dX12_knownBy_189 ex_9 ?_
                      refine ww_goto (tgt := 194) C dX12_knownBy_190 (by decide) ?_
                      obtain ⟨x_10, ex_10⟩ : ∃ z : Int32, ac ||| x_9 = z := ⟨_, rfl⟩
                      refine ww_ior (v := x_10) C dX12_knownBy_194 ex_10 ?_
                      refine ww_istore (lv' := [(5, .int x_10), (9, .int (nI al)), (8, .int bo), (7, .int (nI al)), (6, .int (nI i1)), (0, .ref hm), (1, .int (nI pg)), (2, .int act), (3, .int gr), (4, .int so)]) C dX12_knownBy_195 rfl rfl ?_
                      refine ww_iinc (j := 4) (v := (nI (i1 + 1))) (lv' := [(6, .int (nI (i1 + 1))), (5, .int x_10), (9, .int (nI al)), (8, .int bo), (7, .int (nI al)), (0, .ref hm), (1, .int (nI pg)), (2, .int act), (3, .int gr), (4, .int so)]) C dX12_knownBy_197 rfl (nI_add i1 1) rfl rfl ?_
                      refine ww_goto (tgt := 6) C dX12_knownBy_200 (by decide) ?_
                      exact ww_lv [0, 1, 5, 6, 7, 8, 9] rfl (ww_sub [0, 1, 2, 3, 4] rfl rfl (ih_6 (i1 + 1) x_10 (by omega) (by first | exact AC.t hac (by omega) (by first | exact kb_o (by assumption) (by assumption) (by assumption) (by have h9 : k2 = 4 := (by omega); rw [h9] at hka; exact hka) (decide_eq_true (by omega)) | exact kb_11 (by assumption) hbo (by assumption) (by assumption) (decide_eq_true (by first | exact i_z (by assumption) | exact i_nz (by assumption))) | exact kb_12 (by assumption) (hwf pg (by omega)) (hk12 (by assumption)) (by have h9 : k2 = 4 := (by omega); rw [h9] at hbo; exact hbo) (by assumption) (by assumption) (decide_eq_true (by first | exact i_z (by assumption) | exact i_nz (by assumption))) | exact kb_9 (by assumption) (by have h9 : k2 = 4 := (by omega); rw [h9] at hka; exact hka) (by omega) (hk9 (by assumption)) (by have h9 : k2 = 4 := (by omega); rw [h9] at hbo; exact hbo) (by assumption) (decide_eq_true (by first | exact i_z (by assumption) | exact i_nz (by assumption))) | exact kb_9a (by assumption) (by have h9 : k2 = 4 := (by omega); rw [h9] at hka; exact hka) (by omega)) (by assumption) (by assumption) | exact AC.z hac (by first | exact kb_o (by assumption) (by assumption) (by assumption) (by have h9 : k2 = 4 := (by omega); rw [h9] at hka; exact hka) (decide_eq_false (by omega)) | exact kb_11 (by assumption) hbo (by assumption) (by assumption) (decide_eq_false (by first | exact i_z (by assumption) | exact i_nz (by assumption))) | exact kb_12 (by assumption) (hwf pg (by omega)) (hk12 (by assumption)) (by have h9 : k2 = 4 := (by omega); rw [h9] at hbo; exact hbo) (by assumption) (by assumption) (decide_eq_false (by first | exact i_z (by assumption) | exact i_nz (by assumption))) | exact kb_9 (by assumption) (by have h9 : k2 = 4 := (by omega); rw [h9] at hka; exact hka) (by omega) (hk9 (by assumption)) (by have h9 : k2 = 4 := (by omega); rw [h9] at hbo; exact hbo) (by assumption) (decide_eq_false (by first | exact i_z (by assumption) | exact i_nz (by assumption)))) (by assumption)) (by omega)))
                  · have zc_6 : act.toInt = 11 := i_eq rfl rfl c_6
                    refine ww_aload_n C dX12_knownBy_156 5 rfl rfl ?_
                    refine ww_iload_n C dX12_knownBy_157 6 rfl rfl ?_
                    refine ww_iload_n C dX12_knownBy_158 8 rfl rfl ?_
                    refine ww_iload C dX12_knownBy_159 3 rfl ?_
                    refine ww_ci (wr := []) (k' := 0) (n' := 0) C (run_V (As := [.int (nI pg), .int gr, .int (nI i1)]) (rest := []) C (r_reached X.2.1 E ro hm pg gr i1 m_manys m_reals m_factsOf m_possible q_undos q_models m_tape q_taped q_fault q_wrong q_wrongAt q_spot q_place q_token q_value m_ends m_letters m_actOf m_whom m_actMany m_tokens m_afters m_afterOf q_counted m_pile m_caseMany m_happen m_hasIf m_becomes m_goneOf m_heard m_pairs m_heaps q_rounds q_heapMany m_led m_newAt m_knowing m_firsts q_people m_secrets m_tried m_lanes m_lengths m_cells f_manys f_reals f_factsOf f_possible hb_manys hb_reals hpg hwf (by omega) (by omega)) mi_X12_reached wl_X12_151 rfl 0 12 rfl rfl rfl rfl rfl dX12_knownBy_161) (roK hro) [0, 1, 2, 3, 4] [] rfl rfl rfl rfl (fun r_11 uz hw => ?_)
                    refine an1 hw ?_
                    clear hw
                    intro he_13 hw
                    have h_12 := hw
                    clear hw
                    subst he_13
                    refine ww_eq (ws' := [(hm, .inr (12, [.ref m_manys, .ref m_reals, .ref m_factsOf, .ref m_possible, .int (nI q_undos), .int (nI q_models), .ref m_tape, .int (nI q_taped), .int q_fault, .int q_wrong, .int q_wrongAt, .int q_spot, .int q_place, .int q_token, .int q_value, .ref m_ends, .ref m_letters, .ref m_actOf, .ref m_whom, .ref m_actMany, .ref m_tokens, .ref m_afters, .ref m_afterOf, .int q_counted, .ref m_pile, .ref m_caseMany, .ref m_happen, .ref m_hasIf, .ref m_becomes, .ref m_goneOf, .ref m_heard, .ref m_pairs, .ref m_heaps, .int q_rounds, .int q_heapMany, .ref m_led, .ref m_newAt, .ref m_knowing, .ref m_firsts, .int (nI q_people), .ref m_secrets, .ref m_tried, .ref m_lanes, .ref m_lengths, .ref m_cells])), (m_manys, .inl (E.2.1 1, 18, .inl f_manys)), (m_reals, .inl (E.2.1 1, 18, .inl f_reals)), (m_factsOf, .inl (E.2.1 1, 432, .inl f_factsOf)), (m_possible, .inl (E.2.1 1, 1728, .inl f_possible))]) ?_ rfl rfl rfl
                    refine ww_iload C dX12_knownBy_164 9 rfl ?_
                    refine ww_iconst (v := (-1)) C dX12_knownBy_166 rfl ?_
                    obtain ⟨x_14, ex_14⟩ : ∃ z : Int32, so ^^^ ((-1) : Int32) = z := ⟨_, rfl⟩
                    refine ww_ixor (v := x_14) C dX12_knownBy_167 ex_14 ?_
                    obtain ⟨x_15, ex_15⟩ : ∃ z : Int32, r_11 &&& x_14 = z := ⟨_, rfl⟩
                    refine ww_iand (v := x_15) C dX12_knownBy_168 ex_15 ?_
                    refine ww_if_ne (tgt := 176) C dX12_knownBy_169 (by decide) (fun c_16 => ?_) (fun c_16 => ?_)
                    · have zc_16 : x_15.toInt ≠ 0 := i_ne rfl rfl c_16
                      refine ww_iconst (v := 0) C dX12_knownBy_176 rfl ?_
                      refine ww_istore (lv' := [(9, .int 0), (8, .int bo), (7, .int (nI al)), (6, .int (nI i1)), (5, .int ac), (0, .ref hm), (1, .int (nI pg)), (2, .int act), (3, .int gr), (4, .int so)]) C dX12_knownBy_177 rfl rfl ?_
                      refine ww_iload C dX12_knownBy_179 4 rfl ?_
                      refine ww_iload C dX12_knownBy_181 0 rfl ?_
                      refine ww_if_eq_t (tgt := 193) C dX12_knownBy_183 (by decide) (rfl) ?_
                      refine ww_iconst (v := 0) C dX12_knownBy_193 rfl ?_
                      obtain ⟨x_17, ex_17⟩ : ∃ z : Int32, ac ||| (0 : Int32) = z := ⟨_, rfl⟩
                      refine ww_ior (v := x_17) C dX12_knownBy_194 ex_17 ?_
                      refine ww_istore (lv' := [(5, .int x_17), (9, .int 0), (8, .int bo), (7, .int (nI al)), (6, .int (nI i1)), (0, .ref hm), (1, .int (nI pg)), (2, .int act), (3, .int gr), (4, .int so)]) C dX12_knownBy_195 rfl rfl ?_
                      refine ww_iinc (j := 4) (v := (nI (i1 + 1))) (lv' := [(6, .int (nI (i1 + 1))), (5, .int x_17), (9, .int 0), (8, .int bo), (7, .int (nI al)), (0, .ref hm), (1, .int (nI pg)), (2, .int act), (3, .int gr), (4, .int so)]) C dX12_knownBy_197 rfl (nI_add i1 1) rfl rfl ?_
                      refine ww_goto (tgt := 6) C dX12_knownBy_200 (by decide) ?_
                      exact ww_lv [0, 1, 5, 6, 7, 8, 9] rfl (ww_sub [0, 1, 2, 3, 4] rfl rfl (ih_6 (i1 + 1) x_17 (by omega) (by first | exact AC.t hac (by omega) (by first | exact kb_o (by assumption) (by assumption) (by assumption) (by have h9 : k2 = 4 := (by omega); rw [h9] at hka; exact hka) (decide_eq_true (by omega)) | exact kb_11 (by assumption) h_12 (by assumption) (by assumption) (decide_eq_true (by first | exact i_z (by assumption) | exact i_nz (by assumption))) | exact kb_12 (by assumption) (hwf pg (by omega)) (hk12 (by assumption)) (by have h9 : k2 = 4 := (by omega); rw [h9] at hbo; exact hbo) (by assumption) (by assumption) (decide_eq_true (by first | exact i_z (by assumption) | exact i_nz (by assumption))) | exact kb_9 (by assumption) (by have h9 : k2 = 4 := (by omega); rw [h9] at hka; exact hka) (by omega) (hk9 (by assumption)) (by have h9 : k2 = 4 := (by omega); rw [h9] at hbo; exact hbo) (by assumption) (decide_eq_true (by first | exact i_z (by assumption) | exact i_nz (by assumption))) | exact kb_9a (by assumption) (by have h9 : k2 = 4 := (by omega); rw [h9] at hka; exact hka) (by omega)) (by assumption) (by assumption) | exact AC.z hac (by first | exact kb_o (by assumption) (by assumption) (by assumption) (by have h9 : k2 = 4 := (by omega); rw [h9] at hka; exact hka) (decide_eq_false (by omega)) | exact kb_11 (by assumption) h_12 (by assumption) (by assumption) (decide_eq_false (by first | exact i_z (by assumption) | exact i_nz (by assumption))) | exact kb_12 (by assumption) (hwf pg (by omega)) (hk12 (by assumption)) (by have h9 : k2 = 4 := (by omega); rw [h9] at hbo; exact hbo) (by assumption) (by assumption) (decide_eq_false (by first | exact i_z (by assumption) | exact i_nz (by assumption))) | exact kb_9 (by assumption) (by have h9 : k2 = 4 := (by omega); rw [h9] at hka; exact hka) (by omega) (hk9 (by assumption)) (by have h9 : k2 = 4 := (by omega); rw [h9] at hbo; exact hbo) (by assumption) (decide_eq_false (by first | exact i_z (by assumption) | exact i_nz (by assumption)))) (by assumption)) (by omega)))
                    · have zc_16 : x_15.toInt = 0 := i_eq rfl rfl c_16
                      refine ww_iconst (v := 1) C dX12_knownBy_172 rfl ?_
                      refine ww_goto (tgt := 177) C dX12_knownBy_173 (by decide) ?_
                      refine ww_istore (lv' := [(9, .int 1), (8, .int bo), (7, .int (nI al)), (6, .int (nI i1)), (5, .int ac), (0, .ref hm), (1, .int (nI pg)), (2, .int act), (3, .int gr), (4, .int so)]) C dX12_knownBy_177 rfl rfl ?_
                      refine ww_iload C dX12_knownBy_179 4 rfl ?_
                      refine ww_iload C dX12_knownBy_181 0 rfl ?_
                      refine ww_if_eq_f (tgt := 193) C dX12_knownBy_183 (by decide) (by decide) ?_
                      refine ww_iconst (v := 1) C dX12_knownBy_186 rfl ?_
                      refine ww_iload C dX12_knownBy_187 3 rfl ?_
                      obtain ⟨x_18, ex_18⟩ : ∃ z : Int32, (1 : Int32) <<< ((nI i1) &&& 31) = z := ⟨_, rfl⟩
                      refine ww_ishl (v := x_18) C dX12_knownBy_189 ex_18 ?_
                      refine ww_goto (tgt := 194) C dX12_knownBy_190 (by decide) ?_
                      obtain ⟨x_19, ex_19⟩ : ∃ z : Int32, ac ||| x_18 = z := ⟨_, rfl⟩
                      refine ww_ior (v := x_19) C dX12_knownBy_194 ex_19 ?_
                      refine ww_istore (lv' := [(5, .int x_19), (9, .int 1), (8, .int bo), (7, .int (nI al)), (6, .int (nI i1)), (0, .ref hm), (1, .int (nI pg)), (2, .int act), (3, .int gr), (4, .int so)]) C dX12_knownBy_195 rfl rfl ?_
                      refine ww_iinc (j := 4) (v := (nI (i1 + 1))) (lv' := [(6, .int (nI (i1 + 1))), (5, .int x_19), (9, .int 1), (8, .int bo), (7, .int (nI al)), (0, .ref hm), (1, .int (nI pg)), (2, .int act), (3, .int gr), (4, .int so)]) C dX12_knownBy_197 rfl (nI_add i1 1) rfl rfl ?_
                      refine ww_goto (tgt := 6) C dX12_knownBy_200 (by decide) ?_
                      exact ww_lv [0, 1, 5, 6, 7, 8, 9] rfl (ww_sub [0, 1, 2, 3, 4] rfl rfl (ih_6 (i1 + 1) x_19 (by omega) (by first | exact AC.t hac (by omega) (by first | exact kb_o (by assumption) (by assumption) (by assumption) (by have h9 : k2 = 4 := (by omega); rw [h9] at hka; exact hka) (decide_eq_true (by omega)) | exact kb_11 (by assumption) h_12 (by assumption) (by assumption) (decide_eq_true (by first | exact i_z (by assumption) | exact i_nz (by assumption))) | exact kb_12 (by assumption) (hwf pg (by omega)) (hk12 (by assumption)) (by have h9 : k2 = 4 := (by omega); rw [h9] at hbo; exact hbo) (by assumption) (by assumption) (decide_eq_true (by first | exact i_z (by assumption) | exact i_nz (by assumption))) | exact kb_9 (by assumption) (by have h9 : k2 = 4 := (by omega); rw [h9] at hka; exact hka) (by omega) (hk9 (by assumption)) (by have h9 : k2 = 4 := (by omega); rw [h9] at hbo; exact hbo) (by assumption) (decide_eq_true (by first | exact i_z (by assumption) | exact i_nz (by assumption))) | exact kb_9a (by assumption) (by have h9 : k2 = 4 := (by omega); rw [h9] at hka; exact hka) (by omega)) (by assumption) (by assumption) | exact AC.z hac (by first | exact kb_o (by assumption) (by assumption) (by assumption) (by have h9 : k2 = 4 := (by omega); rw [h9] at hka; exact hka) (decide_eq_false (by omega)) | exact kb_11 (by assumption) h_12 (by assumption) (by assumption) (decide_eq_false (by first | exact i_z (by assumption) | exact i_nz (by assumption))) | exact kb_12 (by assumption) (hwf pg (by omega)) (hk12 (by assumption)) (by have h9 : k2 = 4 := (by omega); rw [h9] at hbo; exact hbo) (by assumption) (by assumption) (decide_eq_false (by first | exact i_z (by assumption) | exact i_nz (by assumption))) | exact kb_9 (by assumption) (by have h9 : k2 = 4 := (by omega); rw [h9] at hka; exact hka) (by omega) (hk9 (by assumption)) (by have h9 : k2 = 4 := (by omega); rw [h9] at hbo; exact hbo) (by assumption) (decide_eq_false (by first | exact i_z (by assumption) | exact i_nz (by assumption)))) (by assumption)) (by omega)))
                · have zc_5 : act.toInt = 12 := i_eq rfl rfl c_5
                  refine ww_iload C dX12_knownBy_130 1 rfl ?_
                  refine ww_iload C dX12_knownBy_132 9 rfl ?_
                  refine ww_iconst (v := (-1)) C dX12_knownBy_134 rfl ?_
                  obtain ⟨x_20, ex_20⟩ : ∃ z : Int32, so ^^^ ((-1) : Int32) = z := ⟨_, rfl⟩
                  refine ww_ixor (v := x_20) C dX12_knownBy_135 ex_20 ?_
                  obtain ⟨x_21, ex_21⟩ : ∃ z : Int32, bo &&& x_20 = z := ⟨_, rfl⟩
                  refine ww_iand (v := x_21) C dX12_knownBy_136 ex_21 ?_
                  refine ww_if_ne (tgt := 144) C dX12_knownBy_137 (by decide) (fun c_22 => ?_) (fun c_22 => ?_)
                  · have zc_22 : x_21.toInt ≠ 0 := i_ne rfl rfl c_22
                    refine ww_iconst (v := 0) C dX12_knownBy_144 rfl ?_
                    refine ww_istore (lv' := [(9, .int 0), (8, .int bo), (7, .int (nI al)), (6, .int (nI i1)), (5, .int ac), (0, .ref hm), (1, .int (nI pg)), (2, .int act), (3, .int gr), (4, .int so)]) C dX12_knownBy_145 rfl rfl ?_
                    refine ww_goto (tgt := 179) C dX12_knownBy_147 (by decide) ?_
                    refine ww_iload C dX12_knownBy_179 4 rfl ?_
                    refine ww_iload C dX12_knownBy_181 0 rfl ?_
                    refine ww_if_eq_t (tgt := 193) C dX12_knownBy_183 (by decide) (rfl) ?_
                    refine ww_iconst (v := 0) C dX12_knownBy_193 rfl ?_
                    obtain ⟨x_23, ex_23⟩ : ∃ z : Int32, ac ||| (0 : Int32) = z := ⟨_, rfl⟩
                    refine ww_ior (v := x_23) C dX12_knownBy_194 ex_23 ?_
                    refine ww_istore (lv' := [(5, .int x_23), (9, .int 0), (8, .int bo), (7, .int (nI al)), (6, .int (nI i1)), (0, .ref hm), (1, .int (nI pg)), (2, .int act), (3, .int gr), (4, .int so)]) C dX12_knownBy_195 rfl rfl ?_
                    refine ww_iinc (j := 4) (v := (nI (i1 + 1))) (lv' := [(6, .int (nI (i1 + 1))), (5, .int x_23), (9, .int 0), (8, .int bo), (7, .int (nI al)), (0, .ref hm), (1, .int (nI pg)), (2, .int act), (3, .int gr), (4, .int so)]) C dX12_knownBy_197 rfl (nI_add i1 1) rfl rfl ?_
                    refine ww_goto (tgt := 6) C dX12_knownBy_200 (by decide) ?_
                    exact ww_lv [0, 1, 5, 6, 7, 8, 9] rfl (ww_sub [0, 1, 2, 3, 4] rfl rfl (ih_6 (i1 + 1) x_23 (by omega) (by first | exact AC.t hac (by omega) (by first | exact kb_o (by assumption) (by assumption) (by assumption) (by have h9 : k2 = 4 := (by omega); rw [h9] at hka; exact hka) (decide_eq_true (by omega)) | exact kb_11 (by assumption) hbo (by assumption) (by assumption) (decide_eq_true (by first | exact i_z (by assumption) | exact i_nz (by assumption))) | exact kb_12 (by assumption) (hwf pg (by omega)) (hk12 (by assumption)) (by have h9 : k2 = 4 := (by omega); rw [h9] at hbo; exact hbo) (by assumption) (by assumption) (decide_eq_true (by first | exact i_z (by assumption) | exact i_nz (by assumption))) | exact kb_9 (by assumption) (by have h9 : k2 = 4 := (by omega); rw [h9] at hka; exact hka) (by omega) (hk9 (by assumption)) (by have h9 : k2 = 4 := (by omega); rw [h9] at hbo; exact hbo) (by assumption) (decide_eq_true (by first | exact i_z (by assumption) | exact i_nz (by assumption))) | exact kb_9a (by assumption) (by have h9 : k2 = 4 := (by omega); rw [h9] at hka; exact hka) (by omega)) (by assumption) (by assumption) | exact AC.z hac (by first | exact kb_o (by assumption) (by assumption) (by assumption) (by have h9 : k2 = 4 := (by omega); rw [h9] at hka; exact hka) (decide_eq_false (by omega)) | exact kb_11 (by assumption) hbo (by assumption) (by assumption) (decide_eq_false (by first | exact i_z (by assumption) | exact i_nz (by assumption))) | exact kb_12 (by assumption) (hwf pg (by omega)) (hk12 (by assumption)) (by have h9 : k2 = 4 := (by omega); rw [h9] at hbo; exact hbo) (by assumption) (by assumption) (decide_eq_false (by first | exact i_z (by assumption) | exact i_nz (by assumption))) | exact kb_9 (by assumption) (by have h9 : k2 = 4 := (by omega); rw [h9] at hka; exact hka) (by omega) (hk9 (by assumption)) (by have h9 : k2 = 4 := (by omega); rw [h9] at hbo; exact hbo) (by assumption) (decide_eq_false (by first | exact i_z (by assumption) | exact i_nz (by assumption)))) (by assumption)) (by omega)))
                  · have zc_22 : x_21.toInt = 0 := i_eq rfl rfl c_22
                    refine ww_iconst (v := 1) C dX12_knownBy_140 rfl ?_
                    refine ww_goto (tgt := 145) C dX12_knownBy_141 (by decide) ?_
                    refine ww_istore (lv' := [(9, .int 1), (8, .int bo), (7, .int (nI al)), (6, .int (nI i1)), (5, .int ac), (0, .ref hm), (1, .int (nI pg)), (2, .int act), (3, .int gr), (4, .int so)]) C dX12_knownBy_145 rfl rfl ?_
                    refine ww_goto (tgt := 179) C dX12_knownBy_147 (by decide) ?_
                    refine ww_iload C dX12_knownBy_179 4 rfl ?_
                    refine ww_iload C dX12_knownBy_181 0 rfl ?_
                    refine ww_if_eq_f (tgt := 193) C dX12_knownBy_183 (by decide) (by decide) ?_
                    refine ww_iconst (v := 1) C dX12_knownBy_186 rfl ?_
                    refine ww_iload C dX12_knownBy_187 3 rfl ?_
                    obtain ⟨x_24, ex_24⟩ : ∃ z : Int32, (1 : Int32) <<< ((nI i1) &&& 31) = z := ⟨_, rfl⟩
                    refine ww_ishl (v := x_24) C dX12_knownBy_189 ex_24 ?_
                    refine ww_goto (tgt := 194) C dX12_knownBy_190 (by decide) ?_
                    obtain ⟨x_25, ex_25⟩ : ∃ z : Int32, ac ||| x_24 = z := ⟨_, rfl⟩
                    refine ww_ior (v := x_25) C dX12_knownBy_194 ex_25 ?_
                    refine ww_istore (lv' := [(5, .int x_25), (9, .int 1), (8, .int bo), (7, .int (nI al)), (6, .int (nI i1)), (0, .ref hm), (1, .int (nI pg)), (2, .int act), (3, .int gr), (4, .int so)]) C dX12_knownBy_195 rfl rfl ?_
                    refine ww_iinc (j := 4) (v := (nI (i1 + 1))) (lv' := [(6, .int (nI (i1 + 1))), (5, .int x_25), (9, .int 1), (8, .int bo), (7, .int (nI al)), (0, .ref hm), (1, .int (nI pg)), (2, .int act), (3, .int gr), (4, .int so)]) C dX12_knownBy_197 rfl (nI_add i1 1) rfl rfl ?_
                    refine ww_goto (tgt := 6) C dX12_knownBy_200 (by decide) ?_
                    exact ww_lv [0, 1, 5, 6, 7, 8, 9] rfl (ww_sub [0, 1, 2, 3, 4] rfl rfl (ih_6 (i1 + 1) x_25 (by omega) (by first | exact AC.t hac (by omega) (by first | exact kb_o (by assumption) (by assumption) (by assumption) (by have h9 : k2 = 4 := (by omega); rw [h9] at hka; exact hka) (decide_eq_true (by omega)) | exact kb_11 (by assumption) hbo (by assumption) (by assumption) (decide_eq_true (by first | exact i_z (by assumption) | exact i_nz (by assumption))) | exact kb_12 (by assumption) (hwf pg (by omega)) (hk12 (by assumption)) (by have h9 : k2 = 4 := (by omega); rw [h9] at hbo; exact hbo) (by assumption) (by assumption) (decide_eq_true (by first | exact i_z (by assumption) | exact i_nz (by assumption))) | exact kb_9 (by assumption) (by have h9 : k2 = 4 := (by omega); rw [h9] at hka; exact hka) (by omega) (hk9 (by assumption)) (by have h9 : k2 = 4 := (by omega); rw [h9] at hbo; exact hbo) (by assumption) (decide_eq_true (by first | exact i_z (by assumption) | exact i_nz (by assumption))) | exact kb_9a (by assumption) (by have h9 : k2 = 4 := (by omega); rw [h9] at hka; exact hka) (by omega)) (by assumption) (by assumption) | exact AC.z hac (by first | exact kb_o (by assumption) (by assumption) (by assumption) (by have h9 : k2 = 4 := (by omega); rw [h9] at hka; exact hka) (decide_eq_false (by omega)) | exact kb_11 (by assumption) hbo (by assumption) (by assumption) (decide_eq_false (by first | exact i_z (by assumption) | exact i_nz (by assumption))) | exact kb_12 (by assumption) (hwf pg (by omega)) (hk12 (by assumption)) (by have h9 : k2 = 4 := (by omega); rw [h9] at hbo; exact hbo) (by assumption) (by assumption) (decide_eq_false (by first | exact i_z (by assumption) | exact i_nz (by assumption))) | exact kb_9 (by assumption) (by have h9 : k2 = 4 := (by omega); rw [h9] at hka; exact hka) (by omega) (hk9 (by assumption)) (by have h9 : k2 = 4 := (by omega); rw [h9] at hbo; exact hbo) (by assumption) (decide_eq_false (by first | exact i_z (by assumption) | exact i_nz (by assumption)))) (by assumption)) (by omega)))
              · have zc_4 : act.toInt = 9 := i_eq rfl rfl c_4
                refine ww_iload C dX12_knownBy_101 2 rfl ?_
                refine ww_if_ne (tgt := 114) C dX12_knownBy_103 (by decide) (fun c_26 => ?_) (fun c_26 => ?_)
                · have zc_26 : ((al : Nat) : Int) ≠ 0 := i_ne (nI_toInt (n := al) (by omega)) rfl c_26
                  refine ww_iconst (v := 1) C dX12_knownBy_114 rfl ?_
                  refine ww_goto (tgt := 119) C dX12_knownBy_115 (by decide) ?_
                  refine ww_istore (lv' := [(9, .int 1), (8, .int bo), (7, .int (nI al)), (6, .int (nI i1)), (5, .int ac), (0, .ref hm), (1, .int (nI pg)), (2, .int act), (3, .int gr), (4, .int so)]) C dX12_knownBy_119 rfl rfl ?_
                  refine ww_goto (tgt := 179) C dX12_knownBy_121 (by decide) ?_
                  refine ww_iload C dX12_knownBy_179 4 rfl ?_
                  refine ww_iload C dX12_knownBy_181 0 rfl ?_
                  refine ww_if_eq_f (tgt := 193) C dX12_knownBy_183 (by decide) (by decide) ?_
                  refine ww_iconst (v := 1) C dX12_knownBy_186 rfl ?_
                  refine ww_iload C dX12_knownBy_187 3 rfl ?_
                  obtain ⟨x_27, ex_27⟩ : ∃ z : Int32, (1 : Int32) <<< ((nI i1) &&& 31) = z := ⟨_, rfl⟩
                  refine ww_ishl (v := x_27) C dX12_knownBy_189 ex_27 ?_
                  refine ww_goto (tgt := 194) C dX12_knownBy_190 (by decide) ?_
                  obtain ⟨x_28, ex_28⟩ : ∃ z : Int32, ac ||| x_27 = z := ⟨_, rfl⟩
                  refine ww_ior (v := x_28) C dX12_knownBy_194 ex_28 ?_
                  refine ww_istore (lv' := [(5, .int x_28), (9, .int 1), (8, .int bo), (7, .int (nI al)), (6, .int (nI i1)), (0, .ref hm), (1, .int (nI pg)), (2, .int act), (3, .int gr), (4, .int so)]) C dX12_knownBy_195 rfl rfl ?_
                  refine ww_iinc (j := 4) (v := (nI (i1 + 1))) (lv' := [(6, .int (nI (i1 + 1))), (5, .int x_28), (9, .int 1), (8, .int bo), (7, .int (nI al)), (0, .ref hm), (1, .int (nI pg)), (2, .int act), (3, .int gr), (4, .int so)]) C dX12_knownBy_197 rfl (nI_add i1 1) rfl rfl ?_
                  refine ww_goto (tgt := 6) C dX12_knownBy_200 (by decide) ?_
                  exact ww_lv [0, 1, 5, 6, 7, 8, 9] rfl (ww_sub [0, 1, 2, 3, 4] rfl rfl (ih_6 (i1 + 1) x_28 (by omega) (by first | exact AC.t hac (by omega) (by first | exact kb_o (by assumption) (by assumption) (by assumption) (by have h9 : k2 = 4 := (by omega); rw [h9] at hka; exact hka) (decide_eq_true (by omega)) | exact kb_11 (by assumption) hbo (by assumption) (by assumption) (decide_eq_true (by first | exact i_z (by assumption) | exact i_nz (by assumption))) | exact kb_12 (by assumption) (hwf pg (by omega)) (hk12 (by assumption)) (by have h9 : k2 = 4 := (by omega); rw [h9] at hbo; exact hbo) (by assumption) (by assumption) (decide_eq_true (by first | exact i_z (by assumption) | exact i_nz (by assumption))) | exact kb_9 (by assumption) (by have h9 : k2 = 4 := (by omega); rw [h9] at hka; exact hka) (by omega) (hk9 (by assumption)) (by have h9 : k2 = 4 := (by omega); rw [h9] at hbo; exact hbo) (by assumption) (decide_eq_true (by first | exact i_z (by assumption) | exact i_nz (by assumption))) | exact kb_9a (by assumption) (by have h9 : k2 = 4 := (by omega); rw [h9] at hka; exact hka) (by omega)) (by assumption) (by assumption) | exact AC.z hac (by first | exact kb_o (by assumption) (by assumption) (by assumption) (by have h9 : k2 = 4 := (by omega); rw [h9] at hka; exact hka) (decide_eq_false (by omega)) | exact kb_11 (by assumption) hbo (by assumption) (by assumption) (decide_eq_false (by first | exact i_z (by assumption) | exact i_nz (by assumption))) | exact kb_12 (by assumption) (hwf pg (by omega)) (hk12 (by assumption)) (by have h9 : k2 = 4 := (by omega); rw [h9] at hbo; exact hbo) (by assumption) (by assumption) (decide_eq_false (by first | exact i_z (by assumption) | exact i_nz (by assumption))) | exact kb_9 (by assumption) (by have h9 : k2 = 4 := (by omega); rw [h9] at hka; exact hka) (by omega) (hk9 (by assumption)) (by have h9 : k2 = 4 := (by omega); rw [h9] at hbo; exact hbo) (by assumption) (decide_eq_false (by first | exact i_z (by assumption) | exact i_nz (by assumption)))) (by assumption)) (by omega)))
                · have zc_26 : ((al : Nat) : Int) = 0 := i_eq (nI_toInt (n := al) (by omega)) rfl c_26
                  refine ww_iload C dX12_knownBy_106 1 rfl ?_
                  refine ww_iload C dX12_knownBy_108 9 rfl ?_
                  obtain ⟨x_29, ex_29⟩ : ∃ z : Int32, bo &&& so = z := ⟨_, rfl⟩
                  refine ww_iand (v := x_29) C dX12_knownBy_110 ex_29 ?_
                  refine ww_if_ne (tgt := 118) C dX12_knownBy_111 (by decide) (fun c_30 => ?_) (fun c_30 => ?_)
                  · have zc_30 : x_29.toInt ≠ 0 := i_ne rfl rfl c_30
                    refine ww_iconst (v := 0) C dX12_knownBy_118 rfl ?_
                    refine ww_istore (lv' := [(9, .int 0), (8, .int bo), (7, .int (nI al)), (6, .int (nI i1)), (5, .int ac), (0, .ref hm), (1, .int (nI pg)), (2, .int act), (3, .int gr), (4, .int so)]) C dX12_knownBy_119 rfl rfl ?_
                    refine ww_goto (tgt := 179) C dX12_knownBy_121 (by decide) ?_
                    refine ww_iload C dX12_knownBy_179 4 rfl ?_
                    refine ww_iload C dX12_knownBy_181 0 rfl ?_
                    refine ww_if_eq_t (tgt := 193) C dX12_knownBy_183 (by decide) (rfl) ?_
                    refine ww_iconst (v := 0) C dX12_knownBy_193 rfl ?_
                    obtain ⟨x_31, ex_31⟩ : ∃ z : Int32, ac ||| (0 : Int32) = z := ⟨_, rfl⟩
                    refine ww_ior (v := x_31) C dX12_knownBy_194 ex_31 ?_
                    refine ww_istore (lv' := [(5, .int x_31), (9, .int 0), (8, .int bo), (7, .int (nI al)), (6, .int (nI i1)), (0, .ref hm), (1, .int (nI pg)), (2, .int act), (3, .int gr), (4, .int so)]) C dX12_knownBy_195 rfl rfl ?_
                    refine ww_iinc (j := 4) (v := (nI (i1 + 1))) (lv' := [(6, .int (nI (i1 + 1))), (5, .int x_31), (9, .int 0), (8, .int bo), (7, .int (nI al)), (0, .ref hm), (1, .int (nI pg)), (2, .int act), (3, .int gr), (4, .int so)]) C dX12_knownBy_197 rfl (nI_add i1 1) rfl rfl ?_
                    refine ww_goto (tgt := 6) C dX12_knownBy_200 (by decide) ?_
                    exact ww_lv [0, 1, 5, 6, 7, 8, 9] rfl (ww_sub [0, 1, 2, 3, 4] rfl rfl (ih_6 (i1 + 1) x_31 (by omega) (by first | exact AC.t hac (by omega) (by first | exact kb_o (by assumption) (by assumption) (by assumption) (by have h9 : k2 = 4 := (by omega); rw [h9] at hka; exact hka) (decide_eq_true (by omega)) | exact kb_11 (by assumption) hbo (by assumption) (by assumption) (decide_eq_true (by first | exact i_z (by assumption) | exact i_nz (by assumption))) | exact kb_12 (by assumption) (hwf pg (by omega)) (hk12 (by assumption)) (by have h9 : k2 = 4 := (by omega); rw [h9] at hbo; exact hbo) (by assumption) (by assumption) (decide_eq_true (by first | exact i_z (by assumption) | exact i_nz (by assumption))) | exact kb_9 (by assumption) (by have h9 : k2 = 4 := (by omega); rw [h9] at hka; exact hka) (by omega) (hk9 (by assumption)) (by have h9 : k2 = 4 := (by omega); rw [h9] at hbo; exact hbo) (by assumption) (decide_eq_true (by first | exact i_z (by assumption) | exact i_nz (by assumption))) | exact kb_9a (by assumption) (by have h9 : k2 = 4 := (by omega); rw [h9] at hka; exact hka) (by omega)) (by assumption) (by assumption) | exact AC.z hac (by first | exact kb_o (by assumption) (by assumption) (by assumption) (by have h9 : k2 = 4 := (by omega); rw [h9] at hka; exact hka) (decide_eq_false (by omega)) | exact kb_11 (by assumption) hbo (by assumption) (by assumption) (decide_eq_false (by first | exact i_z (by assumption) | exact i_nz (by assumption))) | exact kb_12 (by assumption) (hwf pg (by omega)) (hk12 (by assumption)) (by have h9 : k2 = 4 := (by omega); rw [h9] at hbo; exact hbo) (by assumption) (by assumption) (decide_eq_false (by first | exact i_z (by assumption) | exact i_nz (by assumption))) | exact kb_9 (by assumption) (by have h9 : k2 = 4 := (by omega); rw [h9] at hka; exact hka) (by omega) (hk9 (by assumption)) (by have h9 : k2 = 4 := (by omega); rw [h9] at hbo; exact hbo) (by assumption) (decide_eq_false (by first | exact i_z (by assumption) | exact i_nz (by assumption)))) (by assumption)) (by omega)))
                  · have zc_30 : x_29.toInt = 0 := i_eq rfl rfl c_30
                    refine ww_iconst (v := 1) C dX12_knownBy_114 rfl ?_
                    refine ww_goto (tgt := 119) C dX12_knownBy_115 (by decide) ?_
                    refine ww_istore (lv' := [(9, .int 1), (8, .int bo), (7, .int (nI al)), (6, .int (nI i1)), (5, .int ac), (0, .ref hm), (1, .int (nI pg)), (2, .int act), (3, .int gr), (4, .int so)]) C dX12_knownBy_119 rfl rfl ?_
                    refine ww_goto (tgt := 179) C dX12_knownBy_121 (by decide) ?_
                    refine ww_iload C dX12_knownBy_179 4 rfl ?_
                    refine ww_iload C dX12_knownBy_181 0 rfl ?_
                    refine ww_if_eq_f (tgt := 193) C dX12_knownBy_183 (by decide) (by decide) ?_
                    refine ww_iconst (v := 1) C dX12_knownBy_186 rfl ?_
                    refine ww_iload C dX12_knownBy_187 3 rfl ?_
                    obtain ⟨x_32, ex_32⟩ : ∃ z : Int32, (1 : Int32) <<< ((nI i1) &&& 31) = z := ⟨_, rfl⟩
                    refine ww_ishl (v := x_32) C dX12_knownBy_189 ex_32 ?_
                    refine ww_goto (tgt := 194) C dX12_knownBy_190 (by decide) ?_
                    obtain ⟨x_33, ex_33⟩ : ∃ z : Int32, ac ||| x_32 = z := ⟨_, rfl⟩
                    refine ww_ior (v := x_33) C dX12_knownBy_194 ex_33 ?_
                    refine ww_istore (lv' := [(5, .int x_33), (9, .int 1), (8, .int bo), (7, .int (nI al)), (6, .int (nI i1)), (0, .ref hm), (1, .int (nI pg)), (2, .int act), (3, .int gr), (4, .int so)]) C dX12_knownBy_195 rfl rfl ?_
                    refine ww_iinc (j := 4) (v := (nI (i1 + 1))) (lv' := [(6, .int (nI (i1 + 1))), (5, .int x_33), (9, .int 1), (8, .int bo), (7, .int (nI al)), (0, .ref hm), (1, .int (nI pg)), (2, .int act), (3, .int gr), (4, .int so)]) C dX12_knownBy_197 rfl (nI_add i1 1) rfl rfl ?_
                    refine ww_goto (tgt := 6) C dX12_knownBy_200 (by decide) ?_
                    exact ww_lv [0, 1, 5, 6, 7, 8, 9] rfl (ww_sub [0, 1, 2, 3, 4] rfl rfl (ih_6 (i1 + 1) x_33 (by omega) (by first | exact AC.t hac (by omega) (by first | exact kb_o (by assumption) (by assumption) (by assumption) (by have h9 : k2 = 4 := (by omega); rw [h9] at hka; exact hka) (decide_eq_true (by omega)) | exact kb_11 (by assumption) hbo (by assumption) (by assumption) (decide_eq_true (by first | exact i_z (by assumption) | exact i_nz (by assumption))) | exact kb_12 (by assumption) (hwf pg (by omega)) (hk12 (by assumption)) (by have h9 : k2 = 4 := (by omega); rw [h9] at hbo; exact hbo) (by assumption) (by assumption) (decide_eq_true (by first | exact i_z (by assumption) | exact i_nz (by assumption))) | exact kb_9 (by assumption) (by have h9 : k2 = 4 := (by omega); rw [h9] at hka; exact hka) (by omega) (hk9 (by assumption)) (by have h9 : k2 = 4 := (by omega); rw [h9] at hbo; exact hbo) (by assumption) (decide_eq_true (by first | exact i_z (by assumption) | exact i_nz (by assumption))) | exact kb_9a (by assumption) (by have h9 : k2 = 4 := (by omega); rw [h9] at hka; exact hka) (by omega)) (by assumption) (by assumption) | exact AC.z hac (by first | exact kb_o (by assumption) (by assumption) (by assumption) (by have h9 : k2 = 4 := (by omega); rw [h9] at hka; exact hka) (decide_eq_false (by omega)) | exact kb_11 (by assumption) hbo (by assumption) (by assumption) (decide_eq_false (by first | exact i_z (by assumption) | exact i_nz (by assumption))) | exact kb_12 (by assumption) (hwf pg (by omega)) (hk12 (by assumption)) (by have h9 : k2 = 4 := (by omega); rw [h9] at hbo; exact hbo) (by assumption) (by assumption) (decide_eq_false (by first | exact i_z (by assumption) | exact i_nz (by assumption))) | exact kb_9 (by assumption) (by have h9 : k2 = 4 := (by omega); rw [h9] at hka; exact hka) (by omega) (hk9 (by assumption)) (by have h9 : k2 = 4 := (by omega); rw [h9] at hbo; exact hbo) (by assumption) (decide_eq_false (by first | exact i_z (by assumption) | exact i_nz (by assumption)))) (by assumption)) (by omega)))
            · have zc_3 : ((k2 : Nat) : Int) < 4 := i_nle rfl (nI_toInt (n := k2) (by omega)) c_3
              refine ww_iload_n C dX12_knownBy_32 8 rfl rfl ?_
              refine ww_iload C dX12_knownBy_33 0 rfl ?_
              obtain ⟨x_34, ex_34⟩ : ∃ z : Int32, gr >>> ((nI k2) &&& 31) = z := ⟨_, rfl⟩
              refine ww_ishr (v := x_34) C dX12_knownBy_35 ex_34 ?_
              refine ww_iconst (v := 1) C dX12_knownBy_36 rfl ?_
              obtain ⟨j_35, hj_35, ej_35⟩ := pk_andE x_34 (m := 1) 1 rfl
              refine ww_iand (v := (nI j_35)) C dX12_knownBy_37 ej_35 ?_
              refine ww_iconst (v := 1) C dX12_knownBy_38 rfl ?_
              refine ww_icmp_ne (tgt := 85) C dX12_knownBy_39 (by decide) (fun c_36 => ?_) (fun c_36 => ?_)
              · have zc_36 : ((j_35 : Nat) : Int) ≠ 1 := i_ne (nI_toInt (n := j_35) (by omega)) rfl c_36
                refine ww_iinc (j := 0) (v := (nI (k2 + 1))) (lv' := [(9, .int (nI (k2 + 1))), (8, .int bo), (7, .int (nI al)), (6, .int (nI i1)), (5, .int ac), (0, .ref hm), (1, .int (nI pg)), (2, .int act), (3, .int gr), (4, .int so)]) C dX12_knownBy_85 rfl (nI_add k2 1) rfl rfl ?_
                refine ww_goto (tgt := 26) C dX12_knownBy_88 (by decide) ?_
                exact ww_lv [0, 1, 2, 3, 4, 5, 6, 7, 8, 9] rfl (ww_sub [0, 1, 2, 3, 4] rfl rfl (ih_26 (k2 + 1) al bo (by omega) (by omega) (by first | exact KAb.f hka (hasb_0 (p := k2) (by omega) (by assumption) (by assumption) (by omega)) | exact KAb.z hka (by omega) | exact KAb.t hka (by omega) (hasb_1 (p := k2) (by omega) (by assumption) (by assumption) (by omega)) (fun v => pg_S (p := pg) (k := k2) (w := i1) (by omega) (by omega)) (by assumption) (by assumption) (by first | exact dz_1 (by assumption) | exact dz_0 (by assumption))) (by first | exact KBo.f hbo (hasb_0 (p := k2) (by omega) (by assumption) (by assumption) (by omega)) | exact KBo.t hbo (hasb_1 (p := k2) (by omega) (by assumption) (by assumption) (by omega)) (fun v => pg_S (p := pg) (k := k2) (w := i1) (by omega) (by omega)) (by assumption)) (by omega)))
              · have zc_36 : ((j_35 : Nat) : Int) = 1 := i_eq (nI_toInt (n := j_35) (by omega)) rfl c_36
                refine ww_iload C dX12_knownBy_42 2 rfl ?_
                refine ww_if_eq (tgt := 68) C dX12_knownBy_44 (by decide) (fun c_37 => ?_) (fun c_37 => ?_)
                · have zc_37 : ((al : Nat) : Int) = 0 := i_eq (nI_toInt (n := al) (by omega)) rfl c_37
                  refine ww_iconst (v := 0) C dX12_knownBy_68 rfl ?_
                  refine ww_istore (lv' := [(7, .int 0), (9, .int (nI k2)), (8, .int bo), (6, .int (nI i1)), (5, .int ac), (0, .ref hm), (1, .int (nI pg)), (2, .int act), (3, .int gr), (4, .int so)]) C dX12_knownBy_69 rfl rfl ?_
                  refine ww_iload C dX12_knownBy_71 2 rfl ?_
                  refine ww_aload_n C dX12_knownBy_73 5 rfl rfl ?_
                  refine ww_iload_n C dX12_knownBy_74 6 rfl rfl ?_
                  refine ww_iload C dX12_knownBy_75 1 rfl ?_
                  refine ww_iload C dX12_knownBy_77 3 rfl ?_
                  refine ww_ci (wr := [(m_manys, .inl (E.2.1 1, 18, .inl f_manys)), (m_reals, .inl (E.2.1 1, 18, .inl f_reals)), (m_factsOf, .inl (E.2.1 1, 432, .inl f_factsOf))]) (k' := 0) (n' := 0) C (run_V (As := [.int (nI pg), .int (nI k2), .int (nI i1)]) (rest := [.int bo]) C (r_seen X.2.1 E ro hm pg k2 i1 m_manys m_reals m_factsOf m_possible q_undos q_models m_tape q_taped q_fault q_wrong q_wrongAt q_spot q_place q_token q_value m_ends m_letters m_actOf m_whom m_actMany m_tokens m_afters m_afterOf q_counted m_pile m_caseMany m_happen m_hasIf m_becomes m_goneOf m_heard m_pairs m_heaps q_rounds q_heapMany m_led m_newAt m_knowing m_firsts q_people m_secrets m_tried m_lanes m_lengths m_cells f_possible (by omega) (by omega) (by omega)) mi_X12_seen wl_X12_135 rfl 0 12 rfl rfl rfl rfl rfl dX12_knownBy_79) (roK hro) [0, 4] [1, 2, 3] rfl rfl rfl rfl (fun r_38 uz hw => ?_)
                  refine an1 hw ?_
                  clear hw
                  intro he_39 hw
                  have he_40 := hw
                  clear hw
                  have he_39 := he_39.symm
                  subst he_39
                  subst he_40
                  refine ww_eq (ws' := [(m_manys, .inl (E.2.1 1, 18, .inl f_manys)), (m_reals, .inl (E.2.1 1, 18, .inl f_reals)), (m_factsOf, .inl (E.2.1 1, 432, .inl f_factsOf)), (hm, .inr (12, [.ref m_manys, .ref m_reals, .ref m_factsOf, .ref m_possible, .int (nI q_undos), .int (nI q_models), .ref m_tape, .int (nI q_taped), .int q_fault, .int q_wrong, .int q_wrongAt, .int q_spot, .int q_place, .int q_token, .int q_value, .ref m_ends, .ref m_letters, .ref m_actOf, .ref m_whom, .ref m_actMany, .ref m_tokens, .ref m_afters, .ref m_afterOf, .int q_counted, .ref m_pile, .ref m_caseMany, .ref m_happen, .ref m_hasIf, .ref m_becomes, .ref m_goneOf, .ref m_heard, .ref m_pairs, .ref m_heaps, .int q_rounds, .int q_heapMany, .ref m_led, .ref m_newAt, .ref m_knowing, .ref m_firsts, .int (nI q_people), .ref m_secrets, .ref m_tried, .ref m_lanes, .ref m_lengths, .ref m_cells])), (m_possible, .inl (E.2.1 1, 1728, .inl f_possible))]) ?_ rfl rfl rfl
                  obtain ⟨x_41, ex_41⟩ : ∃ z : Int32, bo &&& (f_possible (96 * pg + 24 * k2 + i1)) = z := ⟨_, rfl⟩
                  refine ww_iand (v := x_41) C dX12_knownBy_82 ex_41 ?_
                  refine ww_istore (lv' := [(8, .int x_41), (7, .int 0), (9, .int (nI k2)), (6, .int (nI i1)), (5, .int ac), (0, .ref hm), (1, .int (nI pg)), (2, .int act), (3, .int gr), (4, .int so)]) C dX12_knownBy_83 rfl rfl ?_
                  refine ww_iinc (j := 2) (v := (nI (k2 + 1))) (lv' := [(9, .int (nI (k2 + 1))), (8, .int x_41), (7, .int 0), (6, .int (nI i1)), (5, .int ac), (0, .ref hm), (1, .int (nI pg)), (2, .int act), (3, .int gr), (4, .int so)]) C dX12_knownBy_85 rfl (nI_add k2 1) rfl rfl ?_
                  refine ww_goto (tgt := 26) C dX12_knownBy_88 (by decide) ?_
                  exact ww_lv [0, 1, 2, 3, 4, 5, 6, 7, 8, 9] rfl (ww_sub [3, 0, 1, 2, 4] rfl rfl (ih_26 (k2 + 1) 0 x_41 (by omega) (by omega) (by first | exact KAb.f hka (hasb_0 (p := k2) (by omega) (by assumption) (by assumption) (by omega)) | exact KAb.z hka (by omega) | exact KAb.t hka (by omega) (hasb_1 (p := k2) (by omega) (by assumption) (by assumption) (by omega)) (fun v => pg_S (p := pg) (k := k2) (w := i1) (by omega) (by omega)) (by assumption) (by assumption) (by first | exact dz_1 (by assumption) | exact dz_0 (by assumption))) (by first | exact KBo.f hbo (hasb_0 (p := k2) (by omega) (by assumption) (by assumption) (by omega)) | exact KBo.t hbo (hasb_1 (p := k2) (by omega) (by assumption) (by assumption) (by omega)) (fun v => pg_S (p := pg) (k := k2) (w := i1) (by omega) (by omega)) (by assumption)) (by omega)))
                · have zc_37 : ((al : Nat) : Int) ≠ 0 := i_ne (nI_toInt (n := al) (by omega)) rfl c_37
                  refine ww_aload_n C dX12_knownBy_47 5 rfl rfl ?_
                  refine ww_iload_n C dX12_knownBy_48 6 rfl rfl ?_
                  refine ww_iload C dX12_knownBy_49 0 rfl ?_
                  refine ww_iload C dX12_knownBy_51 3 rfl ?_
                  refine ww_ci (wr := [(m_manys, .inl (E.2.1 1, 18, .inl f_manys)), (m_reals, .inl (E.2.1 1, 18, .inl f_reals)), (m_factsOf, .inl (E.2.1 1, 432, .inl f_factsOf))]) (k' := 0) (n' := 0) C (run_V (As := [.int (nI pg), .int (nI k2), .int (nI i1)]) (rest := []) C (r_seen X.2.1 E ro hm pg k2 i1 m_manys m_reals m_factsOf m_possible q_undos q_models m_tape q_taped q_fault q_wrong q_wrongAt q_spot q_place q_token q_value m_ends m_letters m_actOf m_whom m_actMany m_tokens m_afters m_afterOf q_counted m_pile m_caseMany m_happen m_hasIf m_becomes m_goneOf m_heard m_pairs m_heaps q_rounds q_heapMany m_led m_newAt m_knowing m_firsts q_people m_secrets m_tried m_lanes m_lengths m_cells f_possible (by omega) (by omega) (by omega)) mi_X12_seen wl_X12_135 rfl 0 12 rfl rfl rfl rfl rfl dX12_knownBy_53) (roK hro) [0, 4] [1, 2, 3] rfl rfl rfl rfl (fun r_42 uz hw => ?_)
                  refine an1 hw ?_
                  clear hw
                  intro he_43 hw
                  have he_44 := hw
                  clear hw
                  have he_43 := he_43.symm
                  subst he_43
                  subst he_44
                  refine ww_eq (ws' := [(m_manys, .inl (E.2.1 1, 18, .inl f_manys)), (m_reals, .inl (E.2.1 1, 18, .inl f_reals)), (m_factsOf, .inl (E.2.1 1, 432, .inl f_factsOf)), (hm, .inr (12, [.ref m_manys, .ref m_reals, .ref m_factsOf, .ref m_possible, .int (nI q_undos), .int (nI q_models), .ref m_tape, .int (nI q_taped), .int q_fault, .int q_wrong, .int q_wrongAt, .int q_spot, .int q_place, .int q_token, .int q_value, .ref m_ends, .ref m_letters, .ref m_actOf, .ref m_whom, .ref m_actMany, .ref m_tokens, .ref m_afters, .ref m_afterOf, .int q_counted, .ref m_pile, .ref m_caseMany, .ref m_happen, .ref m_hasIf, .ref m_becomes, .ref m_goneOf, .ref m_heard, .ref m_pairs, .ref m_heaps, .int q_rounds, .int q_heapMany, .ref m_led, .ref m_newAt, .ref m_knowing, .ref m_firsts, .int (nI q_people), .ref m_secrets, .ref m_tried, .ref m_lanes, .ref m_lengths, .ref m_cells])), (m_possible, .inl (E.2.1 1, 1728, .inl f_possible))]) ?_ rfl rfl rfl
                  refine ww_iload C dX12_knownBy_56 9 rfl ?_
                  refine ww_iconst (v := (-1)) C dX12_knownBy_58 rfl ?_
                  obtain ⟨x_45, ex_45⟩ : ∃ z : Int32, so ^^^ ((-1) : Int32) = z := ⟨_, rfl⟩
                  refine ww_ixor (v := x_45) C dX12_knownBy_59 ex_45 ?_
                  obtain ⟨x_46, ex_46⟩ : ∃ z : Int32, (f_possible (96 * pg + 24 * k2 + i1)) &&& x_45 = z := ⟨_, rfl⟩
                  refine ww_iand (v := x_46) C dX12_knownBy_60 ex_46 ?_
                  refine ww_if_ne (tgt := 68) C dX12_knownBy_61 (by decide) (fun c_47 => ?_) (fun c_47 => ?_)
                  · have zc_47 : x_46.toInt ≠ 0 := i_ne rfl rfl c_47
                    refine ww_iconst (v := 0) C dX12_knownBy_68 rfl ?_
                    refine ww_istore (lv' := [(7, .int 0), (9, .int (nI k2)), (8, .int bo), (6, .int (nI i1)), (5, .int ac), (0, .ref hm), (1, .int (nI pg)), (2, .int act), (3, .int gr), (4, .int so)]) C dX12_knownBy_69 rfl rfl ?_
                    refine ww_iload C dX12_knownBy_71 2 rfl ?_
                    refine ww_aload_n C dX12_knownBy_73 5 rfl rfl ?_
                    refine ww_iload_n C dX12_knownBy_74 6 rfl rfl ?_
                    refine ww_iload C dX12_knownBy_75 1 rfl ?_
                    refine ww_iload C dX12_knownBy_77 3 rfl ?_
                    refine ww_ci (wr := [(m_manys, .inl (E.2.1 1, 18, .inl f_manys)), (m_reals, .inl (E.2.1 1, 18, .inl f_reals)), (m_factsOf, .inl (E.2.1 1, 432, .inl f_factsOf))]) (k' := 0) (n' := 0) C (run_V (As := [.int (nI pg), .int (nI k2), .int (nI i1)]) (rest := [.int bo]) C (r_seen X.2.1 E ro hm pg k2 i1 m_manys m_reals m_factsOf m_possible q_undos q_models m_tape q_taped q_fault q_wrong q_wrongAt q_spot q_place q_token q_value m_ends m_letters m_actOf m_whom m_actMany m_tokens m_afters m_afterOf q_counted m_pile m_caseMany m_happen m_hasIf m_becomes m_goneOf m_heard m_pairs m_heaps q_rounds q_heapMany m_led m_newAt m_knowing m_firsts q_people m_secrets m_tried m_lanes m_lengths m_cells f_possible (by omega) (by omega) (by omega)) mi_X12_seen wl_X12_135 rfl 0 12 rfl rfl rfl rfl rfl dX12_knownBy_79) (roK hro) [3, 4] [0, 1, 2] rfl rfl rfl rfl (fun r_48 uz hw => ?_)
                    refine an1 hw ?_
                    clear hw
                    intro he_49 hw
                    have he_50 := hw
                    clear hw
                    have he_49 := he_49.symm
                    subst he_49
                    subst he_50
                    refine ww_eq (ws' := [(m_manys, .inl (E.2.1 1, 18, .inl f_manys)), (m_reals, .inl (E.2.1 1, 18, .inl f_reals)), (m_factsOf, .inl (E.2.1 1, 432, .inl f_factsOf)), (hm, .inr (12, [.ref m_manys, .ref m_reals, .ref m_factsOf, .ref m_possible, .int (nI q_undos), .int (nI q_models), .ref m_tape, .int (nI q_taped), .int q_fault, .int q_wrong, .int q_wrongAt, .int q_spot, .int q_place, .int q_token, .int q_value, .ref m_ends, .ref m_letters, .ref m_actOf, .ref m_whom, .ref m_actMany, .ref m_tokens, .ref m_afters, .ref m_afterOf, .int q_counted, .ref m_pile, .ref m_caseMany, .ref m_happen, .ref m_hasIf, .ref m_becomes, .ref m_goneOf, .ref m_heard, .ref m_pairs, .ref m_heaps, .int q_rounds, .int q_heapMany, .ref m_led, .ref m_newAt, .ref m_knowing, .ref m_firsts, .int (nI q_people), .ref m_secrets, .ref m_tried, .ref m_lanes, .ref m_lengths, .ref m_cells])), (m_possible, .inl (E.2.1 1, 1728, .inl f_possible))]) ?_ rfl rfl rfl
                    obtain ⟨x_51, ex_51⟩ : ∃ z : Int32, bo &&& (f_possible (96 * pg + 24 * k2 + i1)) = z := ⟨_, rfl⟩
                    refine ww_iand (v := x_51) C dX12_knownBy_82 ex_51 ?_
                    refine ww_istore (lv' := [(8, .int x_51), (7, .int 0), (9, .int (nI k2)), (6, .int (nI i1)), (5, .int ac), (0, .ref hm), (1, .int (nI pg)), (2, .int act), (3, .int gr), (4, .int so)]) C dX12_knownBy_83 rfl rfl ?_
                    refine ww_iinc (j := 2) (v := (nI (k2 + 1))) (lv' := [(9, .int (nI (k2 + 1))), (8, .int x_51), (7, .int 0), (6, .int (nI i1)), (5, .int ac), (0, .ref hm), (1, .int (nI pg)), (2, .int act), (3, .int gr), (4, .int so)]) C dX12_knownBy_85 rfl (nI_add k2 1) rfl rfl ?_
                    refine ww_goto (tgt := 26) C dX12_knownBy_88 (by decide) ?_
                    exact ww_lv [0, 1, 2, 3, 4, 5, 6, 7, 8, 9] rfl (ww_sub [3, 0, 1, 2, 4] rfl rfl (ih_26 (k2 + 1) 0 x_51 (by omega) (by omega) (by first | exact KAb.f hka (hasb_0 (p := k2) (by omega) (by assumption) (by assumption) (by omega)) | exact KAb.z hka (by omega) | exact KAb.t hka (by omega) (hasb_1 (p := k2) (by omega) (by assumption) (by assumption) (by omega)) (fun v => pg_S (p := pg) (k := k2) (w := i1) (by omega) (by omega)) (by assumption) (by assumption) (by first | exact dz_1 (by assumption) | exact dz_0 (by assumption))) (by first | exact KBo.f hbo (hasb_0 (p := k2) (by omega) (by assumption) (by assumption) (by omega)) | exact KBo.t hbo (hasb_1 (p := k2) (by omega) (by assumption) (by assumption) (by omega)) (fun v => pg_S (p := pg) (k := k2) (w := i1) (by omega) (by omega)) (by assumption)) (by omega)))
                  · have zc_47 : x_46.toInt = 0 := i_eq rfl rfl c_47
                    refine ww_iconst (v := 1) C dX12_knownBy_64 rfl ?_
                    refine ww_goto (tgt := 69) C dX12_knownBy_65 (by decide) ?_
                    refine ww_istore (lv' := [(7, .int 1), (9, .int (nI k2)), (8, .int bo), (6, .int (nI i1)), (5, .int ac), (0, .ref hm), (1, .int (nI pg)), (2, .int act), (3, .int gr), (4, .int so)]) C dX12_knownBy_69 rfl rfl ?_
                    refine ww_iload C dX12_knownBy_71 2 rfl ?_
                    refine ww_aload_n C dX12_knownBy_73 5 rfl rfl ?_
                    refine ww_iload_n C dX12_knownBy_74 6 rfl rfl ?_
                    refine ww_iload C dX12_knownBy_75 1 rfl ?_
                    refine ww_iload C dX12_knownBy_77 3 rfl ?_
                    refine ww_ci (wr := [(m_manys, .inl (E.2.1 1, 18, .inl f_manys)), (m_reals, .inl (E.2.1 1, 18, .inl f_reals)), (m_factsOf, .inl (E.2.1 1, 432, .inl f_factsOf))]) (k' := 0) (n' := 0) C (run_V (As := [.int (nI pg), .int (nI k2), .int (nI i1)]) (rest := [.int bo]) C (r_seen X.2.1 E ro hm pg k2 i1 m_manys m_reals m_factsOf m_possible q_undos q_models m_tape q_taped q_fault q_wrong q_wrongAt q_spot q_place q_token q_value m_ends m_letters m_actOf m_whom m_actMany m_tokens m_afters m_afterOf q_counted m_pile m_caseMany m_happen m_hasIf m_becomes m_goneOf m_heard m_pairs m_heaps q_rounds q_heapMany m_led m_newAt m_knowing m_firsts q_people m_secrets m_tried m_lanes m_lengths m_cells f_possible (by omega) (by omega) (by omega)) mi_X12_seen wl_X12_135 rfl 0 12 rfl rfl rfl rfl rfl dX12_knownBy_79) (roK hro) [3, 4] [0, 1, 2] rfl rfl rfl rfl (fun r_52 uz hw => ?_)
                    refine an1 hw ?_
                    clear hw
                    intro he_53 hw
                    have he_54 := hw
                    clear hw
                    have he_53 := he_53.symm
                    subst he_53
                    subst he_54
                    refine ww_eq (ws' := [(m_manys, .inl (E.2.1 1, 18, .inl f_manys)), (m_reals, .inl (E.2.1 1, 18, .inl f_reals)), (m_factsOf, .inl (E.2.1 1, 432, .inl f_factsOf)), (hm, .inr (12, [.ref m_manys, .ref m_reals, .ref m_factsOf, .ref m_possible, .int (nI q_undos), .int (nI q_models), .ref m_tape, .int (nI q_taped), .int q_fault, .int q_wrong, .int q_wrongAt, .int q_spot, .int q_place, .int q_token, .int q_value, .ref m_ends, .ref m_letters, .ref m_actOf, .ref m_whom, .ref m_actMany, .ref m_tokens, .ref m_afters, .ref m_afterOf, .int q_counted, .ref m_pile, .ref m_caseMany, .ref m_happen, .ref m_hasIf, .ref m_becomes, .ref m_goneOf, .ref m_heard, .ref m_pairs, .ref m_heaps, .int q_rounds, .int q_heapMany, .ref m_led, .ref m_newAt, .ref m_knowing, .ref m_firsts, .int (nI q_people), .ref m_secrets, .ref m_tried, .ref m_lanes, .ref m_lengths, .ref m_cells])), (m_possible, .inl (E.2.1 1, 1728, .inl f_possible))]) ?_ rfl rfl rfl
                    obtain ⟨x_55, ex_55⟩ : ∃ z : Int32, bo &&& (f_possible (96 * pg + 24 * k2 + i1)) = z := ⟨_, rfl⟩
                    refine ww_iand (v := x_55) C dX12_knownBy_82 ex_55 ?_
                    refine ww_istore (lv' := [(8, .int x_55), (7, .int 1), (9, .int (nI k2)), (6, .int (nI i1)), (5, .int ac), (0, .ref hm), (1, .int (nI pg)), (2, .int act), (3, .int gr), (4, .int so)]) C dX12_knownBy_83 rfl rfl ?_
                    refine ww_iinc (j := 2) (v := (nI (k2 + 1))) (lv' := [(9, .int (nI (k2 + 1))), (8, .int x_55), (7, .int 1), (6, .int (nI i1)), (5, .int ac), (0, .ref hm), (1, .int (nI pg)), (2, .int act), (3, .int gr), (4, .int so)]) C dX12_knownBy_85 rfl (nI_add k2 1) rfl rfl ?_
                    refine ww_goto (tgt := 26) C dX12_knownBy_88 (by decide) ?_
                    exact ww_lv [0, 1, 2, 3, 4, 5, 6, 7, 8, 9] rfl (ww_sub [3, 0, 1, 2, 4] rfl rfl (ih_26 (k2 + 1) 1 x_55 (by omega) (by omega) (by first | exact KAb.f hka (hasb_0 (p := k2) (by omega) (by assumption) (by assumption) (by omega)) | exact KAb.z hka (by omega) | exact KAb.t hka (by omega) (hasb_1 (p := k2) (by omega) (by assumption) (by assumption) (by omega)) (fun v => pg_S (p := pg) (k := k2) (w := i1) (by omega) (by omega)) (by assumption) (by assumption) (by first | exact dz_1 (by assumption) | exact dz_0 (by assumption))) (by first | exact KBo.f hbo (hasb_0 (p := k2) (by omega) (by assumption) (by assumption) (by omega)) | exact KBo.t hbo (hasb_1 (p := k2) (by omega) (by assumption) (by assumption) (by omega)) (fun v => pg_S (p := pg) (k := k2) (w := i1) (by omega) (by omega)) (by assumption)) (by omega)))
        exact ww_lv [0, 1, 2, 3, 4, 5, 6, 7, 8, 9] rfl (ww_sub [0, 1, 2, 3, 4] rfl rfl (loop_26 _ 0 1 (-1) (by omega) (by omega) KAb.nil KBo.nil (Nat.lt_succ_self _)))
  exact ww_lv [0, 1, 2, 3, 4, 5, 6] rfl (ww_sub [0, 1, 2, 3, 4] rfl rfl (loop_6 _ 0 0 (by omega) AC.nil (Nat.lt_succ_self _)))
