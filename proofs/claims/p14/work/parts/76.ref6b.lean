section
theorem dX12_knownBy_0 : decode cX12_knownBy 0 = .ok (.iconst 0, 1) := dl_3 (by decide +kernel)
theorem dX12_knownBy_1 : decode cX12_knownBy 1 = .ok (.istore 5, 2) := dl_54 (by decide +kernel)
theorem dX12_knownBy_3 : decode cX12_knownBy 3 = .ok (.iconst 0, 1) := dl_3 (by decide +kernel)
theorem dX12_knownBy_4 : decode cX12_knownBy 4 = .ok (.istore 6, 2) := dl_54 (by decide +kernel)
theorem dX12_knownBy_6 : decode cX12_knownBy 6 = .ok (.iload 6, 2) := dl_21 (by decide +kernel)
theorem dX12_knownBy_8 : decode cX12_knownBy 8 = .ok (.aload_n 0, 1) := dl_42 (by decide +kernel)
theorem dX12_knownBy_9 : decode cX12_knownBy 9 = .ok (.getfield 7, 3) := dl_180 (by decide +kernel)
theorem dX12_knownBy_12 : decode cX12_knownBy 12 = .ok (.iload_n 1, 1) := dl_27 (by decide +kernel)
theorem dX12_knownBy_13 : decode cX12_knownBy 13 = .ok (.iaload, 1) := dl_46 (by decide +kernel)
theorem dX12_knownBy_14 : decode cX12_knownBy 14 = .ok (.if_icmp .ge 189, 3) := dl_162 (by decide +kernel)
theorem dX12_knownBy_203 : decode cX12_knownBy 203 = .ok (.iload 5, 2) := dl_21 (by decide +kernel)
theorem dX12_knownBy_205 : decode cX12_knownBy 205 = .ok (.ireturn, 1) := dl_172 (by decide +kernel)
theorem dX12_knownBy_17 : decode cX12_knownBy 17 = .ok (.iconst 1, 1) := dl_4 (by decide +kernel)
theorem dX12_knownBy_18 : decode cX12_knownBy 18 = .ok (.istore 7, 2) := dl_54 (by decide +kernel)
theorem dX12_knownBy_20 : decode cX12_knownBy 20 = .ok (.iconst (-1), 1) := dl_2 (by decide +kernel)
theorem dX12_knownBy_21 : decode cX12_knownBy 21 = .ok (.istore 8, 2) := dl_54 (by decide +kernel)
theorem dX12_knownBy_23 : decode cX12_knownBy 23 = .ok (.iconst 0, 1) := dl_3 (by decide +kernel)
theorem dX12_knownBy_24 : decode cX12_knownBy 24 = .ok (.istore 9, 2) := dl_54 (by decide +kernel)
theorem dX12_knownBy_26 : decode cX12_knownBy 26 = .ok (.iload 9, 2) := dl_21 (by decide +kernel)
theorem dX12_knownBy_28 : decode cX12_knownBy 28 = .ok (.iconst 4, 1) := dl_7 (by decide +kernel)
theorem dX12_knownBy_29 : decode cX12_knownBy 29 = .ok (.if_icmp .ge 62, 3) := dl_162 (by decide +kernel)
theorem dX12_knownBy_91 : decode cX12_knownBy 91 = .ok (.iload 7, 2) := dl_21 (by decide +kernel)
theorem dX12_knownBy_93 : decode cX12_knownBy 93 = .ok (.istore 9, 2) := dl_54 (by decide +kernel)
theorem dX12_knownBy_95 : decode cX12_knownBy 95 = .ok (.iload_n 2, 1) := dl_28 (by decide +kernel)
theorem dX12_knownBy_96 : decode cX12_knownBy 96 = .ok (.bipush 9, 2) := dl_16 (by decide +kernel)
theorem dX12_knownBy_98 : decode cX12_knownBy 98 = .ok (.if_icmp .ne 26, 3) := dl_160 (by decide +kernel)
theorem dX12_knownBy_124 : decode cX12_knownBy 124 = .ok (.iload_n 2, 1) := dl_28 (by decide +kernel)
theorem dX12_knownBy_125 : decode cX12_knownBy 125 = .ok (.bipush 12, 2) := dl_16 (by decide +kernel)
theorem dX12_knownBy_127 : decode cX12_knownBy 127 = .ok (.if_icmp .ne 23, 3) := dl_160 (by decide +kernel)
theorem dX12_knownBy_150 : decode cX12_knownBy 150 = .ok (.iload_n 2, 1) := dl_28 (by decide +kernel)
theorem dX12_knownBy_151 : decode cX12_knownBy 151 = .ok (.bipush 11, 2) := dl_16 (by decide +kernel)
theorem dX12_knownBy_153 : decode cX12_knownBy 153 = .ok (.if_icmp .ne 26, 3) := dl_160 (by decide +kernel)
theorem dX12_knownBy_179 : decode cX12_knownBy 179 = .ok (.iload 5, 2) := dl_21 (by decide +kernel)
theorem dX12_knownBy_181 : decode cX12_knownBy 181 = .ok (.iload 9, 2) := dl_21 (by decide +kernel)
theorem dX12_knownBy_183 : decode cX12_knownBy 183 = .ok (.ifCond .eq 10, 3) := dl_153 (by decide +kernel)
theorem dX12_knownBy_193 : decode cX12_knownBy 193 = .ok (.iconst 0, 1) := dl_3 (by decide +kernel)
theorem dX12_knownBy_194 : decode cX12_knownBy 194 = .ok (.ior, 1) := dl_128 (by decide +kernel)
theorem dX12_knownBy_195 : decode cX12_knownBy 195 = .ok (.istore 5, 2) := dl_54 (by decide +kernel)
theorem dX12_knownBy_197 : decode cX12_knownBy 197 = .ok (.iinc 6 1, 3) := dl_132 (by decide +kernel)
theorem dX12_knownBy_200 : decode cX12_knownBy 200 = .ok (.goto (-194), 3) := dl_167 (by decide +kernel)
theorem dX12_knownBy_186 : decode cX12_knownBy 186 = .ok (.iconst 1, 1) := dl_4 (by decide +kernel)
theorem dX12_knownBy_187 : decode cX12_knownBy 187 = .ok (.iload 6, 2) := dl_21 (by decide +kernel)
theorem dX12_knownBy_189 : decode cX12_knownBy 189 = .ok (.ishl, 1) := dl_120 (by decide +kernel)
theorem dX12_knownBy_190 : decode cX12_knownBy 190 = .ok (.goto 4, 3) := dl_167 (by decide +kernel)
theorem dX12_knownBy_156 : decode cX12_knownBy 156 = .ok (.aload_n 0, 1) := dl_42 (by decide +kernel)
theorem dX12_knownBy_157 : decode cX12_knownBy 157 = .ok (.iload_n 1, 1) := dl_27 (by decide +kernel)
theorem dX12_knownBy_158 : decode cX12_knownBy 158 = .ok (.iload_n 3, 1) := dl_29 (by decide +kernel)
theorem dX12_knownBy_159 : decode cX12_knownBy 159 = .ok (.iload 6, 2) := dl_21 (by decide +kernel)
theorem dX12_knownBy_161 : decode cX12_knownBy 161 = .ok (.invokevirtual 151, 3) := dl_182 (by decide +kernel)
theorem dX12_knownBy_164 : decode cX12_knownBy 164 = .ok (.iload 4, 2) := dl_21 (by decide +kernel)
theorem dX12_knownBy_166 : decode cX12_knownBy 166 = .ok (.iconst (-1), 1) := dl_2 (by decide +kernel)
theorem dX12_knownBy_167 : decode cX12_knownBy 167 = .ok (.ixor, 1) := dl_130 (by decide +kernel)
theorem dX12_knownBy_168 : decode cX12_knownBy 168 = .ok (.iand, 1) := dl_126 (by decide +kernel)
theorem dX12_knownBy_169 : decode cX12_knownBy 169 = .ok (.ifCond .ne 7, 3) := dl_154 (by decide +kernel)
theorem dX12_knownBy_176 : decode cX12_knownBy 176 = .ok (.iconst 0, 1) := dl_3 (by decide +kernel)
theorem dX12_knownBy_177 : decode cX12_knownBy 177 = .ok (.istore 9, 2) := dl_54 (by decide +kernel)
theorem dX12_knownBy_172 : decode cX12_knownBy 172 = .ok (.iconst 1, 1) := dl_4 (by decide +kernel)
theorem dX12_knownBy_173 : decode cX12_knownBy 173 = .ok (.goto 4, 3) := dl_167 (by decide +kernel)
theorem dX12_knownBy_130 : decode cX12_knownBy 130 = .ok (.iload 8, 2) := dl_21 (by decide +kernel)
theorem dX12_knownBy_132 : decode cX12_knownBy 132 = .ok (.iload 4, 2) := dl_21 (by decide +kernel)
theorem dX12_knownBy_134 : decode cX12_knownBy 134 = .ok (.iconst (-1), 1) := dl_2 (by decide +kernel)
theorem dX12_knownBy_135 : decode cX12_knownBy 135 = .ok (.ixor, 1) := dl_130 (by decide +kernel)
theorem dX12_knownBy_136 : decode cX12_knownBy 136 = .ok (.iand, 1) := dl_126 (by decide +kernel)
theorem dX12_knownBy_137 : decode cX12_knownBy 137 = .ok (.ifCond .ne 7, 3) := dl_154 (by decide +kernel)
theorem dX12_knownBy_144 : decode cX12_knownBy 144 = .ok (.iconst 0, 1) := dl_3 (by decide +kernel)
theorem dX12_knownBy_145 : decode cX12_knownBy 145 = .ok (.istore 9, 2) := dl_54 (by decide +kernel)
theorem dX12_knownBy_147 : decode cX12_knownBy 147 = .ok (.goto 32, 3) := dl_167 (by decide +kernel)
theorem dX12_knownBy_140 : decode cX12_knownBy 140 = .ok (.iconst 1, 1) := dl_4 (by decide +kernel)
theorem dX12_knownBy_141 : decode cX12_knownBy 141 = .ok (.goto 4, 3) := dl_167 (by decide +kernel)
theorem dX12_knownBy_101 : decode cX12_knownBy 101 = .ok (.iload 7, 2) := dl_21 (by decide +kernel)
theorem dX12_knownBy_103 : decode cX12_knownBy 103 = .ok (.ifCond .ne 11, 3) := dl_154 (by decide +kernel)
theorem dX12_knownBy_114 : decode cX12_knownBy 114 = .ok (.iconst 1, 1) := dl_4 (by decide +kernel)
theorem dX12_knownBy_115 : decode cX12_knownBy 115 = .ok (.goto 4, 3) := dl_167 (by decide +kernel)
theorem dX12_knownBy_119 : decode cX12_knownBy 119 = .ok (.istore 9, 2) := dl_54 (by decide +kernel)
theorem dX12_knownBy_121 : decode cX12_knownBy 121 = .ok (.goto 58, 3) := dl_167 (by decide +kernel)
theorem dX12_knownBy_106 : decode cX12_knownBy 106 = .ok (.iload 8, 2) := dl_21 (by decide +kernel)
theorem dX12_knownBy_108 : decode cX12_knownBy 108 = .ok (.iload 4, 2) := dl_21 (by decide +kernel)
theorem dX12_knownBy_110 : decode cX12_knownBy 110 = .ok (.iand, 1) := dl_126 (by decide +kernel)
theorem dX12_knownBy_111 : decode cX12_knownBy 111 = .ok (.ifCond .ne 7, 3) := dl_154 (by decide +kernel)
theorem dX12_knownBy_118 : decode cX12_knownBy 118 = .ok (.iconst 0, 1) := dl_3 (by decide +kernel)
theorem dX12_knownBy_32 : decode cX12_knownBy 32 = .ok (.iload_n 3, 1) := dl_29 (by decide +kernel)
theorem dX12_knownBy_33 : decode cX12_knownBy 33 = .ok (.iload 9, 2) := dl_21 (by decide +kernel)
theorem dX12_knownBy_35 : decode cX12_knownBy 35 = .ok (.ishr, 1) := dl_122 (by decide +kernel)
theorem dX12_knownBy_36 : decode cX12_knownBy 36 = .ok (.iconst 1, 1) := dl_4 (by decide +kernel)
theorem dX12_knownBy_37 : decode cX12_knownBy 37 = .ok (.iand, 1) := dl_126 (by decide +kernel)
theorem dX12_knownBy_38 : decode cX12_knownBy 38 = .ok (.iconst 1, 1) := dl_4 (by decide +kernel)
theorem dX12_knownBy_39 : decode cX12_knownBy 39 = .ok (.if_icmp .ne 46, 3) := dl_160 (by decide +kernel)
theorem dX12_knownBy_85 : decode cX12_knownBy 85 = .ok (.iinc 9 1, 3) := dl_132 (by decide +kernel)
theorem dX12_knownBy_88 : decode cX12_knownBy 88 = .ok (.goto (-62), 3) := dl_167 (by decide +kernel)
theorem dX12_knownBy_42 : decode cX12_knownBy 42 = .ok (.iload 7, 2) := dl_21 (by decide +kernel)
theorem dX12_knownBy_44 : decode cX12_knownBy 44 = .ok (.ifCond .eq 24, 3) := dl_153 (by decide +kernel)
theorem dX12_knownBy_68 : decode cX12_knownBy 68 = .ok (.iconst 0, 1) := dl_3 (by decide +kernel)
theorem dX12_knownBy_69 : decode cX12_knownBy 69 = .ok (.istore 7, 2) := dl_54 (by decide +kernel)
theorem dX12_knownBy_71 : decode cX12_knownBy 71 = .ok (.iload 8, 2) := dl_21 (by decide +kernel)
theorem dX12_knownBy_73 : decode cX12_knownBy 73 = .ok (.aload_n 0, 1) := dl_42 (by decide +kernel)
theorem dX12_knownBy_74 : decode cX12_knownBy 74 = .ok (.iload_n 1, 1) := dl_27 (by decide +kernel)
theorem dX12_knownBy_75 : decode cX12_knownBy 75 = .ok (.iload 9, 2) := dl_21 (by decide +kernel)
theorem dX12_knownBy_77 : decode cX12_knownBy 77 = .ok (.iload 6, 2) := dl_21 (by decide +kernel)
theorem dX12_knownBy_79 : decode cX12_knownBy 79 = .ok (.invokevirtual 135, 3) := dl_182 (by decide +kernel)
theorem dX12_knownBy_82 : decode cX12_knownBy 82 = .ok (.iand, 1) := dl_126 (by decide +kernel)
theorem dX12_knownBy_83 : decode cX12_knownBy 83 = .ok (.istore 8, 2) := dl_54 (by decide +kernel)
theorem dX12_knownBy_47 : decode cX12_knownBy 47 = .ok (.aload_n 0, 1) := dl_42 (by decide +kernel)
theorem dX12_knownBy_48 : decode cX12_knownBy 48 = .ok (.iload_n 1, 1) := dl_27 (by decide +kernel)
theorem dX12_knownBy_49 : decode cX12_knownBy 49 = .ok (.iload 9, 2) := dl_21 (by decide +kernel)
theorem dX12_knownBy_51 : decode cX12_knownBy 51 = .ok (.iload 6, 2) := dl_21 (by decide +kernel)
theorem dX12_knownBy_53 : decode cX12_knownBy 53 = .ok (.invokevirtual 135, 3) := dl_182 (by decide +kernel)
theorem dX12_knownBy_56 : decode cX12_knownBy 56 = .ok (.iload 4, 2) := dl_21 (by decide +kernel)
theorem dX12_knownBy_58 : decode cX12_knownBy 58 = .ok (.iconst (-1), 1) := dl_2 (by decide +kernel)
theorem dX12_knownBy_59 : decode cX12_knownBy 59 = .ok (.ixor, 1) := dl_130 (by decide +kernel)
theorem dX12_knownBy_60 : decode cX12_knownBy 60 = .ok (.iand, 1) := dl_126 (by decide +kernel)
theorem dX12_knownBy_61 : decode cX12_knownBy 61 = .ok (.ifCond .ne 7, 3) := dl_154 (by decide +kernel)
theorem dX12_knownBy_64 : decode cX12_knownBy 64 = .ok (.iconst 1, 1) := dl_4 (by decide +kernel)
theorem dX12_knownBy_65 : decode cX12_knownBy 65 = .ok (.goto 4, 3) := dl_167 (by decide +kernel)
set_option maxRecDepth 100000 in
set_option maxHeartbeats 4000000 in
theorem r_knownBy (l : Launch) (E : EV) (ro : va_W) (hm : Nat) (pg : Nat) (act : Int32) (gr : Int32) (so : Int32) (m_manys : Nat) (m_reals : Nat) (m_factsOf : Nat) (m_possible : Nat) (q_undos : Nat) (q_models : Nat) (m_tape : Nat) (q_taped : Nat) (q_fault : Int32) (q_wrong : Int32) (q_wrongAt : Int32) (q_spot : Int32) (q_place : Int32) (q_token : Int32) (q_value : Int32) (m_ends : Nat) (m_letters : Nat) (m_actOf : Nat) (m_whom : Nat) (m_actMany : Nat) (m_tokens : Nat) (m_afters : Nat) (m_afterOf : Nat) (q_counted : Int32) (m_pile : Nat) (m_caseMany : Nat) (m_happen : Nat) (m_hasIf : Nat) (m_becomes : Nat) (m_goneOf : Nat) (m_heard : Nat) (m_pairs : Nat) (m_heaps : Nat) (q_rounds : Int32) (q_heapMany : Int32) (m_led : Nat) (m_newAt : Nat) (m_knowing : Nat) (m_firsts : Nat) (q_people : Nat) (m_secrets : Nat) (m_tried : Nat) (m_lanes : Nat) (m_lengths : Nat) (m_cells : Nat) (f_manys : Nat → Int32) (f_reals : Nat → Int32) (f_factsOf : Nat → Int32) (f_possible : Nat → Int32) (hb_manys : NB 18 24 f_manys) (hb_reals : NB 18 23 f_reals) (hpg : PG f_manys f_reals) (hwf : WFP (pgs f_manys f_reals f_factsOf f_possible)) (hpgl : pg < 18) (hk9 : act.toInt = 9 → ∃ k, k < 4 ∧ ∀ i, i < 4 → bt gr i = decide (i = k)) (hk12 : act.toInt = 12 → ∃ k, k < 4 ∧ bt gr k = true) : CT l yX12_knownBy (Cond.code yX12_knownBy cX12_knownBy 10 (some .int) :: TB) ({ frames := 2, cells := 0, slots := 0, locals := 50 }) E ro [.ref hm, .int (nI pg), .int act, .int gr, .int so] [(hm, .inr (12, [.ref m_manys, .ref m_reals, .ref m_factsOf, .ref m_possible, .int (nI q_undos), .int (nI q_models), .ref m_tape, .int (nI q_taped), .int q_fault, .int q_wrong, .int q_wrongAt, .int q_spot, .int q_place, .int q_token, .int q_value, .ref m_ends, .ref m_letters, .ref m_actOf, .ref m_whom, .ref m_actMany, .ref m_tokens, .ref m_afters, .ref m_afterOf, .int q_counted, .ref m_pile, .ref m_caseMany, .ref m_happen, .ref m_hasIf, .ref m_becomes, .ref m_goneOf, .ref m_heard, .ref m_pairs, .ref m_heaps, .int q_rounds, .int q_heapMany, .ref m_led, .ref m_newAt, .ref m_knowing, .ref m_firsts, .int (nI q_people), .ref m_secrets, .ref m_tried, .ref m_lanes, .ref m_lengths, .ref m_cells])), (m_manys, .inl (E.2.1 1, 18, .inl f_manys)), (m_reals, .inl (E.2.1 1, 18, .inl f_reals)), (m_factsOf, .inl (E.2.1 1, 432, .inl f_factsOf)), (m_possible, .inl (E.2.1 1, 1728, .inl f_possible))] (Qi E (fun (rz : Int32) uz => (uz = [(hm, .inr (12, [.ref m_manys, .ref m_reals, .ref m_factsOf, .ref m_possible, .int (nI q_undos), .int (nI q_models), .ref m_tape, .int (nI q_taped), .int q_fault, .int q_wrong, .int q_wrongAt, .int q_spot, .int q_place, .int q_token, .int q_value, .ref m_ends, .ref m_letters, .ref m_actOf, .ref m_whom, .ref m_actMany, .ref m_tokens, .ref m_afters, .ref m_afterOf, .int q_counted, .ref m_pile, .ref m_caseMany, .ref m_happen, .ref m_hasIf, .ref m_becomes, .ref m_goneOf, .ref m_heard, .ref m_pairs, .ref m_heaps, .int q_rounds, .int q_heapMany, .ref m_led, .ref m_newAt, .ref m_knowing, .ref m_firsts, .int (nI q_people), .ref m_secrets, .ref m_tried, .ref m_lanes, .ref m_lengths, .ref m_cells])), (m_manys, .inl (E.2.1 1, 18, .inl f_manys)), (m_reals, .inl (E.2.1 1, 18, .inl f_reals)), (m_factsOf, .inl (E.2.1 1, 432, .inl f_factsOf)), (m_possible, .inl (E.2.1 1, 1728, .inl f_possible))] ∧ (BS rz (evK act gr (pgs f_manys f_reals f_factsOf f_possible pg) (bt so)))))) 0 0 := by
  refine ct_of rfl rfl ?_
  intro X C hT hin hro
  show WW X 10 E 0 [(0, .ref hm), (1, .int (nI pg)), (2, .int act), (3, .int gr), (4, .int so)] [] [(hm, .inr (12, [.ref m_manys, .ref m_reals, .ref m_factsOf, .ref m_possible, .int (nI q_undos), .int (nI q_models), .ref m_tape, .int (nI q_taped), .int q_fault, .int q_wrong, .int q_wrongAt, .int q_spot, .int q_place, .int q_token, .int q_value, .ref m_ends, .ref m_letters, .ref m_actOf, .ref m_whom, .ref m_actMany, .ref m_tokens, .ref m_afters, .ref m_afterOf, .int q_counted, .ref m_pile, .ref m_caseMany, .ref m_happen, .ref m_hasIf, .ref m_becomes, .ref m_goneOf, .ref m_heard, .ref m_pairs, .ref m_heaps, .int q_rounds, .int q_heapMany, .ref m_led, .ref m_newAt, .ref m_knowing, .ref m_firsts, .int (nI q_people), .ref m_secrets, .ref m_tried, .ref m_lanes, .ref m_lengths, .ref m_cells])), (m_manys, .inl (E.2.1 1, 18, .inl f_manys)), (m_reals, .inl (E.2.1 1, 18, .inl f_reals)), (m_factsOf, .inl (E.2.1 1, 432, .inl f_factsOf)), (m_possible, .inl (E.2.1 1, 1728, .inl f_possible))] 0 0
  have hmn0 := (hb_manys 0 (by omega)).2
  have hmn := (hb_manys pg (by omega)).2
  refine ww_iconst (v := 0) C dX12_knownBy_0 rfl ?_
  refine ww_istore (lv' := [(5, .int 0), (0, .ref hm), (1, .int (nI pg)), (2, .int act), (3, .int gr), (4, .int so)]) C dX12_knownBy_1 rfl rfl ?_
  refine ww_iconst (v := 0) C dX12_knownBy_3 rfl ?_
  refine ww_istore (lv' := [(6, .int 0), (5, .int 0), (0, .ref hm), (1, .int (nI pg)), (2, .int act), (3, .int gr), (4, .int so)]) C dX12_knownBy_4 rfl rfl ?_
  have loop_6 : ∀ (fu : Nat) (i1 : Nat) (ac : Int32), (i1 ≤ cN f_manys pg) → (AC ac no_ i1 (KB act gr (pgs f_manys f_reals f_factsOf f_possible pg) (bt so))) → cN f_manys pg - i1 < fu → WW X 10 E 6 [(6, .int (nI i1)), (5, .int ac), (0, .ref hm), (1, .int (nI pg)), (2, .int act), (3, .int gr), (4, .int so)] [] [(hm, .inr (12, [.ref m_manys, .ref m_reals, .ref m_factsOf, .ref m_possible, .int (nI q_undos), .int (nI q_models), .ref m_tape, .int (nI q_taped), .int q_fault, .int q_wrong, .int q_wrongAt, .int q_spot, .int q_place, .int q_token, .int q_value, .ref m_ends, .ref m_letters, .ref m_actOf, .ref m_whom, .ref m_actMany, .ref m_tokens, .ref m_afters, .ref m_afterOf, .int q_counted, .ref m_pile, .ref m_caseMany, .ref m_happen, .ref m_hasIf, .ref m_becomes, .ref m_goneOf, .ref m_heard, .ref m_pairs, .ref m_heaps, .int q_rounds, .int q_heapMany, .ref m_led, .ref m_newAt, .ref m_knowing, .ref m_firsts, .int (nI q_people), .ref m_secrets, .ref m_tried, .ref m_lanes, .ref m_lengths, .ref m_cells])), (m_manys, .inl (E.2.1 1, 18, .inl f_manys)), (m_reals, .inl (E.2.1 1, 18, .inl f_reals)), (m_factsOf, .inl (E.2.1 1, 432, .inl f_factsOf)), (m_possible, .inl (E.2.1 1, 1728, .inl f_possible))] 0 0 := by
    intro fu
    induction fu with
    | zero => intro i1 ac hi1 hac hmeas; exact absurd hmeas (Nat.not_lt_zero _)
    | succ fu ih_6 =>
      intro i1 ac hi1 hac hmeas
      refine ww_iload C dX12_knownBy_6 0 rfl ?_
      refine ww_aload_n C dX12_knownBy_8 2 rfl rfl ?_
      refine ww_get C fg_X12_7 0 rfl rfl dX12_knownBy_9 ?_
      refine ww_iload_n C dX12_knownBy_12 3 rfl rfl ?_
      have hbx_1 := (hb_manys pg (by omega)).2
      refine ww_iald (v := (nI (cN f_manys pg))) C 1 rfl (vp_in_nI (by omega) (by omega)) (ldn (by omega) (hb_manys pg (by omega)).1) dX12_knownBy_13 ?_
      refine ww_icmp_ge (tgt := 203) C dX12_knownBy_14 (by decide) (fun c_2 => ?_) (fun c_2 => ?_)
      · have zc_2 : ((i1 : Nat) : Int) ≥ ((cN f_manys pg : Nat) : Int) := i_le (nI_toInt (n := cN f_manys pg) (by omega)) (nI_toInt (n := i1) (by omega)) c_2
        refine ww_iload C dX12_knownBy_203 1 rfl ?_
        exact ww_iret (u := [(hm, .inr (12, [.ref m_manys, .ref m_reals, .ref m_factsOf, .ref m_possible, .int (nI q_undos), .int (nI q_models), .ref m_tape, .int (nI q_taped), .int q_fault, .int q_wrong, .int q_wrongAt, .int q_spot, .int q_place, .int q_token, .int q_value, .ref m_ends, .ref m_letters, .ref m_actOf, .ref m_whom, .ref m_actMany, .ref m_tokens, .ref m_afters, .ref m_afterOf, .int q_counted, .ref m_pile, .ref m_caseMany, .ref m_happen, .ref m_hasIf, .ref m_becomes, .ref m_goneOf, .ref m_heard, .ref m_pairs, .ref m_heaps, .int q_rounds, .int q_heapMany, .ref m_led, .ref m_newAt, .ref m_knowing, .ref m_firsts, .int (nI q_people), .ref m_secrets, .ref m_tried, .ref m_lanes, .ref m_lengths, .ref m_cells])), (m_manys, .inl (E.2.1 1, 18, .inl f_manys)), (m_reals, .inl (E.2.1 1, 18, .inl f_reals)), (m_factsOf, .inl (E.2.1 1, 432, .inl f_factsOf)), (m_possible, .inl (E.2.1 1, 1728, .inl f_possible))]) C hT [0, 1, 2, 3, 4] rfl rfl rfl rfl dX12_knownBy_205 (⟨rfl, (AC.fin hac (show i1 = cN f_manys pg by omega))⟩)
      · have zc_2 : ((i1 : Nat) : Int) < ((cN f_manys pg : Nat) : Int) := i_nle (nI_toInt (n := cN f_manys pg) (by omega)) (nI_toInt (n := i1) (by omega)) c_2
        refine ww_iconst (v := 1) C dX12_knownBy_17 rfl ?_
        refine ww_istore (lv' := [(7, .int 1), (6, .int (nI i1)), (5, .int ac), (0, .ref hm), (1, .int (nI pg)), (2, .int act), (3, .int gr), (4, .int so)]) C dX12_knownBy_18 rfl rfl ?_
        refine ww_iconst (v := (-1)) C dX12_knownBy_20 rfl ?_
        refine ww_istore (lv' := [(8, .int (-1)), (7, .int 1), (6, .int (nI i1)), (5, .int ac), (0, .ref hm), (1, .int (nI pg)), (2, .int act), (3, .int gr), (4, .int so)]) C dX12_knownBy_21 rfl rfl ?_
        refine ww_iconst (v := 0) C dX12_knownBy_23 rfl ?_
        refine ww_istore (lv' := [(9, .int 0), (8, .int (-1)), (7, .int 1), (6, .int (nI i1)), (5, .int ac), (0, .ref hm), (1, .int (nI pg)), (2, .int act), (3, .int gr), (4, .int so)]) C dX12_knownBy_24 rfl rfl ?_
        have loop_26 : ∀ (fu : Nat) (k2 : Nat) (al : Nat) (bo : Int32), (k2 ≤ 4) → (al ≤ 1) → (decide (al = 1) = KAb (pgs f_manys f_reals f_factsOf f_possible pg) gr (bt so) i1 k2) → (BS bo (KBo (pgs f_manys f_reals f_factsOf f_possible pg) gr i1 k2)) → 4 - k2 < fu → WW X 10 E 26 [(9, .int (nI k2)), (8, .int bo), (7, .int (nI al)), (6, .int (nI i1)), (5, .int ac), (0, .ref hm), (1, .int (nI pg)), (2, .int act), (3, .int gr), (4, .int so)] [] [(hm, .inr (12, [.ref m_manys, .ref m_reals, .ref m_factsOf, .ref m_possible, .int (nI q_undos), .int (nI q_models), .ref m_tape, .int (nI q_taped), .int q_fault, .int q_wrong, .int q_wrongAt, .int q_spot, .int q_place, .int q_token, .int q_value, .ref m_ends, .ref m_letters, .ref m_actOf, .ref m_whom, .ref m_actMany, .ref m_tokens, .ref m_afters, .ref m_afterOf, .int q_counted, .ref m_pile, .ref m_caseMany, .ref m_happen, .ref m_hasIf, .ref m_becomes, .ref m_goneOf, .ref m_heard, .ref m_pairs, .ref m_heaps, .int q_rounds, .int q_heapMany, .ref m_led, .ref m_newAt, .ref m_knowing, .ref m_firsts, .int (nI q_people), .ref m_secrets, .ref m_tried, .ref m_lanes, .ref m_lengths, .ref m_cells])), (m_manys, .inl (E.2.1 1, 18, .inl f_manys)), (m_reals, .inl (E.2.1 1, 18, .inl f_reals)), (m_factsOf, .inl (E.2.1 1, 432, .inl f_factsOf)), (m_possible, .inl (E.2.1 1, 1728, .inl f_possible))] 0 0 := by
          intro fu
          induction fu with
          | zero => intro k2 al bo hk2 hal hka hbo hmeas; exact absurd hmeas (Nat.not_lt_zero _)
          | succ fu ih_26 =>
            intro k2 al bo hk2 hal hka hbo hmeas
            refine ww_iload C dX12_knownBy_26 0 rfl ?_
            refine ww_iconst (v := 4) C dX12_knownBy_28 rfl ?_
            refine ww_icmp_ge (tgt := 91) C dX12_knownBy_29 (by decide) (fun c_3 => ?_) (fun c_3 => ?_)
            · have zc_3 : ((k2 : Nat) : Int) ≥ 4 := i_le rfl (nI_toInt (n := k2) (by omega)) c_3
              refine ww_iload C dX12_knownBy_91 2 rfl ?_
              refine ww_istore (lv' := [(9, .int (nI al)), (8, .int bo), (7, .int (nI al)), (6, .int (nI i1)), (5, .int ac), (0, .ref hm), (1, .int (nI pg)), (2, .int act), (3, .int gr), (4, .int so)]) C dX12_knownBy_93 rfl rfl ?_
              refine ww_iload_n C dX12_knownBy_95 7 rfl rfl ?_
              refine ww_bipush (v := 9) C dX12_knownBy_96 rfl ?_
              refine ww_icmp_ne (tgt := 124) C dX12_knownBy_98 (by decide) (fun c_4 => ?_) (fun c_4 => ?_)
              · have zc_4 : act.toInt ≠ 9 := i_ne rfl rfl c_4
                refine ww_iload_n C dX12_knownBy_124 7 rfl rfl ?_
                refine ww_bipush (v := 12) C dX12_knownBy_125 rfl ?_
                refine ww_icmp_ne (tgt := 150) C dX12_knownBy_127 (by decide) (fun c_5 => ?_) (fun c_5 => ?_)
                · have zc_5 : act.toInt ≠ 12 := i_ne rfl rfl c_5
                  refine ww_iload_n C dX12_knownBy_150 7 rfl rfl ?_
                  refine ww_bipush (v := 11) C dX12_knownBy_151 rfl ?_
                  refine ww_icmp_ne (tgt := 179) C dX12_knownBy_153 (by decide) (fun c_6 => ?_) (fun c_6 => ?_)
                  · have zc_6 : act.toInt ≠ 11 := i_ne rfl rfl c_6
                    refine ww_iload C dX12_knownBy_179 4 rfl ?_
                    refine ww_iload C dX12_knownBy_181 0 rfl ?_
                    refine ww_if_eq (tgt := 193) C dX12_knownBy_183 (by decide) (fun c_7 => ?_) (fun c_7 => ?_)
                    · have zc_7 : ((al : Nat) : Int) = 0 := i_eq (nI_toInt (n := al) (by omega)) rfl c_7
                      refine ww_iconst (v := 0) C dX12_knownBy_193 rfl ?_
                      obtain ⟨x_8, ex_8⟩ : ∃ z : Int32, ac ||| (0 : Int32) = z := ⟨_, rfl⟩
                      refine ww_ior (v := x_8) C dX12_knownBy_194 ex_8 ?_
                      refine ww_istore (lv' := [(5, .int x_8), (9, .int (nI al)), (8, .int bo), (7, .int (nI al)), (6, .int (nI i1)), (0, .ref hm), (1, .int (nI pg)), (2, .int act), (3, .int gr), (4, .int so)]) C dX12_knownBy_195 rfl rfl ?_
                      refine ww_iinc (j := 4) (v := (nI (i1 + 1))) (lv' := [(6, .int (nI (i1 + 1))), (5, .int x_8), (9, .int (nI al)), (8, .int bo), (7, .int (nI al)), (0, .ref hm), (1, .int (nI pg)), (2, .int act), (3, .int gr), (4, .int so)]) C dX12_knownBy_197 rfl (nI_add i1 1) rfl rfl ?_
                      refine ww_goto (tgt := 6) C dX12_knownBy_200 (by decide) ?_
                      exact ww_lv [0, 1, 5, 6, 7, 8, 9] rfl (ww_sub [0, 1, 2, 3, 4] rfl rfl (ih_6 (i1 + 1) x_8 (by omega) (by first | exact AC.t hac (by omega) (by first | exact kb_o (by assumption) (by assumption) (by assumption) (by have h9 : k2 = 4 := (by omega); rw [h9] at hka; exact hka) (decide_eq_true (by omega)) | exact kb_11 (by assumption) hbo (by assumption) (by assumption) (decide_eq_true (by first | exact i_z (by assumption) | exact i_nz (by assumption))) | exact kb_12 (by assumption) (hwf pg (by omega)) (hk12 (by assumption)) (by have h9 : k2 = 4 := (by omega); rw [h9] at hbo; exact hbo) (by assumption) (by assumption) (decide_eq_true (by first | exact i_z (by assumption) | exact i_nz (by assumption))) | exact kb_9 (by assumption) (by have h9 : k2 = 4 := (by omega); rw [h9] at hka; exact hka) (by omega) (hk9 (by assumption)) (by have h9 : k2 = 4 := (by omega); rw [h9] at hbo; exact hbo) (by assumption) (decide_eq_true (by first | exact i_z (by assumption) | exact i_nz (by assumption))) | exact kb_9a (by assumption) (by have h9 : k2 = 4 := (by omega); rw [h9] at hka; exact hka) (by omega)) (by assumption) (by assumption) | exact AC.z hac (by first | exact kb_o (by assumption) (by assumption) (by assumption) (by have h9 : k2 = 4 := (by omega); rw [h9] at hka; exact hka) (decide_eq_false (by omega)) | exact kb_11 (by assumption) hbo (by assumption) (by assumption) (decide_eq_false (by first | exact i_z (by assumption) | exact i_nz (by assumption))) | exact kb_12 (by assumption) (hwf pg (by omega)) (hk12 (by assumption)) (by have h9 : k2 = 4 := (by omega); rw [h9] at hbo; exact hbo) (by assumption) (by assumption) (decide_eq_false (by first | exact i_z (by assumption) | exact i_nz (by assumption))) | exact kb_9 (by assumption) (by have h9 : k2 = 4 := (by omega); rw [h9] at hka; exact hka) (by omega) (hk9 (by assumption)) (by have h9 : k2 = 4 := (by omega); rw [h9] at hbo; exact hbo) (by assumption) (decide_eq_false (by first | exact i_z (by assumption) | exact i_nz (by assumption)))) (by assumption)) (by omega)))
                    · have zc_7 : ((al : Nat) : Int) ≠ 0 := i_ne (nI_toInt (n := al) (by omega)) rfl c_7
                      refine ww_iconst (v := 1) C dX12_knownBy_186 rfl ?_
                      refine ww_iload C dX12_knownBy_187 3 rfl ?_
                      obtain ⟨x_9, ex_9⟩ : ∃ z : Int32, (1 : Int32) <<< ((nI i1) &&& 31) = z := ⟨_, rfl⟩
                      refine ww_ishl (v := x_9) C dX12_knownBy_189 ex_9 ?_
                      refine ww_goto (tgt := 194) C dX12_knownBy_190 (by decide) ?_
                      obtain ⟨x_10, ex_10⟩ : ∃ z : Int32, ac ||| x_9 = z := ⟨_, rfl⟩
                      refine ww_ior (v := x_10) C dX12_knownBy_194 ex_10 ?_
                      refine ww_istore (lv' := [(5, .int x_10), (9, .int (nI al)), (8, .int bo), (7, .int (nI al)), (6, .int (nI i1)), (0, .ref hm), (1, .int (nI pg)), (2, .int act), (3, .int gr), (4, .int so)]) C dX12_knownBy_195 rfl rfl ?_
                      refine ww_iinc (j := 4) (v := (nI (i1 + 1))) (lv' := [(6, .int (nI (i1 + 1))), (5, .int x_10), (9, .int (nI al)), (8, .int bo), (7, .int (nI al)), (0, .ref hm), (1, .int (nI pg)), (2, .int act), (3, .int gr), (4, .int so)]) C dX12_knownBy_197 rfl (nI_add i1 1) rfl rfl ?_
                      refine ww_goto (tgt := 6) C dX12_knownBy_200 (by decide) ?_
                      exact ww_lv [0, 1, 5, 6, 7, 8, 9] rfl (ww_sub [0, 1, 2, 3, 4] rfl rfl (ih_6 (i1 + 1) x_10 (by omega) (by first | exact AC.t hac (by omega) (by first | exact kb_o (by assumption) (by assumption) (by assumption) (by have h9 : k2 = 4 := (by omega); rw [h9] at hka; exact hka) (decide_eq_true (by omega)) | exact kb_11 (by assumption) hbo (by assumption) (by assumption) (decide_eq_true (by first | exact i_z (by assumption) | exact i_nz (by assumption))) | exact kb_12 (by assumption) (hwf pg (by omega)) (hk12 (by assumption)) (by have h9 : k2 = 4 := (by omega); rw [h9] at hbo; exact hbo) (by assumption) (by assumption) (decide_eq_true (by first | exact i_z (by assumption) | exact i_nz (by assumption))) | exact kb_9 (by assumption) (by have h9 : k2 = 4 := (by omega); rw [h9] at hka; exact hka) (by omega) (hk9 (by assumption)) (by have h9 : k2 = 4 := (by omega); rw [h9] at hbo; exact hbo) (by assumption) (decide_eq_true (by first | exact i_z (by assumption) | exact i_nz (by assumption))) | exact kb_9a (by assumption) (by have h9 : k2 = 4 := (by omega); rw [h9] at hka; exact hka) (by omega)) (by assumption) (by assumption) | exact AC.z hac (by first | exact kb_o (by assumption) (by assumption) (by assumption) (by have h9 : k2 = 4 := (by omega); rw [h9] at hka; exact hka) (decide_eq_false (by omega)) | exact kb_11 (by assumption) hbo (by assumption) (by assumption) (decide_eq_false (by first | exact i_z (by assumption) | exact i_nz (by assumption))) | exact kb_12 (by assumption) (hwf pg (by omega)) (hk12 (by assumption)) (by have h9 : k2 = 4 := (by omega); rw [h9] at hbo; exact hbo) (by assumption) (by assumption) (decide_eq_false (by first | exact i_z (by assumption) | exact i_nz (by assumption))) | exact kb_9 (by assumption) (by have h9 : k2 = 4 := (by omega); rw [h9] at hka; exact hka) (by omega) (hk9 (by assumption)) (by have h9 : k2 = 4 := (by omega); rw [h9] at hbo; exact hbo) (by assumption) (decide_eq_false (by first | exact i_z (by assumption) | exact i_nz (by assumption)))) (by assumption)) (by omega)))
                  · have zc_6 : act.toInt = 11 := i_eq rfl rfl c_6
                    refine ww_aload_n C dX12_knownBy_156 5 rfl rfl ?_
                    refine ww_iload_n C dX12_knownBy_157 6 rfl rfl ?_
                    refine ww_iload_n C dX12_knownBy_158 8 rfl rfl ?_
                    refine ww_iload C dX12_knownBy_159 3 rfl ?_
                    refine ww_ci (wr := []) (k' := 0) (n' := 0) C (run_V (As := [.int (nI pg), .int gr, .int (nI i1)]) (rest := []) C (r_reached X.2.1 E ro hm pg gr i1 m_manys m_reals m_factsOf m_possible q_undos q_models m_tape q_taped q_fault q_wrong q_wrongAt q_spot q_place q_token q_value m_ends m_letters m_actOf m_whom m_actMany m_tokens m_afters m_afterOf q_counted m_pile m_caseMany m_happen m_hasIf m_becomes m_goneOf m_heard m_pairs m_heaps q_rounds q_heapMany m_led m_newAt m_knowing m_firsts q_people m_secrets m_tried m_lanes m_lengths m_cells f_manys f_reals f_factsOf f_possible hb_manys hb_reals hpg hwf (by omega) (by omega)) mi_X12_reached wl_X12_151 rfl 0 12 rfl rfl rfl rfl rfl dX12_knownBy_161) (roK hro) [0, 1, 2, 3, 4] [] rfl rfl rfl rfl (fun r_11 uz hw => ?_)
                    refine an1 hw ?_
                    clear hw
                    intro he_13 hw
                    have h_12 := hw
                    clear hw
                    subst he_13
                    refine ww_eq (ws' := [(hm, .inr (12, [.ref m_manys, .ref m_reals, .ref m_factsOf, .ref m_possible, .int (nI q_undos), .int (nI q_models), .ref m_tape, .int (nI q_taped), .int q_fault, .int q_wrong, .int q_wrongAt, .int q_spot, .int q_place, .int q_token, .int q_value, .ref m_ends, .ref m_letters, .ref m_actOf, .ref m_whom, .ref m_actMany, .ref m_tokens, .ref m_afters, .ref m_afterOf, .int q_counted, .ref m_pile, .ref m_caseMany, .ref m_happen, .ref m_hasIf, .ref m_becomes, .ref m_goneOf, .ref m_heard, .ref m_pairs, .ref m_heaps, .int q_rounds, .int q_heapMany, .ref m_led, .ref m_newAt, .ref m_knowing, .ref m_firsts, .int (nI q_people), .ref m_secrets, .ref m_tried, .ref m_lanes, .ref m_lengths, .ref m_cells])), (m_manys, .inl (E.2.1 1, 18, .inl f_manys)), (m_reals, .inl (E.2.1 1, 18, .inl f_reals)), (m_factsOf, .inl (E.2.1 1, 432, .inl f_factsOf)), (m_possible, .inl (E.2.1 1, 1728, .inl f_possible))]) ?_ rfl rfl rfl
                    refine ww_iload C dX12_knownBy_164 9 rfl ?_
                    refine ww_iconst (v := (-1)) C dX12_knownBy_166 rfl ?_
                    obtain ⟨x_14, ex_14⟩ : ∃ z : Int32, so ^^^ ((-1) : Int32) = z := ⟨_, rfl⟩
                    refine ww_ixor (v := x_14) C dX12_knownBy_167 ex_14 ?_
                    obtain ⟨x_15, ex_15⟩ : ∃ z : Int32, r_11 &&& x_14 = z := ⟨_, rfl⟩
                    refine ww_iand (v := x_15) C dX12_knownBy_168 ex_15 ?_
                    refine ww_if_ne (tgt := 176) C dX12_knownBy_169 (by decide) (fun c_16 => ?_) (fun c_16 => ?_)
                    · have zc_16 : x_15.toInt ≠ 0 := i_ne rfl rfl c_16
                      refine ww_iconst (v := 0) C dX12_knownBy_176 rfl ?_
                      refine ww_istore (lv' := [(9, .int 0), (8, .int bo), (7, .int (nI al)), (6, .int (nI i1)), (5, .int ac), (0, .ref hm), (1, .int (nI pg)), (2, .int act), (3, .int gr), (4, .int so)]) C dX12_knownBy_177 rfl rfl ?_
                      refine ww_iload C dX12_knownBy_179 4 rfl ?_
                      refine ww_iload C dX12_knownBy_181 0 rfl ?_
                      refine ww_if_eq_t (tgt := 193) C dX12_knownBy_183 (by decide) (rfl) ?_
                      refine ww_iconst (v := 0) C dX12_knownBy_193 rfl ?_
                      obtain ⟨x_17, ex_17⟩ : ∃ z : Int32, ac ||| (0 : Int32) = z := ⟨_, rfl⟩
                      refine ww_ior (v := x_17) C dX12_knownBy_194 ex_17 ?_
                      refine ww_istore (lv' := [(5, .int x_17), (9, .int 0), (8, .int bo), (7, .int (nI al)), (6, .int (nI i1)), (0, .ref hm), (1, .int (nI pg)), (2, .int act), (3, .int gr), (4, .int so)]) C dX12_knownBy_195 rfl rfl ?_
                      refine ww_iinc (j := 4) (v := (nI (i1 + 1))) (lv' := [(6, .int (nI (i1 + 1))), (5, .int x_17), (9, .int 0), (8, .int bo), (7, .int (nI al)), (0, .ref hm), (1, .int (nI pg)), (2, .int act), (3, .int gr), (4, .int so)]) C dX12_knownBy_197 rfl (nI_add i1 1) rfl rfl ?_
                      refine ww_goto (tgt := 6) C dX12_knownBy_200 (by decide) ?_
                      exact ww_lv [0, 1, 5, 6, 7, 8, 9] rfl (ww_sub [0, 1, 2, 3, 4] rfl rfl (ih_6 (i1 + 1) x_17 (by omega) (by first | exact AC.t hac (by omega) (by first | exact kb_o (by assumption) (by assumption) (by assumption) (by have h9 : k2 = 4 := (by omega); rw [h9] at hka; exact hka) (decide_eq_true (by omega)) | exact kb_11 (by assumption) h_12 (by assumption) (by assumption) (decide_eq_true (by first | exact i_z (by assumption) | exact i_nz (by assumption))) | exact kb_12 (by assumption) (hwf pg (by omega)) (hk12 (by assumption)) (by have h9 : k2 = 4 := (by omega); rw [h9] at hbo; exact hbo) (by assumption) (by assumption) (decide_eq_true (by first | exact i_z (by assumption) | exact i_nz (by assumption))) | exact kb_9 (by assumption) (by have h9 : k2 = 4 := (by omega); rw [h9] at hka; exact hka) (by omega) (hk9 (by assumption)) (by have h9 : k2 = 4 := (by omega); rw [h9] at hbo; exact hbo) (by assumption) (decide_eq_true (by first | exact i_z (by assumption) | exact i_nz (by assumption))) | exact kb_9a (by assumption) (by have h9 : k2 = 4 := (by omega); rw [h9] at hka; exact hka) (by omega)) (by assumption) (by assumption) | exact AC.z hac (by first | exact kb_o (by assumption) (by assumption) (by assumption) (by have h9 : k2 = 4 := (by omega); rw [h9] at hka; exact hka) (decide_eq_false (by omega)) | exact kb_11 (by assumption) h_12 (by assumption) (by assumption) (decide_eq_false (by first | exact i_z (by assumption) | exact i_nz (by assumption))) | exact kb_12 (by assumption) (hwf pg (by omega)) (hk12 (by assumption)) (by have h9 : k2 = 4 := (by omega); rw [h9] at hbo; exact hbo) (by assumption) (by assumption) (decide_eq_false (by first | exact i_z (by assumption) | exact i_nz (by assumption))) | exact kb_9 (by assumption) (by have h9 : k2 = 4 := (by omega); rw [h9] at hka; exact hka) (by omega) (hk9 (by assumption)) (by have h9 : k2 = 4 := (by omega); rw [h9] at hbo; exact hbo) (by assumption) (decide_eq_false (by first | exact i_z (by assumption) | exact i_nz (by assumption)))) (by assumption)) (by omega)))
                    · have zc_16 : x_15.toInt = 0 := i_eq rfl rfl c_16
                      refine ww_iconst (v := 1) C dX12_knownBy_172 rfl ?_
                      refine ww_goto (tgt := 177) C dX12_knownBy_173 (by decide) ?_
                      refine ww_istore (lv' := [(9, .int 1), (8, .int bo), (7, .int (nI al)), (6, .int (nI i1)), (5, .int ac), (0, .ref hm), (1, .int (nI pg)), (2, .int act), (3, .int gr), (4, .int so)]) C dX12_knownBy_177 rfl rfl ?_
                      refine ww_iload C dX12_knownBy_179 4 rfl ?_
                      refine ww_iload C dX12_knownBy_181 0 rfl ?_
                      refine ww_if_eq_f (tgt := 193) C dX12_knownBy_183 (by decide) (by decide) ?_
                      refine ww_iconst (v := 1) C dX12_knownBy_186 rfl ?_
                      refine ww_iload C dX12_knownBy_187 3 rfl ?_
                      obtain ⟨x_18, ex_18⟩ : ∃ z : Int32, (1 : Int32) <<< ((nI i1) &&& 31) = z := ⟨_, rfl⟩
                      refine ww_ishl (v := x_18) C dX12_knownBy_189 ex_18 ?_
                      refine ww_goto (tgt := 194) C dX12_knownBy_190 (by decide) ?_
                      obtain ⟨x_19, ex_19⟩ : ∃ z : Int32, ac ||| x_18 = z := ⟨_, rfl⟩
                      refine ww_ior (v := x_19) C dX12_knownBy_194 ex_19 ?_
                      refine ww_istore (lv' := [(5, .int x_19), (9, .int 1), (8, .int bo), (7, .int (nI al)), (6, .int (nI i1)), (0, .ref hm), (1, .int (nI pg)), (2, .int act), (3, .int gr), (4, .int so)]) C dX12_knownBy_195 rfl rfl ?_
                      refine ww_iinc (j := 4) (v := (nI (i1 + 1))) (lv' := [(6, .int (nI (i1 + 1))), (5, .int x_19), (9, .int 1), (8, .int bo), (7, .int (nI al)), (0, .ref hm), (1, .int (nI pg)), (2, .int act), (3, .int gr), (4, .int so)]) C dX12_knownBy_197 rfl (nI_add i1 1) rfl rfl ?_
                      refine ww_goto (tgt := 6) C dX12_knownBy_200 (by decide) ?_
                      exact ww_lv [0, 1, 5, 6, 7, 8, 9] rfl (ww_sub [0, 1, 2, 3, 4] rfl rfl (ih_6 (i1 + 1) x_19 (by omega) (by first | exact AC.t hac (by omega) (by first | exact kb_o (by assumption) (by assumption) (by assumption) (by have h9 : k2 = 4 := (by omega); rw [h9] at hka; exact hka) (decide_eq_true (by omega)) | exact kb_11 (by assumption) h_12 (by assumption) (by assumption) (decide_eq_true (by first | exact i_z (by assumption) | exact i_nz (by assumption))) | exact kb_12 (by assumption) (hwf pg (by omega)) (hk12 (by assumption)) (by have h9 : k2 = 4 := (by omega); rw [h9] at hbo; exact hbo) (by assumption) (by assumption) (decide_eq_true (by first | exact i_z (by assumption) | exact i_nz (by assumption))) | exact kb_9 (by assumption) (by have h9 : k2 = 4 := (by omega); rw [h9] at hka; exact hka) (by omega) (hk9 (by assumption)) (by have h9 : k2 = 4 := (by omega); rw [h9] at hbo; exact hbo) (by assumption) (decide_eq_true (by first | exact i_z (by assumption) | exact i_nz (by assumption))) | exact kb_9a (by assumption) (by have h9 : k2 = 4 := (by omega); rw [h9] at hka; exact hka) (by omega)) (by assumption) (by assumption) | exact AC.z hac (by first | exact kb_o (by assumption) (by assumption) (by assumption) (by have h9 : k2 = 4 := (by omega); rw [h9] at hka; exact hka) (decide_eq_false (by omega)) | exact kb_11 (by assumption) h_12 (by assumption) (by assumption) (decide_eq_false (by first | exact i_z (by assumption) | exact i_nz (by assumption))) | exact kb_12 (by assumption) (hwf pg (by omega)) (hk12 (by assumption)) (by have h9 : k2 = 4 := (by omega); rw [h9] at hbo; exact hbo) (by assumption) (by assumption) (decide_eq_false (by first | exact i_z (by assumption) | exact i_nz (by assumption))) | exact kb_9 (by assumption) (by have h9 : k2 = 4 := (by omega); rw [h9] at hka; exact hka) (by omega) (hk9 (by assumption)) (by have h9 : k2 = 4 := (by omega); rw [h9] at hbo; exact hbo) (by assumption) (decide_eq_false (by first | exact i_z (by assumption) | exact i_nz (by assumption)))) (by assumption)) (by omega)))
                · have zc_5 : act.toInt = 12 := i_eq rfl rfl c_5
                  refine ww_iload C dX12_knownBy_130 1 rfl ?_
                  refine ww_iload C dX12_knownBy_132 9 rfl ?_
                  refine ww_iconst (v := (-1)) C dX12_knownBy_134 rfl ?_
                  obtain ⟨x_20, ex_20⟩ : ∃ z : Int32, so ^^^ ((-1) : Int32) = z := ⟨_, rfl⟩
                  refine ww_ixor (v := x_20) C dX12_knownBy_135 ex_20 ?_
                  obtain ⟨x_21, ex_21⟩ : ∃ z : Int32, bo &&& x_20 = z := ⟨_, rfl⟩
                  refine ww_iand (v := x_21) C dX12_knownBy_136 ex_21 ?_
                  refine ww_if_ne (tgt := 144) C dX12_knownBy_137 (by decide) (fun c_22 => ?_) (fun c_22 => ?_)
                  · have zc_22 : x_21.toInt ≠ 0 := i_ne rfl rfl c_22
                    refine ww_iconst (v := 0) C dX12_knownBy_144 rfl ?_
                    refine ww_istore (lv' := [(9, .int 0), (8, .int bo), (7, .int (nI al)), (6, .int (nI i1)), (5, .int ac), (0, .ref hm), (1, .int (nI pg)), (2, .int act), (3, .int gr), (4, .int so)]) C dX12_knownBy_145 rfl rfl ?_
                    refine ww_goto (tgt := 179) C dX12_knownBy_147 (by decide) ?_
                    refine ww_iload C dX12_knownBy_179 4 rfl ?_
                    refine ww_iload C dX12_knownBy_181 0 rfl ?_
                    refine ww_if_eq_t (tgt := 193) C dX12_knownBy_183 (by decide) (rfl) ?_
                    refine ww_iconst (v := 0) C dX12_knownBy_193 rfl ?_
                    obtain ⟨x_23, ex_23⟩ : ∃ z : Int32, ac ||| (0 : Int32) = z := ⟨_, rfl⟩
                    refine ww_ior (v := x_23) C dX12_knownBy_194 ex_23 ?_
                    refine ww_istore (lv' := [(5, .int x_23), (9, .int 0), (8, .int bo), (7, .int (nI al)), (6, .int (nI i1)), (0, .ref hm), (1, .int (nI pg)), (2, .int act), (3, .int gr), (4, .int so)]) C dX12_knownBy_195 rfl rfl ?_
                    refine ww_iinc (j := 4) (v := (nI (i1 + 1))) (lv' := [(6, .int (nI (i1 + 1))), (5, .int x_23), (9, .int 0), (8, .int bo), (7, .int (nI al)), (0, .ref hm), (1, .int (nI pg)), (2, .int act), (3, .int gr), (4, .int so)]) C dX12_knownBy_197 rfl (nI_add i1 1) rfl rfl ?_
                    refine ww_goto (tgt := 6) C dX12_knownBy_200 (by decide) ?_
                    exact ww_lv [0, 1, 5, 6, 7, 8, 9] rfl (ww_sub [0, 1, 2, 3, 4] rfl rfl (ih_6 (i1 + 1) x_23 (by omega) (by first | exact AC.t hac (by omega) (by first | exact kb_o (by assumption) (by assumption) (by assumption) (by have h9 : k2 = 4 := (by omega); rw [h9] at hka; exact hka) (decide_eq_true (by omega)) | exact kb_11 (by assumption) hbo (by assumption) (by assumption) (decide_eq_true (by first | exact i_z (by assumption) | exact i_nz (by assumption))) | exact kb_12 (by assumption) (hwf pg (by omega)) (hk12 (by assumption)) (by have h9 : k2 = 4 := (by omega); rw [h9] at hbo; exact hbo) (by assumption) (by assumption) (decide_eq_true (by first | exact i_z (by assumption) | exact i_nz (by assumption))) | exact kb_9 (by assumption) (by have h9 : k2 = 4 := (by omega); rw [h9] at hka; exact hka) (by omega) (hk9 (by assumption)) (by have h9 : k2 = 4 := (by omega); rw [h9] at hbo; exact hbo) (by assumption) (decide_eq_true (by first | exact i_z (by assumption) | exact i_nz (by assumption))) | exact kb_9a (by assumption) (by have h9 : k2 = 4 := (by omega); rw [h9] at hka; exact hka) (by omega)) (by assumption) (by assumption) | exact AC.z hac (by first | exact kb_o (by assumption) (by assumption) (by assumption) (by have h9 : k2 = 4 := (by omega); rw [h9] at hka; exact hka) (decide_eq_false (by omega)) | exact kb_11 (by assumption) hbo (by assumption) (by assumption) (decide_eq_false (by first | exact i_z (by assumption) | exact i_nz (by assumption))) | exact kb_12 (by assumption) (hwf pg (by omega)) (hk12 (by assumption)) (by have h9 : k2 = 4 := (by omega); rw [h9] at hbo; exact hbo) (by assumption) (by assumption) (decide_eq_false (by first | exact i_z (by assumption) | exact i_nz (by assumption))) | exact kb_9 (by assumption) (by have h9 : k2 = 4 := (by omega); rw [h9] at hka; exact hka) (by omega) (hk9 (by assumption)) (by have h9 : k2 = 4 := (by omega); rw [h9] at hbo; exact hbo) (by assumption) (decide_eq_false (by first | exact i_z (by assumption) | exact i_nz (by assumption)))) (by assumption)) (by omega)))
                  · have zc_22 : x_21.toInt = 0 := i_eq rfl rfl c_22
                    refine ww_iconst (v := 1) C dX12_knownBy_140 rfl ?_
                    refine ww_goto (tgt := 145) C dX12_knownBy_141 (by decide) ?_
                    refine ww_istore (lv' := [(9, .int 1), (8, .int bo), (7, .int (nI al)), (6, .int (nI i1)), (5, .int ac), (0, .ref hm), (1, .int (nI pg)), (2, .int act), (3, .int gr), (4, .int so)]) C dX12_knownBy_145 rfl rfl ?_
                    refine ww_goto (tgt := 179) C dX12_knownBy_147 (by decide) ?_
                    refine ww_iload C dX12_knownBy_179 4 rfl ?_
                    refine ww_iload C dX12_knownBy_181 0 rfl ?_
                    refine ww_if_eq_f (tgt := 193) C dX12_knownBy_183 (by decide) (by decide) ?_
                    refine ww_iconst (v := 1) C dX12_knownBy_186 rfl ?_
                    refine ww_iload C dX12_knownBy_187 3 rfl ?_
                    obtain ⟨x_24, ex_24⟩ : ∃ z : Int32, (1 : Int32) <<< ((nI i1) &&& 31) = z := ⟨_, rfl⟩
                    refine ww_ishl (v := x_24) C dX12_knownBy_189 ex_24 ?_
                    refine ww_goto (tgt := 194) C dX12_knownBy_190 (by decide) ?_
                    obtain ⟨x_25, ex_25⟩ : ∃ z : Int32, ac ||| x_24 = z := ⟨_, rfl⟩
                    refine ww_ior (v := x_25) C dX12_knownBy_194 ex_25 ?_
                    refine ww_istore (lv' := [(5, .int x_25), (9, .int 1), (8, .int bo), (7, .int (nI al)), (6, .int (nI i1)), (0, .ref hm), (1, .int (nI pg)), (2, .int act), (3, .int gr), (4, .int so)]) C dX12_knownBy_195 rfl rfl ?_
                    refine ww_iinc (j := 4) (v := (nI (i1 + 1))) (lv' := [(6, .int (nI (i1 + 1))), (5, .int x_25), (9, .int 1), (8, .int bo), (7, .int (nI al)), (0, .ref hm), (1, .int (nI pg)), (2, .int act), (3, .int gr), (4, .int so)]) C dX12_knownBy_197 rfl (nI_add i1 1) rfl rfl ?_
                    refine ww_goto (tgt := 6) C dX12_knownBy_200 (by decide) ?_
                    exact ww_lv [0, 1, 5, 6, 7, 8, 9] rfl (ww_sub [0, 1, 2, 3, 4] rfl rfl (ih_6 (i1 + 1) x_25 (by omega) (by first | exact AC.t hac (by omega) (by first | exact kb_o (by assumption) (by assumption) (by assumption) (by have h9 : k2 = 4 := (by omega); rw [h9] at hka; exact hka) (decide_eq_true (by omega)) | exact kb_11 (by assumption) hbo (by assumption) (by assumption) (decide_eq_true (by first | exact i_z (by assumption) | exact i_nz (by assumption))) | exact kb_12 (by assumption) (hwf pg (by omega)) (hk12 (by assumption)) (by have h9 : k2 = 4 := (by omega); rw [h9] at hbo; exact hbo) (by assumption) (by assumption) (decide_eq_true (by first | exact i_z (by assumption) | exact i_nz (by assumption))) | exact kb_9 (by assumption) (by have h9 : k2 = 4 := (by omega); rw [h9] at hka; exact hka) (by omega) (hk9 (by assumption)) (by have h9 : k2 = 4 := (by omega); rw [h9] at hbo; exact hbo) (by assumption) (decide_eq_true (by first | exact i_z (by assumption) | exact i_nz (by assumption))) | exact kb_9a (by assumption) (by have h9 : k2 = 4 := (by omega); rw [h9] at hka; exact hka) (by omega)) (by assumption) (by assumption) | exact AC.z hac (by first | exact kb_o (by assumption) (by assumption) (by assumption) (by have h9 : k2 = 4 := (by omega); rw [h9] at hka; exact hka) (decide_eq_false (by omega)) | exact kb_11 (by assumption) hbo (by assumption) (by assumption) (decide_eq_false (by first | exact i_z (by assumption) | exact i_nz (by assumption))) | exact kb_12 (by assumption) (hwf pg (by omega)) (hk12 (by assumption)) (by have h9 : k2 = 4 := (by omega); rw [h9] at hbo; exact hbo) (by assumption) (by assumption) (decide_eq_false (by first | exact i_z (by assumption) | exact i_nz (by assumption))) | exact kb_9 (by assumption) (by have h9 : k2 = 4 := (by omega); rw [h9] at hka; exact hka) (by omega) (hk9 (by assumption)) (by have h9 : k2 = 4 := (by omega); rw [h9] at hbo; exact hbo) (by assumption) (decide_eq_false (by first | exact i_z (by assumption) | exact i_nz (by assumption)))) (by assumption)) (by omega)))
              · have zc_4 : act.toInt = 9 := i_eq rfl rfl c_4
                refine ww_iload C dX12_knownBy_101 2 rfl ?_
                refine ww_if_ne (tgt := 114) C dX12_knownBy_103 (by decide) (fun c_26 => ?_) (fun c_26 => ?_)
                · have zc_26 : ((al : Nat) : Int) ≠ 0 := i_ne (nI_toInt (n := al) (by omega)) rfl c_26
                  refine ww_iconst (v := 1) C dX12_knownBy_114 rfl ?_
                  refine ww_goto (tgt := 119) C dX12_knownBy_115 (by decide) ?_
                  refine ww_istore (lv' := [(9, .int 1), (8, .int bo), (7, .int (nI al)), (6, .int (nI i1)), (5, .int ac), (0, .ref hm), (1, .int (nI pg)), (2, .int act), (3, .int gr), (4, .int so)]) C dX12_knownBy_119 rfl rfl ?_
                  refine ww_goto (tgt := 179) C dX12_knownBy_121 (by decide) ?_
                  refine ww_iload C dX12_knownBy_179 4 rfl ?_
                  refine ww_iload C dX12_knownBy_181 0 rfl ?_
                  refine ww_if_eq_f (tgt := 193) C dX12_knownBy_183 (by decide) (by decide) ?_
                  refine ww_iconst (v := 1) C dX12_knownBy_186 rfl ?_
                  refine ww_iload C dX12_knownBy_187 3 rfl ?_
                  obtain ⟨x_27, ex_27⟩ : ∃ z : Int32, (1 : Int32) <<< ((nI i1) &&& 31) = z := ⟨_, rfl⟩
                  refine ww_ishl (v := x_27) C dX12_knownBy_189 ex_27 ?_
                  refine ww_goto (tgt := 194) C dX12_knownBy_190 (by decide) ?_
                  obtain ⟨x_28, ex_28⟩ : ∃ z : Int32, ac ||| x_27 = z := ⟨_, rfl⟩
                  refine ww_ior (v := x_28) C dX12_knownBy_194 ex_28 ?_
                  refine ww_istore (lv' := [(5, .int x_28), (9, .int 1), (8, .int bo), (7, .int (nI al)), (6, .int (nI i1)), (0, .ref hm), (1, .int (nI pg)), (2, .int act), (3, .int gr), (4, .int so)]) C dX12_knownBy_195 rfl rfl ?_
                  refine ww_iinc (j := 4) (v := (nI (i1 + 1))) (lv' := [(6, .int (nI (i1 + 1))), (5, .int x_28), (9, .int 1), (8, .int bo), (7, .int (nI al)), (0, .ref hm), (1, .int (nI pg)), (2, .int act), (3, .int gr), (4, .int so)]) C dX12_knownBy_197 rfl (nI_add i1 1) rfl rfl ?_
                  refine ww_goto (tgt := 6) C dX12_knownBy_200 (by decide) ?_
                  exact ww_lv [0, 1, 5, 6, 7, 8, 9] rfl (ww_sub [0, 1, 2, 3, 4] rfl rfl (ih_6 (i1 + 1) x_28 (by omega) (by first | exact AC.t hac (by omega) (by first | exact kb_o (by assumption) (by assumption) (by assumption) (by have h9 : k2 = 4 := (by omega); rw [h9] at hka; exact hka) (decide_eq_true (by omega)) | exact kb_11 (by assumption) hbo (by assumption) (by assumption) (decide_eq_true (by first | exact i_z (by assumption) | exact i_nz (by assumption))) | exact kb_12 (by assumption) (hwf pg (by omega)) (hk12 (by assumption)) (by have h9 : k2 = 4 := (by omega); rw [h9] at hbo; exact hbo) (by assumption) (by assumption) (decide_eq_true (by first | exact i_z (by assumption) | exact i_nz (by assumption))) | exact kb_9 (by assumption) (by have h9 : k2 = 4 := (by omega); rw [h9] at hka; exact hka) (by omega) (hk9 (by assumption)) (by have h9 : k2 = 4 := (by omega); rw [h9] at hbo; exact hbo) (by assumption) (decide_eq_true (by first | exact i_z (by assumption) | exact i_nz (by assumption))) | exact kb_9a (by assumption) (by have h9 : k2 = 4 := (by omega); rw [h9] at hka; exact hka) (by omega)) (by assumption) (by assumption) | exact AC.z hac (by first | exact kb_o (by assumption) (by assumption) (by assumption) (by have h9 : k2 = 4 := (by omega); rw [h9] at hka; exact hka) (decide_eq_false (by omega)) | exact kb_11 (by assumption) hbo (by assumption) (by assumption) (decide_eq_false (by first | exact i_z (by assumption) | exact i_nz (by assumption))) | exact kb_12 (by assumption) (hwf pg (by omega)) (hk12 (by assumption)) (by have h9 : k2 = 4 := (by omega); rw [h9] at hbo; exact hbo) (by assumption) (by assumption) (decide_eq_false (by first | exact i_z (by assumption) | exact i_nz (by assumption))) | exact kb_9 (by assumption) (by have h9 : k2 = 4 := (by omega); rw [h9] at hka; exact hka) (by omega) (hk9 (by assumption)) (by have h9 : k2 = 4 := (by omega); rw [h9] at hbo; exact hbo) (by assumption) (decide_eq_false (by first | exact i_z (by assumption) | exact i_nz (by assumption)))) (by assumption)) (by omega)))
                · have zc_26 : ((al : Nat) : Int) = 0 := i_eq (nI_toInt (n := al) (by omega)) rfl c_26
                  refine ww_iload C dX12_knownBy_106 1 rfl ?_
                  refine ww_iload C dX12_knownBy_108 9 rfl ?_
                  obtain ⟨x_29, ex_29⟩ : ∃ z : Int32, bo &&& so = z := ⟨_, rfl⟩
                  refine ww_iand (v := x_29) C dX12_knownBy_110 ex_29 ?_
                  refine ww_if_ne (tgt := 118) C dX12_knownBy_111 (by decide) (fun c_30 => ?_) (fun c_30 => ?_)
                  · have zc_30 : x_29.toInt ≠ 0 := i_ne rfl rfl c_30
                    refine ww_iconst (v := 0) C dX12_knownBy_118 rfl ?_
                    refine ww_istore (lv' := [(9, .int 0), (8, .int bo), (7, .int (nI al)), (6, .int (nI i1)), (5, .int ac), (0, .ref hm), (1, .int (nI pg)), (2, .int act), (3, .int gr), (4, .int so)]) C dX12_knownBy_119 rfl rfl ?_
                    refine ww_goto (tgt := 179) C dX12_knownBy_121 (by decide) ?_
                    refine ww_iload C dX12_knownBy_179 4 rfl ?_
                    refine ww_iload C dX12_knownBy_181 0 rfl ?_
                    refine ww_if_eq_t (tgt := 193) C dX12_knownBy_183 (by decide) (rfl) ?_
                    refine ww_iconst (v := 0) C dX12_knownBy_193 rfl ?_
                    obtain ⟨x_31, ex_31⟩ : ∃ z : Int32, ac ||| (0 : Int32) = z := ⟨_, rfl⟩
                    refine ww_ior (v := x_31) C dX12_knownBy_194 ex_31 ?_
                    refine ww_istore (lv' := [(5, .int x_31), (9, .int 0), (8, .int bo), (7, .int (nI al)), (6, .int (nI i1)), (0, .ref hm), (1, .int (nI pg)), (2, .int act), (3, .int gr), (4, .int so)]) C dX12_knownBy_195 rfl rfl ?_
                    refine ww_iinc (j := 4) (v := (nI (i1 + 1))) (lv' := [(6, .int (nI (i1 + 1))), (5, .int x_31), (9, .int 0), (8, .int bo), (7, .int (nI al)), (0, .ref hm), (1, .int (nI pg)), (2, .int act), (3, .int gr), (4, .int so)]) C dX12_knownBy_197 rfl (nI_add i1 1) rfl rfl ?_
                    refine ww_goto (tgt := 6) C dX12_knownBy_200 (by decide) ?_
                    exact ww_lv [0, 1, 5, 6, 7, 8, 9] rfl (ww_sub [0, 1, 2, 3, 4] rfl rfl (ih_6 (i1 + 1) x_31 (by omega) (by first | exact AC.t hac (by omega) (by first | exact kb_o (by assumption) (by assumption) (by assumption) (by have h9 : k2 = 4 := (by omega); rw [h9] at hka; exact hka) (decide_eq_true (by omega)) | exact kb_11 (by assumption) hbo (by assumption) (by assumption) (decide_eq_true (by first | exact i_z (by assumption) | exact i_nz (by assumption))) | exact kb_12 (by assumption) (hwf pg (by omega)) (hk12 (by assumption)) (by have h9 : k2 = 4 := (by omega); rw [h9] at hbo; exact hbo) (by assumption) (by assumption) (decide_eq_true (by first | exact i_z (by assumption) | exact i_nz (by assumption))) | exact kb_9 (by assumption) (by have h9 : k2 = 4 := (by omega); rw [h9] at hka; exact hka) (by omega) (hk9 (by assumption)) (by have h9 : k2 = 4 := (by omega); rw [h9] at hbo; exact hbo) (by assumption) (decide_eq_true (by first | exact i_z (by assumption) | exact i_nz (by assumption))) | exact kb_9a (by assumption) (by have h9 : k2 = 4 := (by omega); rw [h9] at hka; exact hka) (by omega)) (by assumption) (by assumption) | exact AC.z hac (by first | exact kb_o (by assumption) (by assumption) (by assumption) (by have h9 : k2 = 4 := (by omega); rw [h9] at hka; exact hka) (decide_eq_false (by omega)) | exact kb_11 (by assumption) hbo (by assumption) (by assumption) (decide_eq_false (by first | exact i_z (by assumption) | exact i_nz (by assumption))) | exact kb_12 (by assumption) (hwf pg (by omega)) (hk12 (by assumption)) (by have h9 : k2 = 4 := (by omega); rw [h9] at hbo; exact hbo) (by assumption) (by assumption) (decide_eq_false (by first | exact i_z (by assumption) | exact i_nz (by assumption))) | exact kb_9 (by assumption) (by have h9 : k2 = 4 := (by omega); rw [h9] at hka; exact hka) (by omega) (hk9 (by assumption)) (by have h9 : k2 = 4 := (by omega); rw [h9] at hbo; exact hbo) (by assumption) (decide_eq_false (by first | exact i_z (by assumption) | exact i_nz (by assumption)))) (by assumption)) (by omega)))
                  · have zc_30 : x_29.toInt = 0 := i_eq rfl rfl c_30
                    refine ww_iconst (v := 1) C dX12_knownBy_114 rfl ?_
                    refine ww_goto (tgt := 119) C dX12_knownBy_115 (by decide) ?_
                    refine ww_istore (lv' := [(9, .int 1), (8, .int bo), (7, .int (nI al)), (6, .int (nI i1)), (5, .int ac), (0, .ref hm), (1, .int (nI pg)), (2, .int act), (3, .int gr), (4, .int so)]) C dX12_knownBy_119 rfl rfl ?_
                    refine ww_goto (tgt := 179) C dX12_knownBy_121 (by decide) ?_
                    refine ww_iload C dX12_knownBy_179 4 rfl ?_
                    refine ww_iload C dX12_knownBy_181 0 rfl ?_
                    refine ww_if_eq_f (tgt := 193) C dX12_knownBy_183 (by decide) (by decide) ?_
                    refine ww_iconst (v := 1) C dX12_knownBy_186 rfl ?_
                    refine ww_iload C dX12_knownBy_187 3 rfl ?_
                    obtain ⟨x_32, ex_32⟩ : ∃ z : Int32, (1 : Int32) <<< ((nI i1) &&& 31) = z := ⟨_, rfl⟩
                    refine ww_ishl (v := x_32) C dX12_knownBy_189 ex_32 ?_
                    refine ww_goto (tgt := 194) C dX12_knownBy_190 (by decide) ?_
                    obtain ⟨x_33, ex_33⟩ : ∃ z : Int32, ac ||| x_32 = z := ⟨_, rfl⟩
                    refine ww_ior (v := x_33) C dX12_knownBy_194 ex_33 ?_
                    refine ww_istore (lv' := [(5, .int x_33), (9, .int 1), (8, .int bo), (7, .int (nI al)), (6, .int (nI i1)), (0, .ref hm), (1, .int (nI pg)), (2, .int act), (3, .int gr), (4, .int so)]) C dX12_knownBy_195 rfl rfl ?_
                    refine ww_iinc (j := 4) (v := (nI (i1 + 1))) (lv' := [(6, .int (nI (i1 + 1))), (5, .int x_33), (9, .int 1), (8, .int bo), (7, .int (nI al)), (0, .ref hm), (1, .int (nI pg)), (2, .int act), (3, .int gr), (4, .int so)]) C dX12_knownBy_197 rfl (nI_add i1 1) rfl rfl ?_
                    refine ww_goto (tgt := 6) C dX12_knownBy_200 (by decide) ?_
                    exact ww_lv [0, 1, 5, 6, 7, 8, 9] rfl (ww_sub [0, 1, 2, 3, 4] rfl rfl (ih_6 (i1 + 1) x_33 (by omega) (by first | exact AC.t hac (by omega) (by first | exact kb_o (by assumption) (by assumption) (by assumption) (by have h9 : k2 = 4 := (by omega); rw [h9] at hka; exact hka) (decide_eq_true (by omega)) | exact kb_11 (by assumption) hbo (by assumption) (by assumption) (decide_eq_true (by first | exact i_z (by assumption) | exact i_nz (by assumption))) | exact kb_12 (by assumption) (hwf pg (by omega)) (hk12 (by assumption)) (by have h9 : k2 = 4 := (by omega); rw [h9] at hbo; exact hbo) (by assumption) (by assumption) (decide_eq_true (by first | exact i_z (by assumption) | exact i_nz (by assumption))) | exact kb_9 (by assumption) (by have h9 : k2 = 4 := (by omega); rw [h9] at hka; exact hka) (by omega) (hk9 (by assumption)) (by have h9 : k2 = 4 := (by omega); rw [h9] at hbo; exact hbo) (by assumption) (decide_eq_true (by first | exact i_z (by assumption) | exact i_nz (by assumption))) | exact kb_9a (by assumption) (by have h9 : k2 = 4 := (by omega); rw [h9] at hka; exact hka) (by omega)) (by assumption) (by assumption) | exact AC.z hac (by first | exact kb_o (by assumption) (by assumption) (by assumption) (by have h9 : k2 = 4 := (by omega); rw [h9] at hka; exact hka) (decide_eq_false (by omega)) | exact kb_11 (by assumption) hbo (by assumption) (by assumption) (decide_eq_false (by first | exact i_z (by assumption) | exact i_nz (by assumption))) | exact kb_12 (by assumption) (hwf pg (by omega)) (hk12 (by assumption)) (by have h9 : k2 = 4 := (by omega); rw [h9] at hbo; exact hbo) (by assumption) (by assumption) (decide_eq_false (by first | exact i_z (by assumption) | exact i_nz (by assumption))) | exact kb_9 (by assumption) (by have h9 : k2 = 4 := (by omega); rw [h9] at hka; exact hka) (by omega) (hk9 (by assumption)) (by have h9 : k2 = 4 := (by omega); rw [h9] at hbo; exact hbo) (by assumption) (decide_eq_false (by first | exact i_z (by assumption) | exact i_nz (by assumption)))) (by assumption)) (by omega)))
            · have zc_3 : ((k2 : Nat) : Int) < 4 := i_nle rfl (nI_toInt (n := k2) (by omega)) c_3
              refine ww_iload_n C dX12_knownBy_32 8 rfl rfl ?_
              refine ww_iload C dX12_knownBy_33 0 rfl ?_
              obtain ⟨x_34, ex_34⟩ : ∃ z : Int32, gr >>> ((nI k2) &&& 31) = z := ⟨_, rfl⟩
              refine ww_ishr (v := x_34) C dX12_knownBy_35 ex_34 ?_
              refine ww_iconst (v := 1) C dX12_knownBy_36 rfl ?_
              obtain ⟨j_35, hj_35, ej_35⟩ := pk_andE x_34 (m := 1) 1 rfl
              refine ww_iand (v := (nI j_35)) C dX12_knownBy_37 ej_35 ?_
              refine ww_iconst (v := 1) C dX12_knownBy_38 rfl ?_
              refine ww_icmp_ne (tgt := 85) C dX12_knownBy_39 (by decide) (fun c_36 => ?_) (fun c_36 => ?_)
              · have zc_36 : ((j_35 : Nat) : Int) ≠ 1 := i_ne (nI_toInt (n := j_35) (by omega)) rfl c_36
                refine ww_iinc (j := 0) (v := (nI (k2 + 1))) (lv' := [(9, .int (nI (k2 + 1))), (8, .int bo), (7, .int (nI al)), (6, .int (nI i1)), (5, .int ac), (0, .ref hm), (1, .int (nI pg)), (2, .int act), (3, .int gr), (4, .int so)]) C dX12_knownBy_85 rfl (nI_add k2 1) rfl rfl ?_
                refine ww_goto (tgt := 26) C dX12_knownBy_88 (by decide) ?_
                exact ww_lv [0, 1, 2, 3, 4, 5, 6, 7, 8, 9] rfl (ww_sub [0, 1, 2, 3, 4] rfl rfl (ih_26 (k2 + 1) al bo (by omega) (by omega) (by first | exact KAb.f hka (hasb_0 (p := k2) (by omega) (by assumption) (by assumption) (by omega)) | exact KAb.z hka (by omega) | exact KAb.t hka (by omega) (hasb_1 (p := k2) (by omega) (by assumption) (by assumption) (by omega)) (fun v => pg_S (p := pg) (k := k2) (w := i1) (by omega) (by omega)) (by assumption) (by assumption) (by first | exact dz_1 (by assumption) | exact dz_0 (by assumption))) (by first | exact KBo.f hbo (hasb_0 (p := k2) (by omega) (by assumption) (by assumption) (by omega)) | exact KBo.t hbo (hasb_1 (p := k2) (by omega) (by assumption) (by assumption) (by omega)) (fun v => pg_S (p := pg) (k := k2) (w := i1) (by omega) (by omega)) (by assumption)) (by omega)))
              · have zc_36 : ((j_35 : Nat) : Int) = 1 := i_eq (nI_toInt (n := j_35) (by omega)) rfl c_36
                refine ww_iload C dX12_knownBy_42 2 rfl ?_
                refine ww_if_eq (tgt := 68) C dX12_knownBy_44 (by decide) (fun c_37 => ?_) (fun c_37 => ?_)
                · have zc_37 : ((al : Nat) : Int) = 0 := i_eq (nI_toInt (n := al) (by omega)) rfl c_37
                  refine ww_iconst (v := 0) C dX12_knownBy_68 rfl ?_
                  refine ww_istore (lv' := [(7, .int 0), (9, .int (nI k2)), (8, .int bo), (6, .int (nI i1)), (5, .int ac), (0, .ref hm), (1, .int (nI pg)), (2, .int act), (3, .int gr), (4, .int so)]) C dX12_knownBy_69 rfl rfl ?_
                  refine ww_iload C dX12_knownBy_71 2 rfl ?_
                  refine ww_aload_n C dX12_knownBy_73 5 rfl rfl ?_
                  refine ww_iload_n C dX12_knownBy_74 6 rfl rfl ?_
                  refine ww_iload C dX12_knownBy_75 1 rfl ?_
                  refine ww_iload C dX12_knownBy_77 3 rfl ?_
                  refine ww_ci (wr := [(m_manys, .inl (E.2.1 1, 18, .inl f_manys)), (m_reals, .inl (E.2.1 1, 18, .inl f_reals)), (m_factsOf, .inl (E.2.1 1, 432, .inl f_factsOf))]) (k' := 0) (n' := 0) C (run_V (As := [.int (nI pg), .int (nI k2), .int (nI i1)]) (rest := [.int bo]) C (r_seen X.2.1 E ro hm pg k2 i1 m_manys m_reals m_factsOf m_possible q_undos q_models m_tape q_taped q_fault q_wrong q_wrongAt q_spot q_place q_token q_value m_ends m_letters m_actOf m_whom m_actMany m_tokens m_afters m_afterOf q_counted m_pile m_caseMany m_happen m_hasIf m_becomes m_goneOf m_heard m_pairs m_heaps q_rounds q_heapMany m_led m_newAt m_knowing m_firsts q_people m_secrets m_tried m_lanes m_lengths m_cells f_possible (by omega) (by omega) (by omega)) mi_X12_seen wl_X12_135 rfl 0 12 rfl rfl rfl rfl rfl dX12_knownBy_79) (roK hro) [0, 4] [1, 2, 3] rfl rfl rfl rfl (fun r_38 uz hw => ?_)
                  refine an1 hw ?_
                  clear hw
                  intro he_39 hw
                  have he_40 := hw
                  clear hw
                  have he_39 := he_39.symm
                  subst he_39
                  subst he_40
                  refine ww_eq (ws' := [(m_manys, .inl (E.2.1 1, 18, .inl f_manys)), (m_reals, .inl (E.2.1 1, 18, .inl f_reals)), (m_factsOf, .inl (E.2.1 1, 432, .inl f_factsOf)), (hm, .inr (12, [.ref m_manys, .ref m_reals, .ref m_factsOf, .ref m_possible, .int (nI q_undos), .int (nI q_models), .ref m_tape, .int (nI q_taped), .int q_fault, .int q_wrong, .int q_wrongAt, .int q_spot, .int q_place, .int q_token, .int q_value, .ref m_ends, .ref m_letters, .ref m_actOf, .ref m_whom, .ref m_actMany, .ref m_tokens, .ref m_afters, .ref m_afterOf, .int q_counted, .ref m_pile, .ref m_caseMany, .ref m_happen, .ref m_hasIf, .ref m_becomes, .ref m_goneOf, .ref m_heard, .ref m_pairs, .ref m_heaps, .int q_rounds, .int q_heapMany, .ref m_led, .ref m_newAt, .ref m_knowing, .ref m_firsts, .int (nI q_people), .ref m_secrets, .ref m_tried, .ref m_lanes, .ref m_lengths, .ref m_cells])), (m_possible, .inl (E.2.1 1, 1728, .inl f_possible))]) ?_ rfl rfl rfl
                  obtain ⟨x_41, ex_41⟩ : ∃ z : Int32, bo &&& (f_possible (96 * pg + 24 * k2 + i1)) = z := ⟨_, rfl⟩
                  refine ww_iand (v := x_41) C dX12_knownBy_82 ex_41 ?_
                  refine ww_istore (lv' := [(8, .int x_41), (7, .int 0), (9, .int (nI k2)), (6, .int (nI i1)), (5, .int ac), (0, .ref hm), (1, .int (nI pg)), (2, .int act), (3, .int gr), (4, .int so)]) C dX12_knownBy_83 rfl rfl ?_
                  refine ww_iinc (j := 2) (v := (nI (k2 + 1))) (lv' := [(9, .int (nI (k2 + 1))), (8, .int x_41), (7, .int 0), (6, .int (nI i1)), (5, .int ac), (0, .ref hm), (1, .int (nI pg)), (2, .int act), (3, .int gr), (4, .int so)]) C dX12_knownBy_85 rfl (nI_add k2 1) rfl rfl ?_
                  refine ww_goto (tgt := 26) C dX12_knownBy_88 (by decide) ?_
                  exact ww_lv [0, 1, 2, 3, 4, 5, 6, 7, 8, 9] rfl (ww_sub [3, 0, 1, 2, 4] rfl rfl (ih_26 (k2 + 1) 0 x_41 (by omega) (by omega) (by first | exact KAb.f hka (hasb_0 (p := k2) (by omega) (by assumption) (by assumption) (by omega)) | exact KAb.z hka (by omega) | exact KAb.t hka (by omega) (hasb_1 (p := k2) (by omega) (by assumption) (by assumption) (by omega)) (fun v => pg_S (p := pg) (k := k2) (w := i1) (by omega) (by omega)) (by assumption) (by assumption) (by first | exact dz_1 (by assumption) | exact dz_0 (by assumption))) (by first | exact KBo.f hbo (hasb_0 (p := k2) (by omega) (by assumption) (by assumption) (by omega)) | exact KBo.t hbo (hasb_1 (p := k2) (by omega) (by assumption) (by assumption) (by omega)) (fun v => pg_S (p := pg) (k := k2) (w := i1) (by omega) (by omega)) (by assumption)) (by omega)))
                · have zc_37 : ((al : Nat) : Int) ≠ 0 := i_ne (nI_toInt (n := al) (by omega)) rfl c_37
                  refine ww_aload_n C dX12_knownBy_47 5 rfl rfl ?_
                  refine ww_iload_n C dX12_knownBy_48 6 rfl rfl ?_
                  refine ww_iload C dX12_knownBy_49 0 rfl ?_
                  refine ww_iload C dX12_knownBy_51 3 rfl ?_
                  refine ww_ci (wr := [(m_manys, .inl (E.2.1 1, 18, .inl f_manys)), (m_reals, .inl (E.2.1 1, 18, .inl f_reals)), (m_factsOf, .inl (E.2.1 1, 432, .inl f_factsOf))]) (k' := 0) (n' := 0) C (run_V (As := [.int (nI pg), .int (nI k2), .int (nI i1)]) (rest := []) C (r_seen X.2.1 E ro hm pg k2 i1 m_manys m_reals m_factsOf m_possible q_undos q_models m_tape q_taped q_fault q_wrong q_wrongAt q_spot q_place q_token q_value m_ends m_letters m_actOf m_whom m_actMany m_tokens m_afters m_afterOf q_counted m_pile m_caseMany m_happen m_hasIf m_becomes m_goneOf m_heard m_pairs m_heaps q_rounds q_heapMany m_led m_newAt m_knowing m_firsts q_people m_secrets m_tried m_lanes m_lengths m_cells f_possible (by omega) (by omega) (by omega)) mi_X12_seen wl_X12_135 rfl 0 12 rfl rfl rfl rfl rfl dX12_knownBy_53) (roK hro) [0, 4] [1, 2, 3] rfl rfl rfl rfl (fun r_42 uz hw => ?_)
                  refine an1 hw ?_
                  clear hw
                  intro he_43 hw
                  have he_44 := hw
                  clear hw
                  have he_43 := he_43.symm
                  subst he_43
                  subst he_44
                  refine ww_eq (ws' := [(m_manys, .inl (E.2.1 1, 18, .inl f_manys)), (m_reals, .inl (E.2.1 1, 18, .inl f_reals)), (m_factsOf, .inl (E.2.1 1, 432, .inl f_factsOf)), (hm, .inr (12, [.ref m_manys, .ref m_reals, .ref m_factsOf, .ref m_possible, .int (nI q_undos), .int (nI q_models), .ref m_tape, .int (nI q_taped), .int q_fault, .int q_wrong, .int q_wrongAt, .int q_spot, .int q_place, .int q_token, .int q_value, .ref m_ends, .ref m_letters, .ref m_actOf, .ref m_whom, .ref m_actMany, .ref m_tokens, .ref m_afters, .ref m_afterOf, .int q_counted, .ref m_pile, .ref m_caseMany, .ref m_happen, .ref m_hasIf, .ref m_becomes, .ref m_goneOf, .ref m_heard, .ref m_pairs, .ref m_heaps, .int q_rounds, .int q_heapMany, .ref m_led, .ref m_newAt, .ref m_knowing, .ref m_firsts, .int (nI q_people), .ref m_secrets, .ref m_tried, .ref m_lanes, .ref m_lengths, .ref m_cells])), (m_possible, .inl (E.2.1 1, 1728, .inl f_possible))]) ?_ rfl rfl rfl
                  refine ww_iload C dX12_knownBy_56 9 rfl ?_
                  refine ww_iconst (v := (-1)) C dX12_knownBy_58 rfl ?_
                  obtain ⟨x_45, ex_45⟩ : ∃ z : Int32, so ^^^ ((-1) : Int32) = z := ⟨_, rfl⟩
                  refine ww_ixor (v := x_45) C dX12_knownBy_59 ex_45 ?_
                  obtain ⟨x_46, ex_46⟩ : ∃ z : Int32, (f_possible (96 * pg + 24 * k2 + i1)) &&& x_45 = z := ⟨_, rfl⟩
                  refine ww_iand (v := x_46) C dX12_knownBy_60 ex_46 ?_
                  refine ww_if_ne (tgt := 68) C dX12_knownBy_61 (by decide) (fun c_47 => ?_) (fun c_47 => ?_)
                  · have zc_47 : x_46.toInt ≠ 0 := i_ne rfl rfl c_47
                    refine ww_iconst (v := 0) C dX12_knownBy_68 rfl ?_
                    refine ww_istore (lv' := [(7, .int 0), (9, .int (nI k2)), (8, .int bo), (6, .int (nI i1)), (5, .int ac), (0, .ref hm), (1, .int (nI pg)), (2, .int act), (3, .int gr), (4, .int so)]) C dX12_knownBy_69 rfl rfl ?_
                    refine ww_iload C dX12_knownBy_71 2 rfl ?_
                    refine ww_aload_n C dX12_knownBy_73 5 rfl rfl ?_
                    refine ww_iload_n C dX12_knownBy_74 6 rfl rfl ?_
                    refine ww_iload C dX12_knownBy_75 1 rfl ?_
                    refine ww_iload C dX12_knownBy_77 3 rfl ?_
                    refine ww_ci (wr := [(m_manys, .inl (E.2.1 1, 18, .inl f_manys)), (m_reals, .inl (E.2.1 1, 18, .inl f_reals)), (m_factsOf, .inl (E.2.1 1, 432, .inl f_factsOf))]) (k' := 0) (n' := 0) C (run_V (As := [.int (nI pg), .int (nI k2), .int (nI i1)]) (rest := [.int bo]) C (r_seen X.2.1 E ro hm pg k2 i1 m_manys m_reals m_factsOf m_possible q_undos q_models m_tape q_taped q_fault q_wrong q_wrongAt q_spot q_place q_token q_value m_ends m_letters m_actOf m_whom m_actMany m_tokens m_afters m_afterOf q_counted m_pile m_caseMany m_happen m_hasIf m_becomes m_goneOf m_heard m_pairs m_heaps q_rounds q_heapMany m_led m_newAt m_knowing m_firsts q_people m_secrets m_tried m_lanes m_lengths m_cells f_possible (by omega) (by omega) (by omega)) mi_X12_seen wl_X12_135 rfl 0 12 rfl rfl rfl rfl rfl dX12_knownBy_79) (roK hro) [3, 4] [0, 1, 2] rfl rfl rfl rfl (fun r_48 uz hw => ?_)
                    refine an1 hw ?_
                    clear hw
                    intro he_49 hw
                    have he_50 := hw
                    clear hw
                    have he_49 := he_49.symm
                    subst he_49
                    subst he_50
                    refine ww_eq (ws' := [(m_manys, .inl (E.2.1 1, 18, .inl f_manys)), (m_reals, .inl (E.2.1 1, 18, .inl f_reals)), (m_factsOf, .inl (E.2.1 1, 432, .inl f_factsOf)), (hm, .inr (12, [.ref m_manys, .ref m_reals, .ref m_factsOf, .ref m_possible, .int (nI q_undos), .int (nI q_models), .ref m_tape, .int (nI q_taped), .int q_fault, .int q_wrong, .int q_wrongAt, .int q_spot, .int q_place, .int q_token, .int q_value, .ref m_ends, .ref m_letters, .ref m_actOf, .ref m_whom, .ref m_actMany, .ref m_tokens, .ref m_afters, .ref m_afterOf, .int q_counted, .ref m_pile, .ref m_caseMany, .ref m_happen, .ref m_hasIf, .ref m_becomes, .ref m_goneOf, .ref m_heard, .ref m_pairs, .ref m_heaps, .int q_rounds, .int q_heapMany, .ref m_led, .ref m_newAt, .ref m_knowing, .ref m_firsts, .int (nI q_people), .ref m_secrets, .ref m_tried, .ref m_lanes, .ref m_lengths, .ref m_cells])), (m_possible, .inl (E.2.1 1, 1728, .inl f_possible))]) ?_ rfl rfl rfl
                    obtain ⟨x_51, ex_51⟩ : ∃ z : Int32, bo &&& (f_possible (96 * pg + 24 * k2 + i1)) = z := ⟨_, rfl⟩
                    refine ww_iand (v := x_51) C dX12_knownBy_82 ex_51 ?_
                    refine ww_istore (lv' := [(8, .int x_51), (7, .int 0), (9, .int (nI k2)), (6, .int (nI i1)), (5, .int ac), (0, .ref hm), (1, .int (nI pg)), (2, .int act), (3, .int gr), (4, .int so)]) C dX12_knownBy_83 rfl rfl ?_
                    refine ww_iinc (j := 2) (v := (nI (k2 + 1))) (lv' := [(9, .int (nI (k2 + 1))), (8, .int x_51), (7, .int 0), (6, .int (nI i1)), (5, .int ac), (0, .ref hm), (1, .int (nI pg)), (2, .int act), (3, .int gr), (4, .int so)]) C dX12_knownBy_85 rfl (nI_add k2 1) rfl rfl ?_
                    refine ww_goto (tgt := 26) C dX12_knownBy_88 (by decide) ?_
                    exact ww_lv [0, 1, 2, 3, 4, 5, 6, 7, 8, 9] rfl (ww_sub [3, 0, 1, 2, 4] rfl rfl (ih_26 (k2 + 1) 0 x_51 (by omega) (by omega) (by first | exact KAb.f hka (hasb_0 (p := k2) (by omega) (by assumption) (by assumption) (by omega)) | exact KAb.z hka (by omega) | exact KAb.t hka (by omega) (hasb_1 (p := k2) (by omega) (by assumption) (by assumption) (by omega)) (fun v => pg_S (p := pg) (k := k2) (w := i1) (by omega) (by omega)) (by assumption) (by assumption) (by first | exact dz_1 (by assumption) | exact dz_0 (by assumption))) (by first | exact KBo.f hbo (hasb_0 (p := k2) (by omega) (by assumption) (by assumption) (by omega)) | exact KBo.t hbo (hasb_1 (p := k2) (by omega) (by assumption) (by assumption) (by omega)) (fun v => pg_S (p := pg) (k := k2) (w := i1) (by omega) (by omega)) (by assumption)) (by omega)))
                  · have zc_47 : x_46.toInt = 0 := i_eq rfl rfl c_47
                    refine ww_iconst (v := 1) C dX12_knownBy_64 rfl ?_
                    refine ww_goto (tgt := 69) C dX12_knownBy_65 (by decide) ?_
                    refine ww_istore (lv' := [(7, .int 1), (9, .int (nI k2)), (8, .int bo), (6, .int (nI i1)), (5, .int ac), (0, .ref hm), (1, .int (nI pg)), (2, .int act), (3, .int gr), (4, .int so)]) C dX12_knownBy_69 rfl rfl ?_
                    refine ww_iload C dX12_knownBy_71 2 rfl ?_
                    refine ww_aload_n C dX12_knownBy_73 5 rfl rfl ?_
                    refine ww_iload_n C dX12_knownBy_74 6 rfl rfl ?_
                    refine ww_iload C dX12_knownBy_75 1 rfl ?_
                    refine ww_iload C dX12_knownBy_77 3 rfl ?_
                    refine ww_ci (wr := [(m_manys, .inl (E.2.1 1, 18, .inl f_manys)), (m_reals, .inl (E.2.1 1, 18, .inl f_reals)), (m_factsOf, .inl (E.2.1 1, 432, .inl f_factsOf))]) (k' := 0) (n' := 0) C (run_V (As := [.int (nI pg), .int (nI k2), .int (nI i1)]) (rest := [.int bo]) C (r_seen X.2.1 E ro hm pg k2 i1 m_manys m_reals m_factsOf m_possible q_undos q_models m_tape q_taped q_fault q_wrong q_wrongAt q_spot q_place q_token q_value m_ends m_letters m_actOf m_whom m_actMany m_tokens m_afters m_afterOf q_counted m_pile m_caseMany m_happen m_hasIf m_becomes m_goneOf m_heard m_pairs m_heaps q_rounds q_heapMany m_led m_newAt m_knowing m_firsts q_people m_secrets m_tried m_lanes m_lengths m_cells f_possible (by omega) (by omega) (by omega)) mi_X12_seen wl_X12_135 rfl 0 12 rfl rfl rfl rfl rfl dX12_knownBy_79) (roK hro) [3, 4] [0, 1, 2] rfl rfl rfl rfl (fun r_52 uz hw => ?_)
                    refine an1 hw ?_
                    clear hw
                    intro he_53 hw
                    have he_54 := hw
                    clear hw
                    have he_53 := he_53.symm
                    subst he_53
                    subst he_54
                    refine ww_eq (ws' := [(m_manys, .inl (E.2.1 1, 18, .inl f_manys)), (m_reals, .inl (E.2.1 1, 18, .inl f_reals)), (m_factsOf, .inl (E.2.1 1, 432, .inl f_factsOf)), (hm, .inr (12, [.ref m_manys, .ref m_reals, .ref m_factsOf, .ref m_possible, .int (nI q_undos), .int (nI q_models), .ref m_tape, .int (nI q_taped), .int q_fault, .int q_wrong, .int q_wrongAt, .int q_spot, .int q_place, .int q_token, .int q_value, .ref m_ends, .ref m_letters, .ref m_actOf, .ref m_whom, .ref m_actMany, .ref m_tokens, .ref m_afters, .ref m_afterOf, .int q_counted, .ref m_pile, .ref m_caseMany, .ref m_happen, .ref m_hasIf, .ref m_becomes, .ref m_goneOf, .ref m_heard, .ref m_pairs, .ref m_heaps, .int q_rounds, .int q_heapMany, .ref m_led, .ref m_newAt, .ref m_knowing, .ref m_firsts, .int (nI q_people), .ref m_secrets, .ref m_tried, .ref m_lanes, .ref m_lengths, .ref m_cells])), (m_possible, .inl (E.2.1 1, 1728, .inl f_possible))]) ?_ rfl rfl rfl
                    obtain ⟨x_55, ex_55⟩ : ∃ z : Int32, bo &&& (f_possible (96 * pg + 24 * k2 + i1)) = z := ⟨_, rfl⟩
                    refine ww_iand (v := x_55) C dX12_knownBy_82 ex_55 ?_
                    refine ww_istore (lv' := [(8, .int x_55), (7, .int 1), (9, .int (nI k2)), (6, .int (nI i1)), (5, .int ac), (0, .ref hm), (1, .int (nI pg)), (2, .int act), (3, .int gr), (4, .int so)]) C dX12_knownBy_83 rfl rfl ?_
                    refine ww_iinc (j := 2) (v := (nI (k2 + 1))) (lv' := [(9, .int (nI (k2 + 1))), (8, .int x_55), (7, .int 1), (6, .int (nI i1)), (5, .int ac), (0, .ref hm), (1, .int (nI pg)), (2, .int act), (3, .int gr), (4, .int so)]) C dX12_knownBy_85 rfl (nI_add k2 1) rfl rfl ?_
                    refine ww_goto (tgt := 26) C dX12_knownBy_88 (by decide) ?_
                    exact ww_lv [0, 1, 2, 3, 4, 5, 6, 7, 8, 9] rfl (ww_sub [3, 0, 1, 2, 4] rfl rfl (ih_26 (k2 + 1) 1 x_55 (by omega) (by omega) (by first | exact KAb.f hka (hasb_0 (p := k2) (by omega) (by assumption) (by assumption) (by omega)) | exact KAb.z hka (by omega) | exact KAb.t hka (by omega) (hasb_1 (p := k2) (by omega) (by assumption) (by assumption) (by omega)) (fun v => pg_S (p := pg) (k := k2) (w := i1) (by omega) (by omega)) (by assumption) (by assumption) (by first | exact dz_1 (by assumption) | exact dz_0 (by assumption))) (by first | exact KBo.f hbo (hasb_0 (p := k2) (by omega) (by assumption) (by assumption) (by omega)) | exact KBo.t hbo (hasb_1 (p := k2) (by omega) (by assumption) (by assumption) (by omega)) (fun v => pg_S (p := pg) (k := k2) (w := i1) (by omega) (by omega)) (by assumption)) (by omega)))
        exact ww_lv [0, 1, 2, 3, 4, 5, 6, 7, 8, 9] rfl (ww_sub [0, 1, 2, 3, 4] rfl rfl (loop_26 _ 0 1 (-1) (by omega) (by omega) KAb.nil KBo.nil (Nat.lt_succ_self _)))
  exact ww_lv [0, 1, 2, 3, 4, 5, 6] rfl (ww_sub [0, 1, 2, 3, 4] rfl rfl (loop_6 _ 0 0 (by omega) AC.nil (Nat.lt_succ_self _)))
end
section
theorem dX12_trueAt_0 : decode cX12_trueAt 0 = .ok (.aload_n 0, 1) := dl_42 (by decide +kernel)
theorem dX12_trueAt_1 : decode cX12_trueAt 1 = .ok (.getfield 7, 3) := dl_180 (by decide +kernel)
theorem dX12_trueAt_4 : decode cX12_trueAt 4 = .ok (.iload_n 2, 1) := dl_28 (by decide +kernel)
theorem dX12_trueAt_5 : decode cX12_trueAt 5 = .ok (.iaload, 1) := dl_46 (by decide +kernel)
theorem dX12_trueAt_6 : decode cX12_trueAt 6 = .ok (.invokestatic 230, 3) := dl_184 (by decide +kernel)
theorem wl_X12_230 : Cond.methodLink RX12 230 yX12_all ∈ TB := tbm (tq6 (List.mem_of_getElem? (i := 174) (by decide +kernel))) (by decide +kernel)
theorem wc_X12_all : Cond.code yX12_all cX12_all 1 (some .int) ∈ TB := tbm (tq6 (List.mem_of_getElem? (i := 176) (rfl))) (by decide +kernel)
theorem wt_X12_all : Cond.static yX12_all ∈ TB := tbm (tq6 (List.mem_of_getElem? (i := 175) (by decide +kernel))) (by decide +kernel)
theorem ms_X12_all : MS yX12_all cX12_all 1 (some .int) 1 := ⟨wc_X12_all, wn_X12, ⟨by decide +kernel, by decide +kernel, by decide +kernel⟩, wt_X12_all⟩
theorem dX12_trueAt_9 : decode cX12_trueAt 9 = .ok (.istore_n 3, 1) := dl_62 (by decide +kernel)
theorem dX12_trueAt_10 : decode cX12_trueAt 10 = .ok (.iconst 0, 1) := dl_3 (by decide +kernel)
theorem dX12_trueAt_11 : decode cX12_trueAt 11 = .ok (.istore 4, 2) := dl_54 (by decide +kernel)
theorem dX12_trueAt_13 : decode cX12_trueAt 13 = .ok (.aload_n 0, 1) := dl_42 (by decide +kernel)
theorem dX12_trueAt_14 : decode cX12_trueAt 14 = .ok (.getfield 37, 3) := dl_180 (by decide +kernel)
theorem dX12_trueAt_17 : decode cX12_trueAt 17 = .ok (.iload_n 1, 1) := dl_27 (by decide +kernel)
theorem dX12_trueAt_18 : decode cX12_trueAt 18 = .ok (.iaload, 1) := dl_46 (by decide +kernel)
theorem dX12_trueAt_19 : decode cX12_trueAt 19 = .ok (.iconst 1, 1) := dl_4 (by decide +kernel)
theorem dX12_trueAt_20 : decode cX12_trueAt 20 = .ok (.isub, 1) := dl_100 (by decide +kernel)
theorem dX12_trueAt_21 : decode cX12_trueAt 21 = .ok (.istore 5, 2) := dl_54 (by decide +kernel)
theorem dX12_trueAt_23 : decode cX12_trueAt 23 = .ok (.iload 5, 2) := dl_21 (by decide +kernel)
theorem dX12_trueAt_25 : decode cX12_trueAt 25 = .ok (.ifCond .lt 228, 3) := dl_155 (by decide +kernel)
theorem dX12_trueAt_253 : decode cX12_trueAt 253 = .ok (.aload_n 0, 1) := dl_42 (by decide +kernel)
theorem dX12_trueAt_254 : decode cX12_trueAt 254 = .ok (.getfield 49, 3) := dl_180 (by decide +kernel)
theorem wf_X12_49 : Cond.fieldLink RX12 49 RX12 "pile" "[I" ∈ TB := tbm (tq5 (List.mem_of_getElem? (i := 102) (by decide +kernel))) (by decide +kernel)
theorem fg_X12_49 : FG RX12 49 12 24 := ⟨RX12, TX12, 45, uw_X12, wf_X12_49, rfl, by decide, rfl⟩
theorem dX12_trueAt_257 : decode cX12_trueAt 257 = .ok (.iconst 0, 1) := dl_3 (by decide +kernel)
theorem dX12_trueAt_258 : decode cX12_trueAt 258 = .ok (.iaload, 1) := dl_46 (by decide +kernel)
theorem dX12_trueAt_259 : decode cX12_trueAt 259 = .ok (.ireturn, 1) := dl_172 (by decide +kernel)
theorem dX12_trueAt_28 : decode cX12_trueAt 28 = .ok (.aload_n 0, 1) := dl_42 (by decide +kernel)
theorem dX12_trueAt_29 : decode cX12_trueAt 29 = .ok (.getfield 31, 3) := dl_180 (by decide +kernel)
theorem dX12_trueAt_32 : decode cX12_trueAt 32 = .ok (.bipush 32, 2) := dl_16 (by decide +kernel)
theorem dX12_trueAt_34 : decode cX12_trueAt 34 = .ok (.iload_n 1, 1) := dl_27 (by decide +kernel)
theorem dX12_trueAt_35 : decode cX12_trueAt 35 = .ok (.imul, 1) := dl_104 (by decide +kernel)
theorem dX12_trueAt_36 : decode cX12_trueAt 36 = .ok (.iload 5, 2) := dl_21 (by decide +kernel)
theorem dX12_trueAt_38 : decode cX12_trueAt 38 = .ok (.iadd, 1) := dl_96 (by decide +kernel)
theorem dX12_trueAt_39 : decode cX12_trueAt 39 = .ok (.iaload, 1) := dl_46 (by decide +kernel)
theorem dX12_trueAt_40 : decode cX12_trueAt 40 = .ok (.istore 6, 2) := dl_54 (by decide +kernel)
theorem dX12_trueAt_42 : decode cX12_trueAt 42 = .ok (.iload_n 3, 1) := dl_29 (by decide +kernel)
theorem dX12_trueAt_43 : decode cX12_trueAt 43 = .ok (.istore 7, 2) := dl_54 (by decide +kernel)
theorem dX12_trueAt_45 : decode cX12_trueAt 45 = .ok (.iload 6, 2) := dl_21 (by decide +kernel)
theorem dX12_trueAt_47 : decode cX12_trueAt 47 = .ok (.iconst 4, 1) := dl_7 (by decide +kernel)
theorem dX12_trueAt_48 : decode cX12_trueAt 48 = .ok (.if_icmp .ge 54, 3) := dl_162 (by decide +kernel)
theorem dX12_trueAt_102 : decode cX12_trueAt 102 = .ok (.iload 6, 2) := dl_21 (by decide +kernel)
theorem dX12_trueAt_104 : decode cX12_trueAt 104 = .ok (.iconst 5, 1) := dl_8 (by decide +kernel)
theorem dX12_trueAt_105 : decode cX12_trueAt 105 = .ok (.if_icmp .ne 21, 3) := dl_160 (by decide +kernel)
theorem dX12_trueAt_126 : decode cX12_trueAt 126 = .ok (.iload 6, 2) := dl_21 (by decide +kernel)
theorem dX12_trueAt_128 : decode cX12_trueAt 128 = .ok (.bipush 6, 2) := dl_16 (by decide +kernel)
theorem dX12_trueAt_130 : decode cX12_trueAt 130 = .ok (.if_icmp .ne 27, 3) := dl_160 (by decide +kernel)
theorem dX12_trueAt_157 : decode cX12_trueAt 157 = .ok (.iload 6, 2) := dl_21 (by decide +kernel)
theorem dX12_trueAt_159 : decode cX12_trueAt 159 = .ok (.bipush 7, 2) := dl_16 (by decide +kernel)
theorem dX12_trueAt_161 : decode cX12_trueAt 161 = .ok (.if_icmp .ne 27, 3) := dl_160 (by decide +kernel)
theorem dX12_trueAt_188 : decode cX12_trueAt 188 = .ok (.iload 6, 2) := dl_21 (by decide +kernel)
theorem dX12_trueAt_190 : decode cX12_trueAt 190 = .ok (.bipush 8, 2) := dl_16 (by decide +kernel)
theorem dX12_trueAt_192 : decode cX12_trueAt 192 = .ok (.if_icmp .lt 33, 3) := dl_161 (by decide +kernel)
theorem dX12_trueAt_225 : decode cX12_trueAt 225 = .ok (.iload 4, 2) := dl_21 (by decide +kernel)
theorem dX12_trueAt_227 : decode cX12_trueAt 227 = .ok (.iload 6, 2) := dl_21 (by decide +kernel)
theorem dX12_trueAt_229 : decode cX12_trueAt 229 = .ok (.invokestatic 215, 3) := dl_184 (by decide +kernel)
theorem dX12_trueAt_232 : decode cX12_trueAt 232 = .ok (.isub, 1) := dl_100 (by decide +kernel)
theorem dX12_trueAt_233 : decode cX12_trueAt 233 = .ok (.istore 4, 2) := dl_54 (by decide +kernel)
theorem dX12_trueAt_235 : decode cX12_trueAt 235 = .ok (.aload_n 0, 1) := dl_42 (by decide +kernel)
theorem dX12_trueAt_236 : decode cX12_trueAt 236 = .ok (.getfield 49, 3) := dl_180 (by decide +kernel)
theorem dX12_trueAt_239 : decode cX12_trueAt 239 = .ok (.iload 4, 2) := dl_21 (by decide +kernel)
theorem dX12_trueAt_241 : decode cX12_trueAt 241 = .ok (.iload 7, 2) := dl_21 (by decide +kernel)
theorem dX12_trueAt_243 : decode cX12_trueAt 243 = .ok (.iastore, 1) := dl_79 (by decide +kernel)
theorem dX12_trueAt_244 : decode cX12_trueAt 244 = .ok (.iinc 4 1, 3) := dl_132 (by decide +kernel)
theorem dX12_trueAt_247 : decode cX12_trueAt 247 = .ok (.iinc 5 (-1), 3) := dl_132 (by decide +kernel)
theorem dX12_trueAt_250 : decode cX12_trueAt 250 = .ok (.goto (-227), 3) := dl_167 (by decide +kernel)
theorem dX12_trueAt_195 : decode cX12_trueAt 195 = .ok (.aload_n 0, 1) := dl_42 (by decide +kernel)
theorem dX12_trueAt_196 : decode cX12_trueAt 196 = .ok (.iload_n 2, 1) := dl_28 (by decide +kernel)
theorem dX12_trueAt_197 : decode cX12_trueAt 197 = .ok (.iload 6, 2) := dl_21 (by decide +kernel)
theorem dX12_trueAt_199 : decode cX12_trueAt 199 = .ok (.aload_n 0, 1) := dl_42 (by decide +kernel)
theorem dX12_trueAt_200 : decode cX12_trueAt 200 = .ok (.getfield 34, 3) := dl_180 (by decide +kernel)
theorem dX12_trueAt_203 : decode cX12_trueAt 203 = .ok (.bipush 32, 2) := dl_16 (by decide +kernel)
theorem dX12_trueAt_205 : decode cX12_trueAt 205 = .ok (.iload_n 1, 1) := dl_27 (by decide +kernel)
theorem dX12_trueAt_206 : decode cX12_trueAt 206 = .ok (.imul, 1) := dl_104 (by decide +kernel)
theorem dX12_trueAt_207 : decode cX12_trueAt 207 = .ok (.iload 5, 2) := dl_21 (by decide +kernel)
theorem dX12_trueAt_209 : decode cX12_trueAt 209 = .ok (.iadd, 1) := dl_96 (by decide +kernel)
theorem dX12_trueAt_210 : decode cX12_trueAt 210 = .ok (.iaload, 1) := dl_46 (by decide +kernel)
theorem dX12_trueAt_211 : decode cX12_trueAt 211 = .ok (.aload_n 0, 1) := dl_42 (by decide +kernel)
theorem dX12_trueAt_212 : decode cX12_trueAt 212 = .ok (.getfield 49, 3) := dl_180 (by decide +kernel)
theorem dX12_trueAt_215 : decode cX12_trueAt 215 = .ok (.iload 4, 2) := dl_21 (by decide +kernel)
theorem dX12_trueAt_217 : decode cX12_trueAt 217 = .ok (.iconst 1, 1) := dl_4 (by decide +kernel)
theorem dX12_trueAt_218 : decode cX12_trueAt 218 = .ok (.isub, 1) := dl_100 (by decide +kernel)
theorem dX12_trueAt_219 : decode cX12_trueAt 219 = .ok (.iaload, 1) := dl_46 (by decide +kernel)
theorem dX12_trueAt_220 : decode cX12_trueAt 220 = .ok (.invokevirtual 233, 3) := dl_182 (by decide +kernel)
theorem wl_X12_233 : Cond.methodLink RX12 233 yX12_knownBy ∈ TB := tbm (tq6 (List.mem_of_getElem? (i := 177) (by decide +kernel))) (by decide +kernel)
theorem wc_X12_knownBy : Cond.code yX12_knownBy cX12_knownBy 10 (some .int) ∈ TB := tbm (tq6 (List.mem_of_getElem? (i := 180) (rfl))) (by decide +kernel)
theorem wi_X12_knownBy : Cond.instanceMethod yX12_knownBy ∈ TB := tbm (tq6 (List.mem_of_getElem? (i := 179) (by decide +kernel))) (by decide +kernel)
theorem ws_X12_knownBy : Cond.selects RX12 yX12_knownBy yX12_knownBy ∈ TB := tbm (tq0 (List.mem_of_getElem? (i := 63) (by decide +kernel))) (by decide +kernel)
theorem mi_X12_knownBy : MI yX12_knownBy cX12_knownBy 10 (some .int) 4 := ⟨wc_X12_knownBy, wn_X12, ⟨by decide +kernel, by decide +kernel, by decide +kernel⟩, wi_X12_knownBy, ws_X12_knownBy⟩
theorem dX12_trueAt_223 : decode cX12_trueAt 223 = .ok (.istore 7, 2) := dl_54 (by decide +kernel)
theorem dX12_trueAt_164 : decode cX12_trueAt 164 = .ok (.aload_n 0, 1) := dl_42 (by decide +kernel)
theorem dX12_trueAt_165 : decode cX12_trueAt 165 = .ok (.getfield 49, 3) := dl_180 (by decide +kernel)
theorem dX12_trueAt_168 : decode cX12_trueAt 168 = .ok (.iload 4, 2) := dl_21 (by decide +kernel)
theorem dX12_trueAt_170 : decode cX12_trueAt 170 = .ok (.iconst 1, 1) := dl_4 (by decide +kernel)
theorem dX12_trueAt_171 : decode cX12_trueAt 171 = .ok (.isub, 1) := dl_100 (by decide +kernel)
theorem dX12_trueAt_172 : decode cX12_trueAt 172 = .ok (.iaload, 1) := dl_46 (by decide +kernel)
theorem dX12_trueAt_173 : decode cX12_trueAt 173 = .ok (.aload_n 0, 1) := dl_42 (by decide +kernel)
theorem dX12_trueAt_174 : decode cX12_trueAt 174 = .ok (.getfield 49, 3) := dl_180 (by decide +kernel)
theorem dX12_trueAt_177 : decode cX12_trueAt 177 = .ok (.iload 4, 2) := dl_21 (by decide +kernel)
theorem dX12_trueAt_179 : decode cX12_trueAt 179 = .ok (.iconst 2, 1) := dl_5 (by decide +kernel)
theorem dX12_trueAt_180 : decode cX12_trueAt 180 = .ok (.isub, 1) := dl_100 (by decide +kernel)
theorem dX12_trueAt_181 : decode cX12_trueAt 181 = .ok (.iaload, 1) := dl_46 (by decide +kernel)
theorem dX12_trueAt_182 : decode cX12_trueAt 182 = .ok (.ior, 1) := dl_128 (by decide +kernel)
theorem dX12_trueAt_183 : decode cX12_trueAt 183 = .ok (.istore 7, 2) := dl_54 (by decide +kernel)
theorem dX12_trueAt_185 : decode cX12_trueAt 185 = .ok (.goto 40, 3) := dl_167 (by decide +kernel)
theorem dX12_trueAt_133 : decode cX12_trueAt 133 = .ok (.aload_n 0, 1) := dl_42 (by decide +kernel)
theorem dX12_trueAt_134 : decode cX12_trueAt 134 = .ok (.getfield 49, 3) := dl_180 (by decide +kernel)
theorem dX12_trueAt_137 : decode cX12_trueAt 137 = .ok (.iload 4, 2) := dl_21 (by decide +kernel)
theorem dX12_trueAt_139 : decode cX12_trueAt 139 = .ok (.iconst 1, 1) := dl_4 (by decide +kernel)
theorem dX12_trueAt_140 : decode cX12_trueAt 140 = .ok (.isub, 1) := dl_100 (by decide +kernel)
theorem dX12_trueAt_141 : decode cX12_trueAt 141 = .ok (.iaload, 1) := dl_46 (by decide +kernel)
theorem dX12_trueAt_142 : decode cX12_trueAt 142 = .ok (.aload_n 0, 1) := dl_42 (by decide +kernel)
theorem dX12_trueAt_143 : decode cX12_trueAt 143 = .ok (.getfield 49, 3) := dl_180 (by decide +kernel)
theorem dX12_trueAt_146 : decode cX12_trueAt 146 = .ok (.iload 4, 2) := dl_21 (by decide +kernel)
theorem dX12_trueAt_148 : decode cX12_trueAt 148 = .ok (.iconst 2, 1) := dl_5 (by decide +kernel)
theorem dX12_trueAt_149 : decode cX12_trueAt 149 = .ok (.isub, 1) := dl_100 (by decide +kernel)
theorem dX12_trueAt_150 : decode cX12_trueAt 150 = .ok (.iaload, 1) := dl_46 (by decide +kernel)
theorem dX12_trueAt_151 : decode cX12_trueAt 151 = .ok (.iand, 1) := dl_126 (by decide +kernel)
theorem dX12_trueAt_152 : decode cX12_trueAt 152 = .ok (.istore 7, 2) := dl_54 (by decide +kernel)
theorem dX12_trueAt_154 : decode cX12_trueAt 154 = .ok (.goto 71, 3) := dl_167 (by decide +kernel)
theorem dX12_trueAt_108 : decode cX12_trueAt 108 = .ok (.iload_n 3, 1) := dl_29 (by decide +kernel)
theorem dX12_trueAt_109 : decode cX12_trueAt 109 = .ok (.aload_n 0, 1) := dl_42 (by decide +kernel)
theorem dX12_trueAt_110 : decode cX12_trueAt 110 = .ok (.getfield 49, 3) := dl_180 (by decide +kernel)
theorem dX12_trueAt_113 : decode cX12_trueAt 113 = .ok (.iload 4, 2) := dl_21 (by decide +kernel)
theorem dX12_trueAt_115 : decode cX12_trueAt 115 = .ok (.iconst 1, 1) := dl_4 (by decide +kernel)
theorem dX12_trueAt_116 : decode cX12_trueAt 116 = .ok (.isub, 1) := dl_100 (by decide +kernel)
theorem dX12_trueAt_117 : decode cX12_trueAt 117 = .ok (.iaload, 1) := dl_46 (by decide +kernel)
theorem dX12_trueAt_118 : decode cX12_trueAt 118 = .ok (.iconst (-1), 1) := dl_2 (by decide +kernel)
theorem dX12_trueAt_119 : decode cX12_trueAt 119 = .ok (.ixor, 1) := dl_130 (by decide +kernel)
theorem dX12_trueAt_120 : decode cX12_trueAt 120 = .ok (.iand, 1) := dl_126 (by decide +kernel)
theorem dX12_trueAt_121 : decode cX12_trueAt 121 = .ok (.istore 7, 2) := dl_54 (by decide +kernel)
theorem dX12_trueAt_123 : decode cX12_trueAt 123 = .ok (.goto 102, 3) := dl_167 (by decide +kernel)
theorem dX12_trueAt_51 : decode cX12_trueAt 51 = .ok (.iconst 0, 1) := dl_3 (by decide +kernel)
theorem dX12_trueAt_52 : decode cX12_trueAt 52 = .ok (.istore 7, 2) := dl_54 (by decide +kernel)
theorem dX12_trueAt_54 : decode cX12_trueAt 54 = .ok (.iconst 0, 1) := dl_3 (by decide +kernel)
theorem dX12_trueAt_55 : decode cX12_trueAt 55 = .ok (.istore 8, 2) := dl_54 (by decide +kernel)
theorem dX12_trueAt_57 : decode cX12_trueAt 57 = .ok (.iload 8, 2) := dl_21 (by decide +kernel)
theorem dX12_trueAt_59 : decode cX12_trueAt 59 = .ok (.aload_n 0, 1) := dl_42 (by decide +kernel)
theorem dX12_trueAt_60 : decode cX12_trueAt 60 = .ok (.getfield 7, 3) := dl_180 (by decide +kernel)
theorem dX12_trueAt_63 : decode cX12_trueAt 63 = .ok (.iload_n 2, 1) := dl_28 (by decide +kernel)
theorem dX12_trueAt_64 : decode cX12_trueAt 64 = .ok (.iaload, 1) := dl_46 (by decide +kernel)
theorem dX12_trueAt_65 : decode cX12_trueAt 65 = .ok (.if_icmp .ge 34, 3) := dl_162 (by decide +kernel)
theorem dX12_trueAt_99 : decode cX12_trueAt 99 = .ok (.goto 126, 3) := dl_167 (by decide +kernel)
theorem dX12_trueAt_68 : decode cX12_trueAt 68 = .ok (.iload 7, 2) := dl_21 (by decide +kernel)
theorem dX12_trueAt_70 : decode cX12_trueAt 70 = .ok (.aload_n 0, 1) := dl_42 (by decide +kernel)
theorem dX12_trueAt_71 : decode cX12_trueAt 71 = .ok (.getfield 16, 3) := dl_180 (by decide +kernel)
theorem dX12_trueAt_74 : decode cX12_trueAt 74 = .ok (.bipush 24, 2) := dl_16 (by decide +kernel)
theorem dX12_trueAt_76 : decode cX12_trueAt 76 = .ok (.iload_n 2, 1) := dl_28 (by decide +kernel)
theorem dX12_trueAt_77 : decode cX12_trueAt 77 = .ok (.imul, 1) := dl_104 (by decide +kernel)
theorem dX12_trueAt_78 : decode cX12_trueAt 78 = .ok (.iload 8, 2) := dl_21 (by decide +kernel)
theorem dX12_trueAt_80 : decode cX12_trueAt 80 = .ok (.iadd, 1) := dl_96 (by decide +kernel)
theorem dX12_trueAt_81 : decode cX12_trueAt 81 = .ok (.iaload, 1) := dl_46 (by decide +kernel)
theorem dX12_trueAt_82 : decode cX12_trueAt 82 = .ok (.iload 6, 2) := dl_21 (by decide +kernel)
theorem dX12_trueAt_84 : decode cX12_trueAt 84 = .ok (.ishr, 1) := dl_122 (by decide +kernel)
theorem dX12_trueAt_85 : decode cX12_trueAt 85 = .ok (.iconst 1, 1) := dl_4 (by decide +kernel)
theorem dX12_trueAt_86 : decode cX12_trueAt 86 = .ok (.iand, 1) := dl_126 (by decide +kernel)
theorem dX12_trueAt_87 : decode cX12_trueAt 87 = .ok (.iload 8, 2) := dl_21 (by decide +kernel)
theorem dX12_trueAt_89 : decode cX12_trueAt 89 = .ok (.ishl, 1) := dl_120 (by decide +kernel)
theorem dX12_trueAt_90 : decode cX12_trueAt 90 = .ok (.ior, 1) := dl_128 (by decide +kernel)
theorem dX12_trueAt_91 : decode cX12_trueAt 91 = .ok (.istore 7, 2) := dl_54 (by decide +kernel)
theorem dX12_trueAt_93 : decode cX12_trueAt 93 = .ok (.iinc 8 1, 3) := dl_132 (by decide +kernel)
theorem dX12_trueAt_96 : decode cX12_trueAt 96 = .ok (.goto (-39), 3) := dl_167 (by decide +kernel)
set_option maxRecDepth 100000 in
set_option maxHeartbeats 4000000 in
theorem r_trueAt (l : Launch) (E : EV) (ro : va_W) (hm : Nat) (sl : Nat) (pg : Nat) (m_manys : Nat) (m_reals : Nat) (m_factsOf : Nat) (m_possible : Nat) (q_undos : Nat) (q_models : Nat) (m_tape : Nat) (q_taped : Nat) (q_fault : Int32) (q_wrong : Int32) (q_wrongAt : Int32) (q_spot : Int32) (q_place : Int32) (q_token : Int32) (q_value : Int32) (m_ends : Nat) (m_letters : Nat) (m_actOf : Nat) (m_whom : Nat) (m_actMany : Nat) (m_tokens : Nat) (m_afters : Nat) (m_afterOf : Nat) (q_counted : Int32) (m_pile : Nat) (m_caseMany : Nat) (m_happen : Nat) (m_hasIf : Nat) (m_becomes : Nat) (m_goneOf : Nat) (m_heard : Nat) (m_pairs : Nat) (m_heaps : Nat) (q_rounds : Int32) (q_heapMany : Int32) (m_led : Nat) (m_newAt : Nat) (m_knowing : Nat) (m_firsts : Nat) (q_people : Nat) (m_secrets : Nat) (m_tried : Nat) (m_lanes : Nat) (m_lengths : Nat) (m_cells : Nat) (f_manys : Nat → Int32) (f_reals : Nat → Int32) (f_factsOf : Nat → Int32) (f_possible : Nat → Int32) (f_actMany : Nat → Int32) (f_actOf : Nat → Int32) (f_whom : Nat → Int32) (f_pile : Nat → Int32) (hb_manys : NB 18 24 f_manys) (hb_reals : NB 18 23 f_reals) (hb_actMany : NB 25 32 f_actMany) (hpg : PG f_manys f_reals) (hsv : SV f_actOf f_actMany) (hwf : WFP (pgs f_manys f_reals f_factsOf f_possible)) (hsl : sl < 24) (hpgl : pg < 18) (hWs : WHs (cN f_actMany sl) f_actOf f_whom sl) : CT l yX12_trueAt (Cond.code yX12_trueAt cX12_trueAt 9 (some .int) :: TB) ({ frames := 3, cells := 0, slots := 0, locals := 79 }) E ro [.ref hm, .int (nI sl), .int (nI pg)] [(hm, .inr (12, [.ref m_manys, .ref m_reals, .ref m_factsOf, .ref m_possible, .int (nI q_undos), .int (nI q_models), .ref m_tape, .int (nI q_taped), .int q_fault, .int q_wrong, .int q_wrongAt, .int q_spot, .int q_place, .int q_token, .int q_value, .ref m_ends, .ref m_letters, .ref m_actOf, .ref m_whom, .ref m_actMany, .ref m_tokens, .ref m_afters, .ref m_afterOf, .int q_counted, .ref m_pile, .ref m_caseMany, .ref m_happen, .ref m_hasIf, .ref m_becomes, .ref m_goneOf, .ref m_heard, .ref m_pairs, .ref m_heaps, .int q_rounds, .int q_heapMany, .ref m_led, .ref m_newAt, .ref m_knowing, .ref m_firsts, .int (nI q_people), .ref m_secrets, .ref m_tried, .ref m_lanes, .ref m_lengths, .ref m_cells])), (m_manys, .inl (E.2.1 1, 18, .inl f_manys)), (m_reals, .inl (E.2.1 1, 18, .inl f_reals)), (m_factsOf, .inl (E.2.1 1, 432, .inl f_factsOf)), (m_possible, .inl (E.2.1 1, 1728, .inl f_possible)), (m_actMany, .inl (E.2.1 1, 25, .inl f_actMany)), (m_actOf, .inl (E.2.1 1, 800, .inl f_actOf)), (m_whom, .inl (E.2.1 1, 800, .inl f_whom)), (m_pile, .inl (E.2.1 1, 34, .inl f_pile))] (Qi E (fun (rz : Int32) uz => (∃ (f_pilez : Nat → Int32), uz = [(hm, .inr (12, [.ref m_manys, .ref m_reals, .ref m_factsOf, .ref m_possible, .int (nI q_undos), .int (nI q_models), .ref m_tape, .int (nI q_taped), .int q_fault, .int q_wrong, .int q_wrongAt, .int q_spot, .int q_place, .int q_token, .int q_value, .ref m_ends, .ref m_letters, .ref m_actOf, .ref m_whom, .ref m_actMany, .ref m_tokens, .ref m_afters, .ref m_afterOf, .int q_counted, .ref m_pile, .ref m_caseMany, .ref m_happen, .ref m_hasIf, .ref m_becomes, .ref m_goneOf, .ref m_heard, .ref m_pairs, .ref m_heaps, .int q_rounds, .int q_heapMany, .ref m_led, .ref m_newAt, .ref m_knowing, .ref m_firsts, .int (nI q_people), .ref m_secrets, .ref m_tried, .ref m_lanes, .ref m_lengths, .ref m_cells])), (m_manys, .inl (E.2.1 1, 18, .inl f_manys)), (m_reals, .inl (E.2.1 1, 18, .inl f_reals)), (m_factsOf, .inl (E.2.1 1, 432, .inl f_factsOf)), (m_possible, .inl (E.2.1 1, 1728, .inl f_possible)), (m_actMany, .inl (E.2.1 1, 25, .inl f_actMany)), (m_actOf, .inl (E.2.1 1, 800, .inl f_actOf)), (m_whom, .inl (E.2.1 1, 800, .inl f_whom)), (m_pile, .inl (E.2.1 1, 34, .inl f_pilez))] ∧ (BS rz (vPl (pgs f_manys f_reals f_factsOf f_possible pg) (cN f_actMany sl) (rO f_actOf sl) (rA f_actOf f_whom sl)))))) 0 0 := by
  refine ct_of rfl rfl ?_
  intro X C hT hin hro
  show WW X 9 E 0 [(0, .ref hm), (1, .int (nI sl)), (2, .int (nI pg))] [] [(hm, .inr (12, [.ref m_manys, .ref m_reals, .ref m_factsOf, .ref m_possible, .int (nI q_undos), .int (nI q_models), .ref m_tape, .int (nI q_taped), .int q_fault, .int q_wrong, .int q_wrongAt, .int q_spot, .int q_place, .int q_token, .int q_value, .ref m_ends, .ref m_letters, .ref m_actOf, .ref m_whom, .ref m_actMany, .ref m_tokens, .ref m_afters, .ref m_afterOf, .int q_counted, .ref m_pile, .ref m_caseMany, .ref m_happen, .ref m_hasIf, .ref m_becomes, .ref m_goneOf, .ref m_heard, .ref m_pairs, .ref m_heaps, .int q_rounds, .int q_heapMany, .ref m_led, .ref m_newAt, .ref m_knowing, .ref m_firsts, .int (nI q_people), .ref m_secrets, .ref m_tried, .ref m_lanes, .ref m_lengths, .ref m_cells])), (m_manys, .inl (E.2.1 1, 18, .inl f_manys)), (m_reals, .inl (E.2.1 1, 18, .inl f_reals)), (m_factsOf, .inl (E.2.1 1, 432, .inl f_factsOf)), (m_possible, .inl (E.2.1 1, 1728, .inl f_possible)), (m_actMany, .inl (E.2.1 1, 25, .inl f_actMany)), (m_actOf, .inl (E.2.1 1, 800, .inl f_actOf)), (m_whom, .inl (E.2.1 1, 800, .inl f_whom)), (m_pile, .inl (E.2.1 1, 34, .inl f_pile))] 0 0
  have hmn0 := (hb_manys 0 (by omega)).2
  have hwr := hsv sl (by omega)
  have hwn := hwr.1
  have hmn := (hb_manys pg (by omega)).2
  have hopn : ∀ i, i ≤ cN f_actMany sl → opn (rO f_actOf sl) i = opr (slot f_actOf sl) i := fun i hi => opn_opr i (fun v hv => hwr.2.1.1 v (by omega))
  refine ww_aload_n C dX12_trueAt_0 0 rfl rfl ?_
  refine ww_get C fg_X12_7 0 rfl rfl dX12_trueAt_1 ?_
  refine ww_iload_n C dX12_trueAt_4 2 rfl rfl ?_
  have hbx_1 := (hb_manys pg (by omega)).2
  refine ww_iald (v := (nI (cN f_manys pg))) C 1 rfl (vp_in_nI (by omega) (by omega)) (ldn (by omega) (hb_manys pg (by omega)).1) dX12_trueAt_5 ?_
  refine ww_ci (wr := [(hm, .inr (12, [.ref m_manys, .ref m_reals, .ref m_factsOf, .ref m_possible, .int (nI q_undos), .int (nI q_models), .ref m_tape, .int (nI q_taped), .int q_fault, .int q_wrong, .int q_wrongAt, .int q_spot, .int q_place, .int q_token, .int q_value, .ref m_ends, .ref m_letters, .ref m_actOf, .ref m_whom, .ref m_actMany, .ref m_tokens, .ref m_afters, .ref m_afterOf, .int q_counted, .ref m_pile, .ref m_caseMany, .ref m_happen, .ref m_hasIf, .ref m_becomes, .ref m_goneOf, .ref m_heard, .ref m_pairs, .ref m_heaps, .int q_rounds, .int q_heapMany, .ref m_led, .ref m_newAt, .ref m_knowing, .ref m_firsts, .int (nI q_people), .ref m_secrets, .ref m_tried, .ref m_lanes, .ref m_lengths, .ref m_cells])), (m_manys, .inl (E.2.1 1, 18, .inl f_manys)), (m_reals, .inl (E.2.1 1, 18, .inl f_reals)), (m_factsOf, .inl (E.2.1 1, 432, .inl f_factsOf)), (m_possible, .inl (E.2.1 1, 1728, .inl f_possible)), (m_actMany, .inl (E.2.1 1, 25, .inl f_actMany)), (m_actOf, .inl (E.2.1 1, 800, .inl f_actOf)), (m_whom, .inl (E.2.1 1, 800, .inl f_whom)), (m_pile, .inl (E.2.1 1, 34, .inl f_pile))]) (k' := 0) (n' := 0) C (run_S (As := [.int (nI (cN f_manys pg))]) (rest := []) C (r_all X.2.1 E ro (cN f_manys pg) (by omega)) ms_X12_all wl_X12_230 rfl rfl rfl rfl dX12_trueAt_6) (roK hro) [] [0, 1, 2, 3, 4, 5, 6, 7, 8] rfl (gqk (by eq_refl)) (plk (by decide +kernel)) rfl (fun r_2 uz hw => ?_)
  refine an1 hw ?_
  clear hw
  intro he_4 hw
  have h_3 := hw
  clear hw
  subst he_4
  refine ww_eq (ws' := [(hm, .inr (12, [.ref m_manys, .ref m_reals, .ref m_factsOf, .ref m_possible, .int (nI q_undos), .int (nI q_models), .ref m_tape, .int (nI q_taped), .int q_fault, .int q_wrong, .int q_wrongAt, .int q_spot, .int q_place, .int q_token, .int q_value, .ref m_ends, .ref m_letters, .ref m_actOf, .ref m_whom, .ref m_actMany, .ref m_tokens, .ref m_afters, .ref m_afterOf, .int q_counted, .ref m_pile, .ref m_caseMany, .ref m_happen, .ref m_hasIf, .ref m_becomes, .ref m_goneOf, .ref m_heard, .ref m_pairs, .ref m_heaps, .int q_rounds, .int q_heapMany, .ref m_led, .ref m_newAt, .ref m_knowing, .ref m_firsts, .int (nI q_people), .ref m_secrets, .ref m_tried, .ref m_lanes, .ref m_lengths, .ref m_cells])), (m_manys, .inl (E.2.1 1, 18, .inl f_manys)), (m_reals, .inl (E.2.1 1, 18, .inl f_reals)), (m_factsOf, .inl (E.2.1 1, 432, .inl f_factsOf)), (m_possible, .inl (E.2.1 1, 1728, .inl f_possible)), (m_actMany, .inl (E.2.1 1, 25, .inl f_actMany)), (m_actOf, .inl (E.2.1 1, 800, .inl f_actOf)), (m_whom, .inl (E.2.1 1, 800, .inl f_whom)), (m_pile, .inl (E.2.1 1, 34, .inl f_pile))]) ?_ rfl rfl rfl
  refine ww_istore_n (lv' := [(3, .int r_2), (0, .ref hm), (1, .int (nI sl)), (2, .int (nI pg))]) C dX12_trueAt_9 rfl rfl rfl ?_
  refine ww_iconst (v := 0) C dX12_trueAt_10 rfl ?_
  refine ww_istore (lv' := [(4, .int 0), (3, .int r_2), (0, .ref hm), (1, .int (nI sl)), (2, .int (nI pg))]) C dX12_trueAt_11 rfl rfl ?_
  refine ww_aload_n C dX12_trueAt_13 2 rfl rfl ?_
  refine ww_get C fg_X12_37 0 rfl rfl dX12_trueAt_14 ?_
  refine ww_iload_n C dX12_trueAt_17 3 rfl rfl ?_
  have hbx_5 := (hb_actMany sl (by omega)).2
  refine ww_iald (v := (nI (cN f_actMany sl))) C 5 rfl (vp_in_nI (by omega) (by omega)) (ldn (by omega) (hb_actMany sl (by omega)).1) dX12_trueAt_18 ?_
  refine ww_iconst (v := 1) C dX12_trueAt_19 rfl ?_
  obtain ⟨x_6, ex_6⟩ : ∃ z : Int32, (nI (cN f_actMany sl)) - (1 : Int32) = z := ⟨_, rfl⟩
  have zx_6 : x_6.toInt = ((cN f_actMany sl : Nat) : Int) - 1 := by rw [← ex_6]; exact i_sub (nI_toInt (n := cN f_actMany sl) (by omega)) rfl (by omega) (by omega)
  refine ww_isub (v := x_6) C dX12_trueAt_20 ex_6 ?_
  refine ww_istore (lv' := [(5, .int x_6), (4, .int 0), (3, .int r_2), (0, .ref hm), (1, .int (nI sl)), (2, .int (nI pg))]) C dX12_trueAt_21 rfl rfl ?_
  have loop_23 : ∀ (fu : Nat) (xi : Int32) (ii : Nat) (tt : Nat) (g1 : Nat → Int32), (xi.toInt = (ii : Int) - 1) → (ii ≤ cN f_actMany sl) → ((tt : Int) = opr (slot f_actOf sl) ii ∨ ii = 0) → (∀ j : Nat, (j : Int) < opn (rO f_actOf sl) ii → BS (g1 j) (vSt (pgs f_manys f_reals f_factsOf f_possible pg) (cN f_actMany sl) (rO f_actOf sl) (rA f_actOf f_whom sl) ((cN f_actMany sl) - ii) j)) → ii < fu → WW X 9 E 23 [(5, .int xi), (4, .int (nI tt)), (3, .int r_2), (0, .ref hm), (1, .int (nI sl)), (2, .int (nI pg))] [] [(hm, .inr (12, [.ref m_manys, .ref m_reals, .ref m_factsOf, .ref m_possible, .int (nI q_undos), .int (nI q_models), .ref m_tape, .int (nI q_taped), .int q_fault, .int q_wrong, .int q_wrongAt, .int q_spot, .int q_place, .int q_token, .int q_value, .ref m_ends, .ref m_letters, .ref m_actOf, .ref m_whom, .ref m_actMany, .ref m_tokens, .ref m_afters, .ref m_afterOf, .int q_counted, .ref m_pile, .ref m_caseMany, .ref m_happen, .ref m_hasIf, .ref m_becomes, .ref m_goneOf, .ref m_heard, .ref m_pairs, .ref m_heaps, .int q_rounds, .int q_heapMany, .ref m_led, .ref m_newAt, .ref m_knowing, .ref m_firsts, .int (nI q_people), .ref m_secrets, .ref m_tried, .ref m_lanes, .ref m_lengths, .ref m_cells])), (m_manys, .inl (E.2.1 1, 18, .inl f_manys)), (m_reals, .inl (E.2.1 1, 18, .inl f_reals)), (m_factsOf, .inl (E.2.1 1, 432, .inl f_factsOf)), (m_possible, .inl (E.2.1 1, 1728, .inl f_possible)), (m_actMany, .inl (E.2.1 1, 25, .inl f_actMany)), (m_actOf, .inl (E.2.1 1, 800, .inl f_actOf)), (m_whom, .inl (E.2.1 1, 800, .inl f_whom)), (m_pile, .inl (E.2.1 1, 34, .inl g1))] 0 0 := by
    intro fu
    induction fu with
    | zero => intro xi ii tt g1 hxi hii htt hst hmeas; exact absurd hmeas (Nat.not_lt_zero _)
    | succ fu ih_23 =>
      intro xi ii tt g1 hxi hii htt hst hmeas
      refine ww_iload C dX12_trueAt_23 0 rfl ?_
      refine ww_if_lt (tgt := 253) C dX12_trueAt_25 (by decide) (fun c_7 => ?_) (fun c_7 => ?_)
      · have zc_7 : ((ii : Int) - 1) < 0 := i_lt hxi rfl c_7
        refine ww_aload_n C dX12_trueAt_253 3 rfl rfl ?_
        refine ww_get C fg_X12_49 0 rfl rfl dX12_trueAt_254 ?_
        refine ww_iconst (v := 0) C dX12_trueAt_257 rfl ?_
        obtain ⟨x_8, ex_8⟩ : ∃ z : Int32, g1 0 = z := ⟨_, rfl⟩
        refine ww_iald (v := x_8) C 8 rfl (vin rfl) ex_8 dX12_trueAt_258 ?_
        exact ww_iret (u := [(hm, .inr (12, [.ref m_manys, .ref m_reals, .ref m_factsOf, .ref m_possible, .int (nI q_undos), .int (nI q_models), .ref m_tape, .int (nI q_taped), .int q_fault, .int q_wrong, .int q_wrongAt, .int q_spot, .int q_place, .int q_token, .int q_value, .ref m_ends, .ref m_letters, .ref m_actOf, .ref m_whom, .ref m_actMany, .ref m_tokens, .ref m_afters, .ref m_afterOf, .int q_counted, .ref m_pile, .ref m_caseMany, .ref m_happen, .ref m_hasIf, .ref m_becomes, .ref m_goneOf, .ref m_heard, .ref m_pairs, .ref m_heaps, .int q_rounds, .int q_heapMany, .ref m_led, .ref m_newAt, .ref m_knowing, .ref m_firsts, .int (nI q_people), .ref m_secrets, .ref m_tried, .ref m_lanes, .ref m_lengths, .ref m_cells])), (m_manys, .inl (E.2.1 1, 18, .inl f_manys)), (m_reals, .inl (E.2.1 1, 18, .inl f_reals)), (m_factsOf, .inl (E.2.1 1, 432, .inl f_factsOf)), (m_possible, .inl (E.2.1 1, 1728, .inl f_possible)), (m_actMany, .inl (E.2.1 1, 25, .inl f_actMany)), (m_actOf, .inl (E.2.1 1, 800, .inl f_actOf)), (m_whom, .inl (E.2.1 1, 800, .inl f_whom)), (m_pile, .inl (E.2.1 1, 34, .inl g1))]) C hT [0, 1, 2, 3, 4, 5, 6, 7, 8] (gqk (by eq_refl)) (ndk (by decide +kernel)) rfl rfl dX12_trueAt_259 (⟨g1, rfl, (by have h9 : ii = 0 := (by omega); rw [h9] at hst; have h8 := hst 0 (show ((0 : Nat) : Int) < 1 by omega); rw [ex_8] at h8; exact h8)⟩)
      · have zc_7 : ((ii : Int) - 1) ≥ 0 := i_nlt hxi rfl c_7
        obtain ⟨j_9, hj_9, rfl⟩ := i_nat (x := xi) (N := 31) (by omega) (by omega)
        have hzj_9 := nI_toInt (n := j_9) (by omega)
        refine ww_aload_n C dX12_trueAt_28 3 rfl rfl ?_
        refine ww_get C fg_X12_31 0 rfl rfl dX12_trueAt_29 ?_
        refine ww_bipush (v := 32) C dX12_trueAt_32 rfl ?_
        refine ww_iload_n C dX12_trueAt_34 4 rfl rfl ?_
        refine ww_imul (v := (nI (32 * sl))) C dX12_trueAt_35 (pk_mul 32 sl) ?_
        refine ww_iload C dX12_trueAt_36 0 rfl ?_
        refine ww_iadd (v := (nI ((32 * sl) + j_9))) C dX12_trueAt_38 (nI_add (32 * sl) j_9) ?_
        obtain ⟨x_10, ex_10⟩ : ∃ z : Int32, f_actOf ((32 * sl) + j_9) = z := ⟨_, rfl⟩
        refine ww_iald (v := x_10) C 6 rfl (vp_in_nI (by omega) (by omega)) (ldn (by omega) ex_10) dX12_trueAt_39 ?_
        refine ww_istore (lv' := [(6, .int x_10), (5, .int (nI j_9)), (4, .int (nI tt)), (3, .int r_2), (0, .ref hm), (1, .int (nI sl)), (2, .int (nI pg))]) C dX12_trueAt_40 rfl rfl ?_
        have hxj_9 : slot f_actOf sl j_9 = x_10 := by assumption
        have hxrj_9 := hwr.2.1.1 j_9 (by omega)
        have hoj_9 := opr_s (slot f_actOf sl) j_9
        rw [hxj_9] at hoj_9 hxrj_9
        have h1j_9 := hwr.2.1.2 j_9 (by omega)
        have h2j_9 := opr_le hwr (i := j_9 + 1) (by omega) (by omega)
        have h3j_9 := opr_le hwr (i := j_9) (by omega) (by omega)
        have h4j_9 : ii = j_9 + 1 := by omega
        rw [h4j_9] at htt
        have hwij_9 := wR_in x_10
        have hw4j_9 : x_10.toInt ≤ 4 → wR x_10 = 0 := fun h => wR_a0 h
        have hw6j_9 : x_10.toInt = 6 ∨ x_10.toInt = 7 → wR x_10 = 2 := fun h => wR_a2 h
        have hw1j_9 : 4 < x_10.toInt ∧ x_10.toInt ≠ 6 ∧ x_10.toInt ≠ 7 → wR x_10 = 1 := fun h => wR_a1 h
        rw [h4j_9] at hst
        have hp0j_9 := hopn j_9 (by omega)
        have hp1j_9 := hopn (j_9 + 1) (by omega)
        refine ww_iload_n C dX12_trueAt_42 3 rfl rfl ?_
        refine ww_istore (lv' := [(7, .int r_2), (6, .int x_10), (5, .int (nI j_9)), (4, .int (nI tt)), (3, .int r_2), (0, .ref hm), (1, .int (nI sl)), (2, .int (nI pg))]) C dX12_trueAt_43 rfl rfl ?_
        refine ww_iload C dX12_trueAt_45 1 rfl ?_
        refine ww_iconst (v := 4) C dX12_trueAt_47 rfl ?_
        refine ww_icmp_ge (tgt := 102) C dX12_trueAt_48 (by decide) (fun c_11 => ?_) (fun c_11 => ?_)
        · have zc_11 : x_10.toInt ≥ 4 := i_le rfl rfl c_11
          refine ww_iload C dX12_trueAt_102 1 rfl ?_
          refine ww_iconst (v := 5) C dX12_trueAt_104 rfl ?_
          refine ww_icmp_ne (tgt := 126) C dX12_trueAt_105 (by decide) (fun c_12 => ?_) (fun c_12 => ?_)
          · have zc_12 : x_10.toInt ≠ 5 := i_ne rfl rfl c_12
            refine ww_iload C dX12_trueAt_126 1 rfl ?_
            refine ww_bipush (v := 6) C dX12_trueAt_128 rfl ?_
            refine ww_icmp_ne (tgt := 157) C dX12_trueAt_130 (by decide) (fun c_13 => ?_) (fun c_13 => ?_)
            · have zc_13 : x_10.toInt ≠ 6 := i_ne rfl rfl c_13
              refine ww_iload C dX12_trueAt_157 1 rfl ?_
              refine ww_bipush (v := 7) C dX12_trueAt_159 rfl ?_
              refine ww_icmp_ne (tgt := 188) C dX12_trueAt_161 (by decide) (fun c_14 => ?_) (fun c_14 => ?_)
              · have zc_14 : x_10.toInt ≠ 7 := i_ne rfl rfl c_14
                refine ww_iload C dX12_trueAt_188 1 rfl ?_
                refine ww_bipush (v := 8) C dX12_trueAt_190 rfl ?_
                refine ww_icmp_lt (tgt := 225) C dX12_trueAt_192 (by decide) (fun c_15 => ?_) (fun c_15 => ?_)
                · have zc_15 : x_10.toInt < 8 := i_lt rfl rfl c_15
                  refine ww_iload C dX12_trueAt_225 3 rfl ?_
                  refine ww_iload C dX12_trueAt_227 1 rfl ?_
                  refine ww_ci (wr := [(hm, .inr (12, [.ref m_manys, .ref m_reals, .ref m_factsOf, .ref m_possible, .int (nI q_undos), .int (nI q_models), .ref m_tape, .int (nI q_taped), .int q_fault, .int q_wrong, .int q_wrongAt, .int q_spot, .int q_place, .int q_token, .int q_value, .ref m_ends, .ref m_letters, .ref m_actOf, .ref m_whom, .ref m_actMany, .ref m_tokens, .ref m_afters, .ref m_afterOf, .int q_counted, .ref m_pile, .ref m_caseMany, .ref m_happen, .ref m_hasIf, .ref m_becomes, .ref m_goneOf, .ref m_heard, .ref m_pairs, .ref m_heaps, .int q_rounds, .int q_heapMany, .ref m_led, .ref m_newAt, .ref m_knowing, .ref m_firsts, .int (nI q_people), .ref m_secrets, .ref m_tried, .ref m_lanes, .ref m_lengths, .ref m_cells])), (m_manys, .inl (E.2.1 1, 18, .inl f_manys)), (m_reals, .inl (E.2.1 1, 18, .inl f_reals)), (m_factsOf, .inl (E.2.1 1, 432, .inl f_factsOf)), (m_possible, .inl (E.2.1 1, 1728, .inl f_possible)), (m_actMany, .inl (E.2.1 1, 25, .inl f_actMany)), (m_actOf, .inl (E.2.1 1, 800, .inl f_actOf)), (m_whom, .inl (E.2.1 1, 800, .inl f_whom)), (m_pile, .inl (E.2.1 1, 34, .inl g1))]) (k' := 0) (n' := 0) C (run_S (As := [.int x_10]) (rest := [.int (nI tt)]) C (r_wantsOf X.2.1 E ro x_10 x_10.toInt rfl) ms_X12_wantsOf wl_X12_215 rfl rfl rfl rfl dX12_trueAt_229) (roK hro) [] [0, 1, 2, 3, 4, 5, 6, 7, 8] rfl (gqk (by eq_refl)) (plk (by decide +kernel)) rfl (fun r_16 uz hw => ?_)
                  rcases hw with hw | hw | hw
                  · refine an2 hw ?_
                    clear hw
                    intro he_18 he_19 hw
                    have h_17 := hw
                    clear hw
                    have he_18 := he_18.symm
                    subst he_18
                    subst he_19
                    refine ww_eq (ws' := [(hm, .inr (12, [.ref m_manys, .ref m_reals, .ref m_factsOf, .ref m_possible, .int (nI q_undos), .int (nI q_models), .ref m_tape, .int (nI q_taped), .int q_fault, .int q_wrong, .int q_wrongAt, .int q_spot, .int q_place, .int q_token, .int q_value, .ref m_ends, .ref m_letters, .ref m_actOf, .ref m_whom, .ref m_actMany, .ref m_tokens, .ref m_afters, .ref m_afterOf, .int q_counted, .ref m_pile, .ref m_caseMany, .ref m_happen, .ref m_hasIf, .ref m_becomes, .ref m_goneOf, .ref m_heard, .ref m_pairs, .ref m_heaps, .int q_rounds, .int q_heapMany, .ref m_led, .ref m_newAt, .ref m_knowing, .ref m_firsts, .int (nI q_people), .ref m_secrets, .ref m_tried, .ref m_lanes, .ref m_lengths, .ref m_cells])), (m_manys, .inl (E.2.1 1, 18, .inl f_manys)), (m_reals, .inl (E.2.1 1, 18, .inl f_reals)), (m_factsOf, .inl (E.2.1 1, 432, .inl f_factsOf)), (m_possible, .inl (E.2.1 1, 1728, .inl f_possible)), (m_actMany, .inl (E.2.1 1, 25, .inl f_actMany)), (m_actOf, .inl (E.2.1 1, 800, .inl f_actOf)), (m_whom, .inl (E.2.1 1, 800, .inl f_whom)), (m_pile, .inl (E.2.1 1, 34, .inl g1))]) ?_ rfl rfl rfl
                    refine ww_isub (v := (nI (tt - 0))) C dX12_trueAt_232 (pk_sub (a := tt) (b := 0) (by omega)) ?_
                    refine ww_istore (lv' := [(4, .int (nI (tt - 0))), (7, .int r_2), (6, .int x_10), (5, .int (nI j_9)), (3, .int r_2), (0, .ref hm), (1, .int (nI sl)), (2, .int (nI pg))]) C dX12_trueAt_233 rfl rfl ?_
                    refine ww_aload_n C dX12_trueAt_235 5 rfl rfl ?_
                    refine ww_get C fg_X12_49 0 rfl rfl dX12_trueAt_236 ?_
                    refine ww_iload C dX12_trueAt_239 0 rfl ?_
                    refine ww_iload C dX12_trueAt_241 1 rfl ?_
                    obtain ⟨f_26, ef_26⟩ : ∃ z : Nat → Int32, upd g1 (tt - 0) r_2 = z := ⟨_, rfl⟩
                    refine ww_iast (ws' := [(hm, .inr (12, [.ref m_manys, .ref m_reals, .ref m_factsOf, .ref m_possible, .int (nI q_undos), .int (nI q_models), .ref m_tape, .int (nI q_taped), .int q_fault, .int q_wrong, .int q_wrongAt, .int q_spot, .int q_place, .int q_token, .int q_value, .ref m_ends, .ref m_letters, .ref m_actOf, .ref m_whom, .ref m_actMany, .ref m_tokens, .ref m_afters, .ref m_afterOf, .int q_counted, .ref m_pile, .ref m_caseMany, .ref m_happen, .ref m_hasIf, .ref m_becomes, .ref m_goneOf, .ref m_heard, .ref m_pairs, .ref m_heaps, .int q_rounds, .int q_heapMany, .ref m_led, .ref m_newAt, .ref m_knowing, .ref m_firsts, .int (nI q_people), .ref m_secrets, .ref m_tried, .ref m_lanes, .ref m_lengths, .ref m_cells])), (m_manys, .inl (E.2.1 1, 18, .inl f_manys)), (m_reals, .inl (E.2.1 1, 18, .inl f_reals)), (m_factsOf, .inl (E.2.1 1, 432, .inl f_factsOf)), (m_possible, .inl (E.2.1 1, 1728, .inl f_possible)), (m_actMany, .inl (E.2.1 1, 25, .inl f_actMany)), (m_actOf, .inl (E.2.1 1, 800, .inl f_actOf)), (m_whom, .inl (E.2.1 1, 800, .inl f_whom)), (m_pile, .inl (E.2.1 1, 34, .inl f_26))]) C 8 rfl (vp_in_nI (by omega) (by omega)) (ldn2 (by omega) ef_26) rfl dX12_trueAt_243 ?_
                    refine ww_iinc (j := 0) (v := (nI ((tt - 0) + 1))) (lv' := [(4, .int (nI ((tt - 0) + 1))), (7, .int r_2), (6, .int x_10), (5, .int (nI j_9)), (3, .int r_2), (0, .ref hm), (1, .int (nI sl)), (2, .int (nI pg))]) C dX12_trueAt_244 rfl (nI_add (tt - 0) 1) rfl rfl ?_
                    obtain ⟨x_27, ex_27⟩ : ∃ z : Int32, (nI j_9) + Int32.ofInt (-1) = z := ⟨_, rfl⟩
                    have zx_27 : x_27.toInt = ((j_9 : Nat) : Int) - 1 := by rw [← ex_27]; exact i_dec (c := 1) (nI_toInt (n := j_9) (by omega)) rfl (by omega) (by omega)
                    refine ww_iinc (j := 3) (v := x_27) (lv' := [(5, .int x_27), (4, .int (nI ((tt - 0) + 1))), (7, .int r_2), (6, .int x_10), (3, .int r_2), (0, .ref hm), (1, .int (nI sl)), (2, .int (nI pg))]) C dX12_trueAt_247 rfl ex_27 rfl rfl ?_
                    refine ww_goto (tgt := 23) C dX12_trueAt_250 (by decide) ?_
                    exact ww_lv [0, 1, 4, 5, 6, 7] rfl (ww_sub [0, 1, 2, 3, 4, 5, 6, 7, 8] (ndk (by decide +kernel)) (gqk (by eq_refl)) (ih_23 x_27 j_9 ((tt - 0) + 1) f_26 (by omega) (by omega) (by omega) (st_s hst (by omega) (by rw [hopn _ (by omega)]; omega) (by first | exact te_4 hxj_9 (by omega) h_3 | exact False.elim (by omega)) ef_26) (by omega)))
                  · refine an2 hw ?_
                    clear hw
                    intro he_21 he_22 hw
                    have h_20 := hw
                    clear hw
                    have he_21 := he_21.symm
                    subst he_21
                    subst he_22
                    refine ww_eq (ws' := [(hm, .inr (12, [.ref m_manys, .ref m_reals, .ref m_factsOf, .ref m_possible, .int (nI q_undos), .int (nI q_models), .ref m_tape, .int (nI q_taped), .int q_fault, .int q_wrong, .int q_wrongAt, .int q_spot, .int q_place, .int q_token, .int q_value, .ref m_ends, .ref m_letters, .ref m_actOf, .ref m_whom, .ref m_actMany, .ref m_tokens, .ref m_afters, .ref m_afterOf, .int q_counted, .ref m_pile, .ref m_caseMany, .ref m_happen, .ref m_hasIf, .ref m_becomes, .ref m_goneOf, .ref m_heard, .ref m_pairs, .ref m_heaps, .int q_rounds, .int q_heapMany, .ref m_led, .ref m_newAt, .ref m_knowing, .ref m_firsts, .int (nI q_people), .ref m_secrets, .ref m_tried, .ref m_lanes, .ref m_lengths, .ref m_cells])), (m_manys, .inl (E.2.1 1, 18, .inl f_manys)), (m_reals, .inl (E.2.1 1, 18, .inl f_reals)), (m_factsOf, .inl (E.2.1 1, 432, .inl f_factsOf)), (m_possible, .inl (E.2.1 1, 1728, .inl f_possible)), (m_actMany, .inl (E.2.1 1, 25, .inl f_actMany)), (m_actOf, .inl (E.2.1 1, 800, .inl f_actOf)), (m_whom, .inl (E.2.1 1, 800, .inl f_whom)), (m_pile, .inl (E.2.1 1, 34, .inl g1))]) ?_ rfl rfl rfl
                    refine ww_isub (v := (nI (tt - 2))) C dX12_trueAt_232 (pk_sub (a := tt) (b := 2) (by omega)) ?_
                    refine ww_istore (lv' := [(4, .int (nI (tt - 2))), (7, .int r_2), (6, .int x_10), (5, .int (nI j_9)), (3, .int r_2), (0, .ref hm), (1, .int (nI sl)), (2, .int (nI pg))]) C dX12_trueAt_233 rfl rfl ?_
                    refine ww_aload_n C dX12_trueAt_235 5 rfl rfl ?_
                    refine ww_get C fg_X12_49 0 rfl rfl dX12_trueAt_236 ?_
                    refine ww_iload C dX12_trueAt_239 0 rfl ?_
                    refine ww_iload C dX12_trueAt_241 1 rfl ?_
                    obtain ⟨f_28, ef_28⟩ : ∃ z : Nat → Int32, upd g1 (tt - 2) r_2 = z := ⟨_, rfl⟩
                    refine ww_iast (ws' := [(hm, .inr (12, [.ref m_manys, .ref m_reals, .ref m_factsOf, .ref m_possible, .int (nI q_undos), .int (nI q_models), .ref m_tape, .int (nI q_taped), .int q_fault, .int q_wrong, .int q_wrongAt, .int q_spot, .int q_place, .int q_token, .int q_value, .ref m_ends, .ref m_letters, .ref m_actOf, .ref m_whom, .ref m_actMany, .ref m_tokens, .ref m_afters, .ref m_afterOf, .int q_counted, .ref m_pile, .ref m_caseMany, .ref m_happen, .ref m_hasIf, .ref m_becomes, .ref m_goneOf, .ref m_heard, .ref m_pairs, .ref m_heaps, .int q_rounds, .int q_heapMany, .ref m_led, .ref m_newAt, .ref m_knowing, .ref m_firsts, .int (nI q_people), .ref m_secrets, .ref m_tried, .ref m_lanes, .ref m_lengths, .ref m_cells])), (m_manys, .inl (E.2.1 1, 18, .inl f_manys)), (m_reals, .inl (E.2.1 1, 18, .inl f_reals)), (m_factsOf, .inl (E.2.1 1, 432, .inl f_factsOf)), (m_possible, .inl (E.2.1 1, 1728, .inl f_possible)), (m_actMany, .inl (E.2.1 1, 25, .inl f_actMany)), (m_actOf, .inl (E.2.1 1, 800, .inl f_actOf)), (m_whom, .inl (E.2.1 1, 800, .inl f_whom)), (m_pile, .inl (E.2.1 1, 34, .inl f_28))]) C 8 rfl (vp_in_nI (by omega) (by omega)) (ldn2 (by omega) ef_28) rfl dX12_trueAt_243 ?_
                    refine ww_iinc (j := 0) (v := (nI ((tt - 2) + 1))) (lv' := [(4, .int (nI ((tt - 2) + 1))), (7, .int r_2), (6, .int x_10), (5, .int (nI j_9)), (3, .int r_2), (0, .ref hm), (1, .int (nI sl)), (2, .int (nI pg))]) C dX12_trueAt_244 rfl (nI_add (tt - 2) 1) rfl rfl ?_
                    obtain ⟨x_29, ex_29⟩ : ∃ z : Int32, (nI j_9) + Int32.ofInt (-1) = z := ⟨_, rfl⟩
                    have zx_29 : x_29.toInt = ((j_9 : Nat) : Int) - 1 := by rw [← ex_29]; exact i_dec (c := 1) (nI_toInt (n := j_9) (by omega)) rfl (by omega) (by omega)
                    refine ww_iinc (j := 3) (v := x_29) (lv' := [(5, .int x_29), (4, .int (nI ((tt - 2) + 1))), (7, .int r_2), (6, .int x_10), (3, .int r_2), (0, .ref hm), (1, .int (nI sl)), (2, .int (nI pg))]) C dX12_trueAt_247 rfl ex_29 rfl rfl ?_
                    refine ww_goto (tgt := 23) C dX12_trueAt_250 (by decide) ?_
                    exact ww_lv [0, 1, 4, 5, 6, 7] rfl (ww_sub [0, 1, 2, 3, 4, 5, 6, 7, 8] (ndk (by decide +kernel)) (gqk (by eq_refl)) (ih_23 x_29 j_9 ((tt - 2) + 1) f_28 (by omega) (by omega) (by omega) (st_s hst (by omega) (by rw [hopn _ (by omega)]; omega) (by first | exact te_4 hxj_9 (by omega) h_3 | exact False.elim (by omega)) ef_28) (by omega)))
                  · refine an2 hw ?_
                    clear hw
                    intro he_24 he_25 hw
                    have h_23 := hw
                    clear hw
                    have he_24 := he_24.symm
                    subst he_24
                    subst he_25
                    refine ww_eq (ws' := [(hm, .inr (12, [.ref m_manys, .ref m_reals, .ref m_factsOf, .ref m_possible, .int (nI q_undos), .int (nI q_models), .ref m_tape, .int (nI q_taped), .int q_fault, .int q_wrong, .int q_wrongAt, .int q_spot, .int q_place, .int q_token, .int q_value, .ref m_ends, .ref m_letters, .ref m_actOf, .ref m_whom, .ref m_actMany, .ref m_tokens, .ref m_afters, .ref m_afterOf, .int q_counted, .ref m_pile, .ref m_caseMany, .ref m_happen, .ref m_hasIf, .ref m_becomes, .ref m_goneOf, .ref m_heard, .ref m_pairs, .ref m_heaps, .int q_rounds, .int q_heapMany, .ref m_led, .ref m_newAt, .ref m_knowing, .ref m_firsts, .int (nI q_people), .ref m_secrets, .ref m_tried, .ref m_lanes, .ref m_lengths, .ref m_cells])), (m_manys, .inl (E.2.1 1, 18, .inl f_manys)), (m_reals, .inl (E.2.1 1, 18, .inl f_reals)), (m_factsOf, .inl (E.2.1 1, 432, .inl f_factsOf)), (m_possible, .inl (E.2.1 1, 1728, .inl f_possible)), (m_actMany, .inl (E.2.1 1, 25, .inl f_actMany)), (m_actOf, .inl (E.2.1 1, 800, .inl f_actOf)), (m_whom, .inl (E.2.1 1, 800, .inl f_whom)), (m_pile, .inl (E.2.1 1, 34, .inl g1))]) ?_ rfl rfl rfl
                    refine ww_isub (v := (nI (tt - 1))) C dX12_trueAt_232 (pk_sub (a := tt) (b := 1) (by omega)) ?_
                    refine ww_istore (lv' := [(4, .int (nI (tt - 1))), (7, .int r_2), (6, .int x_10), (5, .int (nI j_9)), (3, .int r_2), (0, .ref hm), (1, .int (nI sl)), (2, .int (nI pg))]) C dX12_trueAt_233 rfl rfl ?_
                    refine ww_aload_n C dX12_trueAt_235 5 rfl rfl ?_
                    refine ww_get C fg_X12_49 0 rfl rfl dX12_trueAt_236 ?_
                    refine ww_iload C dX12_trueAt_239 0 rfl ?_
                    refine ww_iload C dX12_trueAt_241 1 rfl ?_
                    obtain ⟨f_30, ef_30⟩ : ∃ z : Nat → Int32, upd g1 (tt - 1) r_2 = z := ⟨_, rfl⟩
                    refine ww_iast (ws' := [(hm, .inr (12, [.ref m_manys, .ref m_reals, .ref m_factsOf, .ref m_possible, .int (nI q_undos), .int (nI q_models), .ref m_tape, .int (nI q_taped), .int q_fault, .int q_wrong, .int q_wrongAt, .int q_spot, .int q_place, .int q_token, .int q_value, .ref m_ends, .ref m_letters, .ref m_actOf, .ref m_whom, .ref m_actMany, .ref m_tokens, .ref m_afters, .ref m_afterOf, .int q_counted, .ref m_pile, .ref m_caseMany, .ref m_happen, .ref m_hasIf, .ref m_becomes, .ref m_goneOf, .ref m_heard, .ref m_pairs, .ref m_heaps, .int q_rounds, .int q_heapMany, .ref m_led, .ref m_newAt, .ref m_knowing, .ref m_firsts, .int (nI q_people), .ref m_secrets, .ref m_tried, .ref m_lanes, .ref m_lengths, .ref m_cells])), (m_manys, .inl (E.2.1 1, 18, .inl f_manys)), (m_reals, .inl (E.2.1 1, 18, .inl f_reals)), (m_factsOf, .inl (E.2.1 1, 432, .inl f_factsOf)), (m_possible, .inl (E.2.1 1, 1728, .inl f_possible)), (m_actMany, .inl (E.2.1 1, 25, .inl f_actMany)), (m_actOf, .inl (E.2.1 1, 800, .inl f_actOf)), (m_whom, .inl (E.2.1 1, 800, .inl f_whom)), (m_pile, .inl (E.2.1 1, 34, .inl f_30))]) C 8 rfl (vp_in_nI (by omega) (by omega)) (ldn2 (by omega) ef_30) rfl dX12_trueAt_243 ?_
                    refine ww_iinc (j := 0) (v := (nI ((tt - 1) + 1))) (lv' := [(4, .int (nI ((tt - 1) + 1))), (7, .int r_2), (6, .int x_10), (5, .int (nI j_9)), (3, .int r_2), (0, .ref hm), (1, .int (nI sl)), (2, .int (nI pg))]) C dX12_trueAt_244 rfl (nI_add (tt - 1) 1) rfl rfl ?_
                    obtain ⟨x_31, ex_31⟩ : ∃ z : Int32, (nI j_9) + Int32.ofInt (-1) = z := ⟨_, rfl⟩
                    have zx_31 : x_31.toInt = ((j_9 : Nat) : Int) - 1 := by rw [← ex_31]; exact i_dec (c := 1) (nI_toInt (n := j_9) (by omega)) rfl (by omega) (by omega)
                    refine ww_iinc (j := 3) (v := x_31) (lv' := [(5, .int x_31), (4, .int (nI ((tt - 1) + 1))), (7, .int r_2), (6, .int x_10), (3, .int r_2), (0, .ref hm), (1, .int (nI sl)), (2, .int (nI pg))]) C dX12_trueAt_247 rfl ex_31 rfl rfl ?_
                    refine ww_goto (tgt := 23) C dX12_trueAt_250 (by decide) ?_
                    exact ww_lv [0, 1, 4, 5, 6, 7] rfl (ww_sub [0, 1, 2, 3, 4, 5, 6, 7, 8] (ndk (by decide +kernel)) (gqk (by eq_refl)) (ih_23 x_31 j_9 ((tt - 1) + 1) f_30 (by omega) (by omega) (by omega) (st_s hst (by omega) (by rw [hopn _ (by omega)]; omega) (by first | exact te_4 hxj_9 (by omega) h_3 | exact False.elim (by omega)) ef_30) (by omega)))
                · have zc_15 : x_10.toInt ≥ 8 := i_nlt rfl rfl c_15
                  refine ww_aload_n C dX12_trueAt_195 5 rfl rfl ?_
                  refine ww_iload_n C dX12_trueAt_196 7 rfl rfl ?_
                  refine ww_iload C dX12_trueAt_197 1 rfl ?_
                  refine ww_aload_n C dX12_trueAt_199 5 rfl rfl ?_
                  refine ww_get C fg_X12_34 0 rfl rfl dX12_trueAt_200 ?_
                  refine ww_bipush (v := 32) C dX12_trueAt_203 rfl ?_
                  refine ww_iload_n C dX12_trueAt_205 6 rfl rfl ?_
                  refine ww_imul (v := (nI (32 * sl))) C dX12_trueAt_206 (pk_mul 32 sl) ?_
                  refine ww_iload C dX12_trueAt_207 2 rfl ?_
                  refine ww_iadd (v := (nI ((32 * sl) + j_9))) C dX12_trueAt_209 (nI_add (32 * sl) j_9) ?_
                  obtain ⟨x_32, ex_32⟩ : ∃ z : Int32, f_whom ((32 * sl) + j_9) = z := ⟨_, rfl⟩
                  refine ww_iald (v := x_32) C 7 rfl (vp_in_nI (by omega) (by omega)) (ldn (by omega) ex_32) dX12_trueAt_210 ?_
                  refine ww_aload_n C dX12_trueAt_211 5 rfl rfl ?_
                  refine ww_get C fg_X12_49 0 rfl rfl dX12_trueAt_212 ?_
                  refine ww_iload C dX12_trueAt_215 3 rfl ?_
                  refine ww_iconst (v := 1) C dX12_trueAt_217 rfl ?_
                  refine ww_isub (v := (nI (tt - 1))) C dX12_trueAt_218 (pk_sub (a := tt) (b := 1) (by omega)) ?_
                  obtain ⟨x_33, ex_33⟩ : ∃ z : Int32, g1 (tt - 1) = z := ⟨_, rfl⟩
                  refine ww_iald (v := x_33) C 8 rfl (vp_in_nI (by omega) (by omega)) (ldn (by omega) ex_33) dX12_trueAt_219 ?_
                  refine ww_ci (wr := [(m_actMany, .inl (E.2.1 1, 25, .inl f_actMany)), (m_actOf, .inl (E.2.1 1, 800, .inl f_actOf)), (m_whom, .inl (E.2.1 1, 800, .inl f_whom)), (m_pile, .inl (E.2.1 1, 34, .inl g1))]) (k' := 0) (n' := 0) C (run_V (As := [.int (nI pg), .int x_10, .int x_32, .int x_33]) (rest := []) C (r_knownBy X.2.1 E ro hm pg x_10 x_32 x_33 m_manys m_reals m_factsOf m_possible q_undos q_models m_tape q_taped q_fault q_wrong q_wrongAt q_spot q_place q_token q_value m_ends m_letters m_actOf m_whom m_actMany m_tokens m_afters m_afterOf q_counted m_pile m_caseMany m_happen m_hasIf m_becomes m_goneOf m_heard m_pairs m_heaps q_rounds q_heapMany m_led m_newAt m_knowing m_firsts q_people m_secrets m_tried m_lanes m_lengths m_cells f_manys f_reals f_factsOf f_possible hb_manys hb_reals hpg hwf (by omega) (WHs.k9 (i := j_9) hWs (by omega) (by assumption) (by assumption)) (WHs.k12 (i := j_9) hWs (by omega) (by assumption) (by assumption))) mi_X12_knownBy wl_X12_233 rfl 0 12 rfl rfl rfl rfl rfl dX12_trueAt_220) (roK hro) [0, 1, 2, 3, 4] [5, 6, 7, 8] rfl rfl (plk (by decide +kernel)) rfl (fun r_34 uz hw => ?_)
                  refine an1 hw ?_
                  clear hw
                  intro he_36 hw
                  have h_35 := hw
                  clear hw
                  subst he_36
                  refine ww_eq (ws' := [(m_actMany, .inl (E.2.1 1, 25, .inl f_actMany)), (m_actOf, .inl (E.2.1 1, 800, .inl f_actOf)), (m_whom, .inl (E.2.1 1, 800, .inl f_whom)), (m_pile, .inl (E.2.1 1, 34, .inl g1)), (hm, .inr (12, [.ref m_manys, .ref m_reals, .ref m_factsOf, .ref m_possible, .int (nI q_undos), .int (nI q_models), .ref m_tape, .int (nI q_taped), .int q_fault, .int q_wrong, .int q_wrongAt, .int q_spot, .int q_place, .int q_token, .int q_value, .ref m_ends, .ref m_letters, .ref m_actOf, .ref m_whom, .ref m_actMany, .ref m_tokens, .ref m_afters, .ref m_afterOf, .int q_counted, .ref m_pile, .ref m_caseMany, .ref m_happen, .ref m_hasIf, .ref m_becomes, .ref m_goneOf, .ref m_heard, .ref m_pairs, .ref m_heaps, .int q_rounds, .int q_heapMany, .ref m_led, .ref m_newAt, .ref m_knowing, .ref m_firsts, .int (nI q_people), .ref m_secrets, .ref m_tried, .ref m_lanes, .ref m_lengths, .ref m_cells])), (m_manys, .inl (E.2.1 1, 18, .inl f_manys)), (m_reals, .inl (E.2.1 1, 18, .inl f_reals)), (m_factsOf, .inl (E.2.1 1, 432, .inl f_factsOf)), (m_possible, .inl (E.2.1 1, 1728, .inl f_possible))]) ?_ rfl rfl rfl
                  refine ww_istore (lv' := [(7, .int r_34), (6, .int x_10), (5, .int (nI j_9)), (4, .int (nI tt)), (3, .int r_2), (0, .ref hm), (1, .int (nI sl)), (2, .int (nI pg))]) C dX12_trueAt_223 rfl rfl ?_
                  refine ww_iload C dX12_trueAt_225 3 rfl ?_
                  refine ww_iload C dX12_trueAt_227 1 rfl ?_
                  refine ww_ci (wr := [(m_actMany, .inl (E.2.1 1, 25, .inl f_actMany)), (m_actOf, .inl (E.2.1 1, 800, .inl f_actOf)), (m_whom, .inl (E.2.1 1, 800, .inl f_whom)), (m_pile, .inl (E.2.1 1, 34, .inl g1)), (hm, .inr (12, [.ref m_manys, .ref m_reals, .ref m_factsOf, .ref m_possible, .int (nI q_undos), .int (nI q_models), .ref m_tape, .int (nI q_taped), .int q_fault, .int q_wrong, .int q_wrongAt, .int q_spot, .int q_place, .int q_token, .int q_value, .ref m_ends, .ref m_letters, .ref m_actOf, .ref m_whom, .ref m_actMany, .ref m_tokens, .ref m_afters, .ref m_afterOf, .int q_counted, .ref m_pile, .ref m_caseMany, .ref m_happen, .ref m_hasIf, .ref m_becomes, .ref m_goneOf, .ref m_heard, .ref m_pairs, .ref m_heaps, .int q_rounds, .int q_heapMany, .ref m_led, .ref m_newAt, .ref m_knowing, .ref m_firsts, .int (nI q_people), .ref m_secrets, .ref m_tried, .ref m_lanes, .ref m_lengths, .ref m_cells])), (m_manys, .inl (E.2.1 1, 18, .inl f_manys)), (m_reals, .inl (E.2.1 1, 18, .inl f_reals)), (m_factsOf, .inl (E.2.1 1, 432, .inl f_factsOf)), (m_possible, .inl (E.2.1 1, 1728, .inl f_possible))]) (k' := 0) (n' := 0) C (run_S (As := [.int x_10]) (rest := [.int (nI tt)]) C (r_wantsOf X.2.1 E ro x_10 x_10.toInt rfl) ms_X12_wantsOf wl_X12_215 rfl rfl rfl rfl dX12_trueAt_229) (roK hro) [] [0, 1, 2, 3, 4, 5, 6, 7, 8] rfl (gqk (by eq_refl)) (plk (by decide +kernel)) rfl (fun r_37 uz hw => ?_)
                  rcases hw with hw | hw | hw
                  · refine an2 hw ?_
                    clear hw
                    intro he_39 he_40 hw
                    have h_38 := hw
                    clear hw
                    have he_39 := he_39.symm
                    subst he_39
                    subst he_40
                    omega
                  · refine an2 hw ?_
                    clear hw
                    intro he_42 he_43 hw
                    have h_41 := hw
                    clear hw
                    have he_42 := he_42.symm
                    subst he_42
                    subst he_43
                    omega
                  · refine an2 hw ?_
                    clear hw
                    intro he_45 he_46 hw
                    have h_44 := hw
                    clear hw
                    have he_45 := he_45.symm
                    subst he_45
                    subst he_46
                    refine ww_eq (ws' := [(m_actMany, .inl (E.2.1 1, 25, .inl f_actMany)), (m_actOf, .inl (E.2.1 1, 800, .inl f_actOf)), (m_whom, .inl (E.2.1 1, 800, .inl f_whom)), (m_pile, .inl (E.2.1 1, 34, .inl g1)), (hm, .inr (12, [.ref m_manys, .ref m_reals, .ref m_factsOf, .ref m_possible, .int (nI q_undos), .int (nI q_models), .ref m_tape, .int (nI q_taped), .int q_fault, .int q_wrong, .int q_wrongAt, .int q_spot, .int q_place, .int q_token, .int q_value, .ref m_ends, .ref m_letters, .ref m_actOf, .ref m_whom, .ref m_actMany, .ref m_tokens, .ref m_afters, .ref m_afterOf, .int q_counted, .ref m_pile, .ref m_caseMany, .ref m_happen, .ref m_hasIf, .ref m_becomes, .ref m_goneOf, .ref m_heard, .ref m_pairs, .ref m_heaps, .int q_rounds, .int q_heapMany, .ref m_led, .ref m_newAt, .ref m_knowing, .ref m_firsts, .int (nI q_people), .ref m_secrets, .ref m_tried, .ref m_lanes, .ref m_lengths, .ref m_cells])), (m_manys, .inl (E.2.1 1, 18, .inl f_manys)), (m_reals, .inl (E.2.1 1, 18, .inl f_reals)), (m_factsOf, .inl (E.2.1 1, 432, .inl f_factsOf)), (m_possible, .inl (E.2.1 1, 1728, .inl f_possible))]) ?_ rfl rfl rfl
                    refine ww_isub (v := (nI (tt - 1))) C dX12_trueAt_232 (pk_sub (a := tt) (b := 1) (by omega)) ?_
                    refine ww_istore (lv' := [(4, .int (nI (tt - 1))), (7, .int r_34), (6, .int x_10), (5, .int (nI j_9)), (3, .int r_2), (0, .ref hm), (1, .int (nI sl)), (2, .int (nI pg))]) C dX12_trueAt_233 rfl rfl ?_
                    refine ww_aload_n C dX12_trueAt_235 5 rfl rfl ?_
                    refine ww_get C fg_X12_49 4 rfl rfl dX12_trueAt_236 ?_
                    refine ww_iload C dX12_trueAt_239 0 rfl ?_
                    refine ww_iload C dX12_trueAt_241 1 rfl ?_
                    obtain ⟨f_47, ef_47⟩ : ∃ z : Nat → Int32, upd g1 (tt - 1) r_34 = z := ⟨_, rfl⟩
                    refine ww_iast (ws' := [(m_actMany, .inl (E.2.1 1, 25, .inl f_actMany)), (m_actOf, .inl (E.2.1 1, 800, .inl f_actOf)), (m_whom, .inl (E.2.1 1, 800, .inl f_whom)), (m_pile, .inl (E.2.1 1, 34, .inl f_47)), (hm, .inr (12, [.ref m_manys, .ref m_reals, .ref m_factsOf, .ref m_possible, .int (nI q_undos), .int (nI q_models), .ref m_tape, .int (nI q_taped), .int q_fault, .int q_wrong, .int q_wrongAt, .int q_spot, .int q_place, .int q_token, .int q_value, .ref m_ends, .ref m_letters, .ref m_actOf, .ref m_whom, .ref m_actMany, .ref m_tokens, .ref m_afters, .ref m_afterOf, .int q_counted, .ref m_pile, .ref m_caseMany, .ref m_happen, .ref m_hasIf, .ref m_becomes, .ref m_goneOf, .ref m_heard, .ref m_pairs, .ref m_heaps, .int q_rounds, .int q_heapMany, .ref m_led, .ref m_newAt, .ref m_knowing, .ref m_firsts, .int (nI q_people), .ref m_secrets, .ref m_tried, .ref m_lanes, .ref m_lengths, .ref m_cells])), (m_manys, .inl (E.2.1 1, 18, .inl f_manys)), (m_reals, .inl (E.2.1 1, 18, .inl f_reals)), (m_factsOf, .inl (E.2.1 1, 432, .inl f_factsOf)), (m_possible, .inl (E.2.1 1, 1728, .inl f_possible))]) C 3 rfl (vp_in_nI (by omega) (by omega)) (ldn2 (by omega) ef_47) rfl dX12_trueAt_243 ?_
                    refine ww_iinc (j := 0) (v := (nI ((tt - 1) + 1))) (lv' := [(4, .int (nI ((tt - 1) + 1))), (7, .int r_34), (6, .int x_10), (5, .int (nI j_9)), (3, .int r_2), (0, .ref hm), (1, .int (nI sl)), (2, .int (nI pg))]) C dX12_trueAt_244 rfl (nI_add (tt - 1) 1) rfl rfl ?_
                    obtain ⟨x_48, ex_48⟩ : ∃ z : Int32, (nI j_9) + Int32.ofInt (-1) = z := ⟨_, rfl⟩
                    have zx_48 : x_48.toInt = ((j_9 : Nat) : Int) - 1 := by rw [← ex_48]; exact i_dec (c := 1) (nI_toInt (n := j_9) (by omega)) rfl (by omega) (by omega)
                    refine ww_iinc (j := 3) (v := x_48) (lv' := [(5, .int x_48), (4, .int (nI ((tt - 1) + 1))), (7, .int r_34), (6, .int x_10), (3, .int r_2), (0, .ref hm), (1, .int (nI sl)), (2, .int (nI pg))]) C dX12_trueAt_247 rfl ex_48 rfl rfl ?_
                    refine ww_goto (tgt := 23) C dX12_trueAt_250 (by decide) ?_
                    exact ww_lv [0, 1, 4, 5, 6, 7] rfl (ww_sub [4, 5, 6, 7, 8, 0, 1, 2, 3] (ndk (by decide +kernel)) (gqk (by eq_refl)) (ih_23 x_48 j_9 ((tt - 1) + 1) f_47 (by omega) (by omega) (by omega) (st_s hst (by omega) (by rw [hopn _ (by omega)]; omega) (by first | exact te_8 hWs (by omega) hxj_9 ex_32 (by omega) (by omega) (st_at (k := (tt - 1)) hst (by omega) rfl ex_33) h_35 | exact False.elim (by omega)) ef_47) (by omega)))
              · have zc_14 : x_10.toInt = 7 := i_eq rfl rfl c_14
                refine ww_aload_n C dX12_trueAt_164 5 rfl rfl ?_
                refine ww_get C fg_X12_49 0 rfl rfl dX12_trueAt_165 ?_
                refine ww_iload C dX12_trueAt_168 3 rfl ?_
                refine ww_iconst (v := 1) C dX12_trueAt_170 rfl ?_
                refine ww_isub (v := (nI (tt - 1))) C dX12_trueAt_171 (pk_sub (a := tt) (b := 1) (by omega)) ?_
                obtain ⟨x_49, ex_49⟩ : ∃ z : Int32, g1 (tt - 1) = z := ⟨_, rfl⟩
                refine ww_iald (v := x_49) C 8 rfl (vp_in_nI (by omega) (by omega)) (ldn (by omega) ex_49) dX12_trueAt_172 ?_
                refine ww_aload_n C dX12_trueAt_173 5 rfl rfl ?_
                refine ww_get C fg_X12_49 0 rfl rfl dX12_trueAt_174 ?_
                refine ww_iload C dX12_trueAt_177 3 rfl ?_
                refine ww_iconst (v := 2) C dX12_trueAt_179 rfl ?_
                refine ww_isub (v := (nI (tt - 2))) C dX12_trueAt_180 (pk_sub (a := tt) (b := 2) (by omega)) ?_
                obtain ⟨x_50, ex_50⟩ : ∃ z : Int32, g1 (tt - 2) = z := ⟨_, rfl⟩
                refine ww_iald (v := x_50) C 8 rfl (vp_in_nI (by omega) (by omega)) (ldn (by omega) ex_50) dX12_trueAt_181 ?_
                obtain ⟨x_51, ex_51⟩ : ∃ z : Int32, x_49 ||| x_50 = z := ⟨_, rfl⟩
                refine ww_ior (v := x_51) C dX12_trueAt_182 ex_51 ?_
                refine ww_istore (lv' := [(7, .int x_51), (6, .int x_10), (5, .int (nI j_9)), (4, .int (nI tt)), (3, .int r_2), (0, .ref hm), (1, .int (nI sl)), (2, .int (nI pg))]) C dX12_trueAt_183 rfl rfl ?_
                refine ww_goto (tgt := 225) C dX12_trueAt_185 (by decide) ?_
                refine ww_iload C dX12_trueAt_225 3 rfl ?_
                refine ww_iload C dX12_trueAt_227 1 rfl ?_
                refine ww_ci (wr := [(hm, .inr (12, [.ref m_manys, .ref m_reals, .ref m_factsOf, .ref m_possible, .int (nI q_undos), .int (nI q_models), .ref m_tape, .int (nI q_taped), .int q_fault, .int q_wrong, .int q_wrongAt, .int q_spot, .int q_place, .int q_token, .int q_value, .ref m_ends, .ref m_letters, .ref m_actOf, .ref m_whom, .ref m_actMany, .ref m_tokens, .ref m_afters, .ref m_afterOf, .int q_counted, .ref m_pile, .ref m_caseMany, .ref m_happen, .ref m_hasIf, .ref m_becomes, .ref m_goneOf, .ref m_heard, .ref m_pairs, .ref m_heaps, .int q_rounds, .int q_heapMany, .ref m_led, .ref m_newAt, .ref m_knowing, .ref m_firsts, .int (nI q_people), .ref m_secrets, .ref m_tried, .ref m_lanes, .ref m_lengths, .ref m_cells])), (m_manys, .inl (E.2.1 1, 18, .inl f_manys)), (m_reals, .inl (E.2.1 1, 18, .inl f_reals)), (m_factsOf, .inl (E.2.1 1, 432, .inl f_factsOf)), (m_possible, .inl (E.2.1 1, 1728, .inl f_possible)), (m_actMany, .inl (E.2.1 1, 25, .inl f_actMany)), (m_actOf, .inl (E.2.1 1, 800, .inl f_actOf)), (m_whom, .inl (E.2.1 1, 800, .inl f_whom)), (m_pile, .inl (E.2.1 1, 34, .inl g1))]) (k' := 0) (n' := 0) C (run_S (As := [.int x_10]) (rest := [.int (nI tt)]) C (r_wantsOf X.2.1 E ro x_10 x_10.toInt rfl) ms_X12_wantsOf wl_X12_215 rfl rfl rfl rfl dX12_trueAt_229) (roK hro) [] [0, 1, 2, 3, 4, 5, 6, 7, 8] rfl (gqk (by eq_refl)) (plk (by decide +kernel)) rfl (fun r_52 uz hw => ?_)
                rcases hw with hw | hw | hw
                · refine an2 hw ?_
                  clear hw
                  intro he_54 he_55 hw
                  have h_53 := hw
                  clear hw
                  have he_54 := he_54.symm
                  subst he_54
                  subst he_55
                  omega
                · refine an2 hw ?_
                  clear hw
                  intro he_57 he_58 hw
                  have h_56 := hw
                  clear hw
                  have he_57 := he_57.symm
                  subst he_57
                  subst he_58
                  refine ww_eq (ws' := [(hm, .inr (12, [.ref m_manys, .ref m_reals, .ref m_factsOf, .ref m_possible, .int (nI q_undos), .int (nI q_models), .ref m_tape, .int (nI q_taped), .int q_fault, .int q_wrong, .int q_wrongAt, .int q_spot, .int q_place, .int q_token, .int q_value, .ref m_ends, .ref m_letters, .ref m_actOf, .ref m_whom, .ref m_actMany, .ref m_tokens, .ref m_afters, .ref m_afterOf, .int q_counted, .ref m_pile, .ref m_caseMany, .ref m_happen, .ref m_hasIf, .ref m_becomes, .ref m_goneOf, .ref m_heard, .ref m_pairs, .ref m_heaps, .int q_rounds, .int q_heapMany, .ref m_led, .ref m_newAt, .ref m_knowing, .ref m_firsts, .int (nI q_people), .ref m_secrets, .ref m_tried, .ref m_lanes, .ref m_lengths, .ref m_cells])), (m_manys, .inl (E.2.1 1, 18, .inl f_manys)), (m_reals, .inl (E.2.1 1, 18, .inl f_reals)), (m_factsOf, .inl (E.2.1 1, 432, .inl f_factsOf)), (m_possible, .inl (E.2.1 1, 1728, .inl f_possible)), (m_actMany, .inl (E.2.1 1, 25, .inl f_actMany)), (m_actOf, .inl (E.2.1 1, 800, .inl f_actOf)), (m_whom, .inl (E.2.1 1, 800, .inl f_whom)), (m_pile, .inl (E.2.1 1, 34, .inl g1))]) ?_ rfl rfl rfl
                  refine ww_isub (v := (nI (tt - 2))) C dX12_trueAt_232 (pk_sub (a := tt) (b := 2) (by omega)) ?_
                  refine ww_istore (lv' := [(4, .int (nI (tt - 2))), (7, .int x_51), (6, .int x_10), (5, .int (nI j_9)), (3, .int r_2), (0, .ref hm), (1, .int (nI sl)), (2, .int (nI pg))]) C dX12_trueAt_233 rfl rfl ?_
                  refine ww_aload_n C dX12_trueAt_235 5 rfl rfl ?_
                  refine ww_get C fg_X12_49 0 rfl rfl dX12_trueAt_236 ?_
                  refine ww_iload C dX12_trueAt_239 0 rfl ?_
                  refine ww_iload C dX12_trueAt_241 1 rfl ?_
                  obtain ⟨f_62, ef_62⟩ : ∃ z : Nat → Int32, upd g1 (tt - 2) x_51 = z := ⟨_, rfl⟩
                  refine ww_iast (ws' := [(hm, .inr (12, [.ref m_manys, .ref m_reals, .ref m_factsOf, .ref m_possible, .int (nI q_undos), .int (nI q_models), .ref m_tape, .int (nI q_taped), .int q_fault, .int q_wrong, .int q_wrongAt, .int q_spot, .int q_place, .int q_token, .int q_value, .ref m_ends, .ref m_letters, .ref m_actOf, .ref m_whom, .ref m_actMany, .ref m_tokens, .ref m_afters, .ref m_afterOf, .int q_counted, .ref m_pile, .ref m_caseMany, .ref m_happen, .ref m_hasIf, .ref m_becomes, .ref m_goneOf, .ref m_heard, .ref m_pairs, .ref m_heaps, .int q_rounds, .int q_heapMany, .ref m_led, .ref m_newAt, .ref m_knowing, .ref m_firsts, .int (nI q_people), .ref m_secrets, .ref m_tried, .ref m_lanes, .ref m_lengths, .ref m_cells])), (m_manys, .inl (E.2.1 1, 18, .inl f_manys)), (m_reals, .inl (E.2.1 1, 18, .inl f_reals)), (m_factsOf, .inl (E.2.1 1, 432, .inl f_factsOf)), (m_possible, .inl (E.2.1 1, 1728, .inl f_possible)), (m_actMany, .inl (E.2.1 1, 25, .inl f_actMany)), (m_actOf, .inl (E.2.1 1, 800, .inl f_actOf)), (m_whom, .inl (E.2.1 1, 800, .inl f_whom)), (m_pile, .inl (E.2.1 1, 34, .inl f_62))]) C 8 rfl (vp_in_nI (by omega) (by omega)) (ldn2 (by omega) ef_62) rfl dX12_trueAt_243 ?_
                  refine ww_iinc (j := 0) (v := (nI ((tt - 2) + 1))) (lv' := [(4, .int (nI ((tt - 2) + 1))), (7, .int x_51), (6, .int x_10), (5, .int (nI j_9)), (3, .int r_2), (0, .ref hm), (1, .int (nI sl)), (2, .int (nI pg))]) C dX12_trueAt_244 rfl (nI_add (tt - 2) 1) rfl rfl ?_
                  obtain ⟨x_63, ex_63⟩ : ∃ z : Int32, (nI j_9) + Int32.ofInt (-1) = z := ⟨_, rfl⟩
                  have zx_63 : x_63.toInt = ((j_9 : Nat) : Int) - 1 := by rw [← ex_63]; exact i_dec (c := 1) (nI_toInt (n := j_9) (by omega)) rfl (by omega) (by omega)
                  refine ww_iinc (j := 3) (v := x_63) (lv' := [(5, .int x_63), (4, .int (nI ((tt - 2) + 1))), (7, .int x_51), (6, .int x_10), (3, .int r_2), (0, .ref hm), (1, .int (nI sl)), (2, .int (nI pg))]) C dX12_trueAt_247 rfl ex_63 rfl rfl ?_
                  refine ww_goto (tgt := 23) C dX12_trueAt_250 (by decide) ?_
                  exact ww_lv [0, 1, 4, 5, 6, 7] rfl (ww_sub [0, 1, 2, 3, 4, 5, 6, 7, 8] (ndk (by decide +kernel)) (gqk (by eq_refl)) (ih_23 x_63 j_9 ((tt - 2) + 1) f_62 (by omega) (by omega) (by omega) (st_s hst (by omega) (by rw [hopn _ (by omega)]; omega) (by first | exact te_7 hxj_9 (by omega) (st_at (k := (tt - 2) + 1) hst (by omega) (show (tt - 2) + 1 = tt - 1 by omega) ex_49) (st_at (k := (tt - 2)) hst (by omega) rfl ex_50) ex_51 | exact False.elim (by omega)) ef_62) (by omega)))
                · refine an2 hw ?_
                  clear hw
                  intro he_60 he_61 hw
                  have h_59 := hw
                  clear hw
                  have he_60 := he_60.symm
                  subst he_60
                  subst he_61
                  refine ww_eq (ws' := [(hm, .inr (12, [.ref m_manys, .ref m_reals, .ref m_factsOf, .ref m_possible, .int (nI q_undos), .int (nI q_models), .ref m_tape, .int (nI q_taped), .int q_fault, .int q_wrong, .int q_wrongAt, .int q_spot, .int q_place, .int q_token, .int q_value, .ref m_ends, .ref m_letters, .ref m_actOf, .ref m_whom, .ref m_actMany, .ref m_tokens, .ref m_afters, .ref m_afterOf, .int q_counted, .ref m_pile, .ref m_caseMany, .ref m_happen, .ref m_hasIf, .ref m_becomes, .ref m_goneOf, .ref m_heard, .ref m_pairs, .ref m_heaps, .int q_rounds, .int q_heapMany, .ref m_led, .ref m_newAt, .ref m_knowing, .ref m_firsts, .int (nI q_people), .ref m_secrets, .ref m_tried, .ref m_lanes, .ref m_lengths, .ref m_cells])), (m_manys, .inl (E.2.1 1, 18, .inl f_manys)), (m_reals, .inl (E.2.1 1, 18, .inl f_reals)), (m_factsOf, .inl (E.2.1 1, 432, .inl f_factsOf)), (m_possible, .inl (E.2.1 1, 1728, .inl f_possible)), (m_actMany, .inl (E.2.1 1, 25, .inl f_actMany)), (m_actOf, .inl (E.2.1 1, 800, .inl f_actOf)), (m_whom, .inl (E.2.1 1, 800, .inl f_whom)), (m_pile, .inl (E.2.1 1, 34, .inl g1))]) ?_ rfl rfl rfl
                  refine ww_isub (v := (nI (tt - 1))) C dX12_trueAt_232 (pk_sub (a := tt) (b := 1) (by omega)) ?_
                  refine ww_istore (lv' := [(4, .int (nI (tt - 1))), (7, .int x_51), (6, .int x_10), (5, .int (nI j_9)), (3, .int r_2), (0, .ref hm), (1, .int (nI sl)), (2, .int (nI pg))]) C dX12_trueAt_233 rfl rfl ?_
                  refine ww_aload_n C dX12_trueAt_235 5 rfl rfl ?_
                  refine ww_get C fg_X12_49 0 rfl rfl dX12_trueAt_236 ?_
                  refine ww_iload C dX12_trueAt_239 0 rfl ?_
                  refine ww_iload C dX12_trueAt_241 1 rfl ?_
                  obtain ⟨f_64, ef_64⟩ : ∃ z : Nat → Int32, upd g1 (tt - 1) x_51 = z := ⟨_, rfl⟩
                  refine ww_iast (ws' := [(hm, .inr (12, [.ref m_manys, .ref m_reals, .ref m_factsOf, .ref m_possible, .int (nI q_undos), .int (nI q_models), .ref m_tape, .int (nI q_taped), .int q_fault, .int q_wrong, .int q_wrongAt, .int q_spot, .int q_place, .int q_token, .int q_value, .ref m_ends, .ref m_letters, .ref m_actOf, .ref m_whom, .ref m_actMany, .ref m_tokens, .ref m_afters, .ref m_afterOf, .int q_counted, .ref m_pile, .ref m_caseMany, .ref m_happen, .ref m_hasIf, .ref m_becomes, .ref m_goneOf, .ref m_heard, .ref m_pairs, .ref m_heaps, .int q_rounds, .int q_heapMany, .ref m_led, .ref m_newAt, .ref m_knowing, .ref m_firsts, .int (nI q_people), .ref m_secrets, .ref m_tried, .ref m_lanes, .ref m_lengths, .ref m_cells])), (m_manys, .inl (E.2.1 1, 18, .inl f_manys)), (m_reals, .inl (E.2.1 1, 18, .inl f_reals)), (m_factsOf, .inl (E.2.1 1, 432, .inl f_factsOf)), (m_possible, .inl (E.2.1 1, 1728, .inl f_possible)), (m_actMany, .inl (E.2.1 1, 25, .inl f_actMany)), (m_actOf, .inl (E.2.1 1, 800, .inl f_actOf)), (m_whom, .inl (E.2.1 1, 800, .inl f_whom)), (m_pile, .inl (E.2.1 1, 34, .inl f_64))]) C 8 rfl (vp_in_nI (by omega) (by omega)) (ldn2 (by omega) ef_64) rfl dX12_trueAt_243 ?_
                  refine ww_iinc (j := 0) (v := (nI ((tt - 1) + 1))) (lv' := [(4, .int (nI ((tt - 1) + 1))), (7, .int x_51), (6, .int x_10), (5, .int (nI j_9)), (3, .int r_2), (0, .ref hm), (1, .int (nI sl)), (2, .int (nI pg))]) C dX12_trueAt_244 rfl (nI_add (tt - 1) 1) rfl rfl ?_
                  obtain ⟨x_65, ex_65⟩ : ∃ z : Int32, (nI j_9) + Int32.ofInt (-1) = z := ⟨_, rfl⟩
                  have zx_65 : x_65.toInt = ((j_9 : Nat) : Int) - 1 := by rw [← ex_65]; exact i_dec (c := 1) (nI_toInt (n := j_9) (by omega)) rfl (by omega) (by omega)
                  refine ww_iinc (j := 3) (v := x_65) (lv' := [(5, .int x_65), (4, .int (nI ((tt - 1) + 1))), (7, .int x_51), (6, .int x_10), (3, .int r_2), (0, .ref hm), (1, .int (nI sl)), (2, .int (nI pg))]) C dX12_trueAt_247 rfl ex_65 rfl rfl ?_
                  refine ww_goto (tgt := 23) C dX12_trueAt_250 (by decide) ?_
                  exact ww_lv [0, 1, 4, 5, 6, 7] rfl (ww_sub [0, 1, 2, 3, 4, 5, 6, 7, 8] (ndk (by decide +kernel)) (gqk (by eq_refl)) (ih_23 x_65 j_9 ((tt - 1) + 1) f_64 (by omega) (by omega) (by omega) (st_s hst (by omega) (by rw [hopn _ (by omega)]; omega) (by first | exact False.elim (by omega)) ef_64) (by omega)))
            · have zc_13 : x_10.toInt = 6 := i_eq rfl rfl c_13
              refine ww_aload_n C dX12_trueAt_133 5 rfl rfl ?_
              refine ww_get C fg_X12_49 0 rfl rfl dX12_trueAt_134 ?_
              refine ww_iload C dX12_trueAt_137 3 rfl ?_
              refine ww_iconst (v := 1) C dX12_trueAt_139 rfl ?_
              refine ww_isub (v := (nI (tt - 1))) C dX12_trueAt_140 (pk_sub (a := tt) (b := 1) (by omega)) ?_
              obtain ⟨x_66, ex_66⟩ : ∃ z : Int32, g1 (tt - 1) = z := ⟨_, rfl⟩
              refine ww_iald (v := x_66) C 8 rfl (vp_in_nI (by omega) (by omega)) (ldn (by omega) ex_66) dX12_trueAt_141 ?_
              refine ww_aload_n C dX12_trueAt_142 5 rfl rfl ?_
              refine ww_get C fg_X12_49 0 rfl rfl dX12_trueAt_143 ?_
              refine ww_iload C dX12_trueAt_146 3 rfl ?_
              refine ww_iconst (v := 2) C dX12_trueAt_148 rfl ?_
              refine ww_isub (v := (nI (tt - 2))) C dX12_trueAt_149 (pk_sub (a := tt) (b := 2) (by omega)) ?_
              obtain ⟨x_67, ex_67⟩ : ∃ z : Int32, g1 (tt - 2) = z := ⟨_, rfl⟩
              refine ww_iald (v := x_67) C 8 rfl (vp_in_nI (by omega) (by omega)) (ldn (by omega) ex_67) dX12_trueAt_150 ?_
              obtain ⟨x_68, ex_68⟩ : ∃ z : Int32, x_66 &&& x_67 = z := ⟨_, rfl⟩
              refine ww_iand (v := x_68) C dX12_trueAt_151 ex_68 ?_
              refine ww_istore (lv' := [(7, .int x_68), (6, .int x_10), (5, .int (nI j_9)), (4, .int (nI tt)), (3, .int r_2), (0, .ref hm), (1, .int (nI sl)), (2, .int (nI pg))]) C dX12_trueAt_152 rfl rfl ?_
              refine ww_goto (tgt := 225) C dX12_trueAt_154 (by decide) ?_
              refine ww_iload C dX12_trueAt_225 3 rfl ?_
              refine ww_iload C dX12_trueAt_227 1 rfl ?_
              refine ww_ci (wr := [(hm, .inr (12, [.ref m_manys, .ref m_reals, .ref m_factsOf, .ref m_possible, .int (nI q_undos), .int (nI q_models), .ref m_tape, .int (nI q_taped), .int q_fault, .int q_wrong, .int q_wrongAt, .int q_spot, .int q_place, .int q_token, .int q_value, .ref m_ends, .ref m_letters, .ref m_actOf, .ref m_whom, .ref m_actMany, .ref m_tokens, .ref m_afters, .ref m_afterOf, .int q_counted, .ref m_pile, .ref m_caseMany, .ref m_happen, .ref m_hasIf, .ref m_becomes, .ref m_goneOf, .ref m_heard, .ref m_pairs, .ref m_heaps, .int q_rounds, .int q_heapMany, .ref m_led, .ref m_newAt, .ref m_knowing, .ref m_firsts, .int (nI q_people), .ref m_secrets, .ref m_tried, .ref m_lanes, .ref m_lengths, .ref m_cells])), (m_manys, .inl (E.2.1 1, 18, .inl f_manys)), (m_reals, .inl (E.2.1 1, 18, .inl f_reals)), (m_factsOf, .inl (E.2.1 1, 432, .inl f_factsOf)), (m_possible, .inl (E.2.1 1, 1728, .inl f_possible)), (m_actMany, .inl (E.2.1 1, 25, .inl f_actMany)), (m_actOf, .inl (E.2.1 1, 800, .inl f_actOf)), (m_whom, .inl (E.2.1 1, 800, .inl f_whom)), (m_pile, .inl (E.2.1 1, 34, .inl g1))]) (k' := 0) (n' := 0) C (run_S (As := [.int x_10]) (rest := [.int (nI tt)]) C (r_wantsOf X.2.1 E ro x_10 x_10.toInt rfl) ms_X12_wantsOf wl_X12_215 rfl rfl rfl rfl dX12_trueAt_229) (roK hro) [] [0, 1, 2, 3, 4, 5, 6, 7, 8] rfl (gqk (by eq_refl)) (plk (by decide +kernel)) rfl (fun r_69 uz hw => ?_)
              rcases hw with hw | hw | hw
              · refine an2 hw ?_
                clear hw
                intro he_71 he_72 hw
                have h_70 := hw
                clear hw
                have he_71 := he_71.symm
                subst he_71
                subst he_72
                omega
              · refine an2 hw ?_
                clear hw
                intro he_74 he_75 hw
                have h_73 := hw
                clear hw
                have he_74 := he_74.symm
                subst he_74
                subst he_75
                refine ww_eq (ws' := [(hm, .inr (12, [.ref m_manys, .ref m_reals, .ref m_factsOf, .ref m_possible, .int (nI q_undos), .int (nI q_models), .ref m_tape, .int (nI q_taped), .int q_fault, .int q_wrong, .int q_wrongAt, .int q_spot, .int q_place, .int q_token, .int q_value, .ref m_ends, .ref m_letters, .ref m_actOf, .ref m_whom, .ref m_actMany, .ref m_tokens, .ref m_afters, .ref m_afterOf, .int q_counted, .ref m_pile, .ref m_caseMany, .ref m_happen, .ref m_hasIf, .ref m_becomes, .ref m_goneOf, .ref m_heard, .ref m_pairs, .ref m_heaps, .int q_rounds, .int q_heapMany, .ref m_led, .ref m_newAt, .ref m_knowing, .ref m_firsts, .int (nI q_people), .ref m_secrets, .ref m_tried, .ref m_lanes, .ref m_lengths, .ref m_cells])), (m_manys, .inl (E.2.1 1, 18, .inl f_manys)), (m_reals, .inl (E.2.1 1, 18, .inl f_reals)), (m_factsOf, .inl (E.2.1 1, 432, .inl f_factsOf)), (m_possible, .inl (E.2.1 1, 1728, .inl f_possible)), (m_actMany, .inl (E.2.1 1, 25, .inl f_actMany)), (m_actOf, .inl (E.2.1 1, 800, .inl f_actOf)), (m_whom, .inl (E.2.1 1, 800, .inl f_whom)), (m_pile, .inl (E.2.1 1, 34, .inl g1))]) ?_ rfl rfl rfl
                refine ww_isub (v := (nI (tt - 2))) C dX12_trueAt_232 (pk_sub (a := tt) (b := 2) (by omega)) ?_
                refine ww_istore (lv' := [(4, .int (nI (tt - 2))), (7, .int x_68), (6, .int x_10), (5, .int (nI j_9)), (3, .int r_2), (0, .ref hm), (1, .int (nI sl)), (2, .int (nI pg))]) C dX12_trueAt_233 rfl rfl ?_
                refine ww_aload_n C dX12_trueAt_235 5 rfl rfl ?_
                refine ww_get C fg_X12_49 0 rfl rfl dX12_trueAt_236 ?_
                refine ww_iload C dX12_trueAt_239 0 rfl ?_
                refine ww_iload C dX12_trueAt_241 1 rfl ?_
                obtain ⟨f_79, ef_79⟩ : ∃ z : Nat → Int32, upd g1 (tt - 2) x_68 = z := ⟨_, rfl⟩
                refine ww_iast (ws' := [(hm, .inr (12, [.ref m_manys, .ref m_reals, .ref m_factsOf, .ref m_possible, .int (nI q_undos), .int (nI q_models), .ref m_tape, .int (nI q_taped), .int q_fault, .int q_wrong, .int q_wrongAt, .int q_spot, .int q_place, .int q_token, .int q_value, .ref m_ends, .ref m_letters, .ref m_actOf, .ref m_whom, .ref m_actMany, .ref m_tokens, .ref m_afters, .ref m_afterOf, .int q_counted, .ref m_pile, .ref m_caseMany, .ref m_happen, .ref m_hasIf, .ref m_becomes, .ref m_goneOf, .ref m_heard, .ref m_pairs, .ref m_heaps, .int q_rounds, .int q_heapMany, .ref m_led, .ref m_newAt, .ref m_knowing, .ref m_firsts, .int (nI q_people), .ref m_secrets, .ref m_tried, .ref m_lanes, .ref m_lengths, .ref m_cells])), (m_manys, .inl (E.2.1 1, 18, .inl f_manys)), (m_reals, .inl (E.2.1 1, 18, .inl f_reals)), (m_factsOf, .inl (E.2.1 1, 432, .inl f_factsOf)), (m_possible, .inl (E.2.1 1, 1728, .inl f_possible)), (m_actMany, .inl (E.2.1 1, 25, .inl f_actMany)), (m_actOf, .inl (E.2.1 1, 800, .inl f_actOf)), (m_whom, .inl (E.2.1 1, 800, .inl f_whom)), (m_pile, .inl (E.2.1 1, 34, .inl f_79))]) C 8 rfl (vp_in_nI (by omega) (by omega)) (ldn2 (by omega) ef_79) rfl dX12_trueAt_243 ?_
                refine ww_iinc (j := 0) (v := (nI ((tt - 2) + 1))) (lv' := [(4, .int (nI ((tt - 2) + 1))), (7, .int x_68), (6, .int x_10), (5, .int (nI j_9)), (3, .int r_2), (0, .ref hm), (1, .int (nI sl)), (2, .int (nI pg))]) C dX12_trueAt_244 rfl (nI_add (tt - 2) 1) rfl rfl ?_
                obtain ⟨x_80, ex_80⟩ : ∃ z : Int32, (nI j_9) + Int32.ofInt (-1) = z := ⟨_, rfl⟩
                have zx_80 : x_80.toInt = ((j_9 : Nat) : Int) - 1 := by rw [← ex_80]; exact i_dec (c := 1) (nI_toInt (n := j_9) (by omega)) rfl (by omega) (by omega)
                refine ww_iinc (j := 3) (v := x_80) (lv' := [(5, .int x_80), (4, .int (nI ((tt - 2) + 1))), (7, .int x_68), (6, .int x_10), (3, .int r_2), (0, .ref hm), (1, .int (nI sl)), (2, .int (nI pg))]) C dX12_trueAt_247 rfl ex_80 rfl rfl ?_
                refine ww_goto (tgt := 23) C dX12_trueAt_250 (by decide) ?_
                exact ww_lv [0, 1, 4, 5, 6, 7] rfl (ww_sub [0, 1, 2, 3, 4, 5, 6, 7, 8] (ndk (by decide +kernel)) (gqk (by eq_refl)) (ih_23 x_80 j_9 ((tt - 2) + 1) f_79 (by omega) (by omega) (by omega) (st_s hst (by omega) (by rw [hopn _ (by omega)]; omega) (by first | exact te_6 hxj_9 (by omega) (st_at (k := (tt - 2) + 1) hst (by omega) (show (tt - 2) + 1 = tt - 1 by omega) ex_66) (st_at (k := (tt - 2)) hst (by omega) rfl ex_67) ex_68 | exact False.elim (by omega)) ef_79) (by omega)))
              · refine an2 hw ?_
                clear hw
                intro he_77 he_78 hw
                have h_76 := hw
                clear hw
                have he_77 := he_77.symm
                subst he_77
                subst he_78
                refine ww_eq (ws' := [(hm, .inr (12, [.ref m_manys, .ref m_reals, .ref m_factsOf, .ref m_possible, .int (nI q_undos), .int (nI q_models), .ref m_tape, .int (nI q_taped), .int q_fault, .int q_wrong, .int q_wrongAt, .int q_spot, .int q_place, .int q_token, .int q_value, .ref m_ends, .ref m_letters, .ref m_actOf, .ref m_whom, .ref m_actMany, .ref m_tokens, .ref m_afters, .ref m_afterOf, .int q_counted, .ref m_pile, .ref m_caseMany, .ref m_happen, .ref m_hasIf, .ref m_becomes, .ref m_goneOf, .ref m_heard, .ref m_pairs, .ref m_heaps, .int q_rounds, .int q_heapMany, .ref m_led, .ref m_newAt, .ref m_knowing, .ref m_firsts, .int (nI q_people), .ref m_secrets, .ref m_tried, .ref m_lanes, .ref m_lengths, .ref m_cells])), (m_manys, .inl (E.2.1 1, 18, .inl f_manys)), (m_reals, .inl (E.2.1 1, 18, .inl f_reals)), (m_factsOf, .inl (E.2.1 1, 432, .inl f_factsOf)), (m_possible, .inl (E.2.1 1, 1728, .inl f_possible)), (m_actMany, .inl (E.2.1 1, 25, .inl f_actMany)), (m_actOf, .inl (E.2.1 1, 800, .inl f_actOf)), (m_whom, .inl (E.2.1 1, 800, .inl f_whom)), (m_pile, .inl (E.2.1 1, 34, .inl g1))]) ?_ rfl rfl rfl
                refine ww_isub (v := (nI (tt - 1))) C dX12_trueAt_232 (pk_sub (a := tt) (b := 1) (by omega)) ?_
                refine ww_istore (lv' := [(4, .int (nI (tt - 1))), (7, .int x_68), (6, .int x_10), (5, .int (nI j_9)), (3, .int r_2), (0, .ref hm), (1, .int (nI sl)), (2, .int (nI pg))]) C dX12_trueAt_233 rfl rfl ?_
                refine ww_aload_n C dX12_trueAt_235 5 rfl rfl ?_
                refine ww_get C fg_X12_49 0 rfl rfl dX12_trueAt_236 ?_
                refine ww_iload C dX12_trueAt_239 0 rfl ?_
                refine ww_iload C dX12_trueAt_241 1 rfl ?_
                obtain ⟨f_81, ef_81⟩ : ∃ z : Nat → Int32, upd g1 (tt - 1) x_68 = z := ⟨_, rfl⟩
                refine ww_iast (ws' := [(hm, .inr (12, [.ref m_manys, .ref m_reals, .ref m_factsOf, .ref m_possible, .int (nI q_undos), .int (nI q_models), .ref m_tape, .int (nI q_taped), .int q_fault, .int q_wrong, .int q_wrongAt, .int q_spot, .int q_place, .int q_token, .int q_value, .ref m_ends, .ref m_letters, .ref m_actOf, .ref m_whom, .ref m_actMany, .ref m_tokens, .ref m_afters, .ref m_afterOf, .int q_counted, .ref m_pile, .ref m_caseMany, .ref m_happen, .ref m_hasIf, .ref m_becomes, .ref m_goneOf, .ref m_heard, .ref m_pairs, .ref m_heaps, .int q_rounds, .int q_heapMany, .ref m_led, .ref m_newAt, .ref m_knowing, .ref m_firsts, .int (nI q_people), .ref m_secrets, .ref m_tried, .ref m_lanes, .ref m_lengths, .ref m_cells])), (m_manys, .inl (E.2.1 1, 18, .inl f_manys)), (m_reals, .inl (E.2.1 1, 18, .inl f_reals)), (m_factsOf, .inl (E.2.1 1, 432, .inl f_factsOf)), (m_possible, .inl (E.2.1 1, 1728, .inl f_possible)), (m_actMany, .inl (E.2.1 1, 25, .inl f_actMany)), (m_actOf, .inl (E.2.1 1, 800, .inl f_actOf)), (m_whom, .inl (E.2.1 1, 800, .inl f_whom)), (m_pile, .inl (E.2.1 1, 34, .inl f_81))]) C 8 rfl (vp_in_nI (by omega) (by omega)) (ldn2 (by omega) ef_81) rfl dX12_trueAt_243 ?_
                refine ww_iinc (j := 0) (v := (nI ((tt - 1) + 1))) (lv' := [(4, .int (nI ((tt - 1) + 1))), (7, .int x_68), (6, .int x_10), (5, .int (nI j_9)), (3, .int r_2), (0, .ref hm), (1, .int (nI sl)), (2, .int (nI pg))]) C dX12_trueAt_244 rfl (nI_add (tt - 1) 1) rfl rfl ?_
                obtain ⟨x_82, ex_82⟩ : ∃ z : Int32, (nI j_9) + Int32.ofInt (-1) = z := ⟨_, rfl⟩
                have zx_82 : x_82.toInt = ((j_9 : Nat) : Int) - 1 := by rw [← ex_82]; exact i_dec (c := 1) (nI_toInt (n := j_9) (by omega)) rfl (by omega) (by omega)
                refine ww_iinc (j := 3) (v := x_82) (lv' := [(5, .int x_82), (4, .int (nI ((tt - 1) + 1))), (7, .int x_68), (6, .int x_10), (3, .int r_2), (0, .ref hm), (1, .int (nI sl)), (2, .int (nI pg))]) C dX12_trueAt_247 rfl ex_82 rfl rfl ?_
                refine ww_goto (tgt := 23) C dX12_trueAt_250 (by decide) ?_
                exact ww_lv [0, 1, 4, 5, 6, 7] rfl (ww_sub [0, 1, 2, 3, 4, 5, 6, 7, 8] (ndk (by decide +kernel)) (gqk (by eq_refl)) (ih_23 x_82 j_9 ((tt - 1) + 1) f_81 (by omega) (by omega) (by omega) (st_s hst (by omega) (by rw [hopn _ (by omega)]; omega) (by first | exact False.elim (by omega)) ef_81) (by omega)))
          · have zc_12 : x_10.toInt = 5 := i_eq rfl rfl c_12
            refine ww_iload_n C dX12_trueAt_108 4 rfl rfl ?_
            refine ww_aload_n C dX12_trueAt_109 5 rfl rfl ?_
            refine ww_get C fg_X12_49 0 rfl rfl dX12_trueAt_110 ?_
            refine ww_iload C dX12_trueAt_113 3 rfl ?_
            refine ww_iconst (v := 1) C dX12_trueAt_115 rfl ?_
            refine ww_isub (v := (nI (tt - 1))) C dX12_trueAt_116 (pk_sub (a := tt) (b := 1) (by omega)) ?_
            obtain ⟨x_83, ex_83⟩ : ∃ z : Int32, g1 (tt - 1) = z := ⟨_, rfl⟩
            refine ww_iald (v := x_83) C 8 rfl (vp_in_nI (by omega) (by omega)) (ldn (by omega) ex_83) dX12_trueAt_117 ?_
            refine ww_iconst (v := (-1)) C dX12_trueAt_118 rfl ?_
            obtain ⟨x_84, ex_84⟩ : ∃ z : Int32, x_83 ^^^ ((-1) : Int32) = z := ⟨_, rfl⟩
            refine ww_ixor (v := x_84) C dX12_trueAt_119 ex_84 ?_
            obtain ⟨x_85, ex_85⟩ : ∃ z : Int32, r_2 &&& x_84 = z := ⟨_, rfl⟩
            refine ww_iand (v := x_85) C dX12_trueAt_120 ex_85 ?_
            refine ww_istore (lv' := [(7, .int x_85), (6, .int x_10), (5, .int (nI j_9)), (4, .int (nI tt)), (3, .int r_2), (0, .ref hm), (1, .int (nI sl)), (2, .int (nI pg))]) C dX12_trueAt_121 rfl rfl ?_
            refine ww_goto (tgt := 225) C dX12_trueAt_123 (by decide) ?_
            refine ww_iload C dX12_trueAt_225 3 rfl ?_
            refine ww_iload C dX12_trueAt_227 1 rfl ?_
            refine ww_ci (wr := [(hm, .inr (12, [.ref m_manys, .ref m_reals, .ref m_factsOf, .ref m_possible, .int (nI q_undos), .int (nI q_models), .ref m_tape, .int (nI q_taped), .int q_fault, .int q_wrong, .int q_wrongAt, .int q_spot, .int q_place, .int q_token, .int q_value, .ref m_ends, .ref m_letters, .ref m_actOf, .ref m_whom, .ref m_actMany, .ref m_tokens, .ref m_afters, .ref m_afterOf, .int q_counted, .ref m_pile, .ref m_caseMany, .ref m_happen, .ref m_hasIf, .ref m_becomes, .ref m_goneOf, .ref m_heard, .ref m_pairs, .ref m_heaps, .int q_rounds, .int q_heapMany, .ref m_led, .ref m_newAt, .ref m_knowing, .ref m_firsts, .int (nI q_people), .ref m_secrets, .ref m_tried, .ref m_lanes, .ref m_lengths, .ref m_cells])), (m_manys, .inl (E.2.1 1, 18, .inl f_manys)), (m_reals, .inl (E.2.1 1, 18, .inl f_reals)), (m_factsOf, .inl (E.2.1 1, 432, .inl f_factsOf)), (m_possible, .inl (E.2.1 1, 1728, .inl f_possible)), (m_actMany, .inl (E.2.1 1, 25, .inl f_actMany)), (m_actOf, .inl (E.2.1 1, 800, .inl f_actOf)), (m_whom, .inl (E.2.1 1, 800, .inl f_whom)), (m_pile, .inl (E.2.1 1, 34, .inl g1))]) (k' := 0) (n' := 0) C (run_S (As := [.int x_10]) (rest := [.int (nI tt)]) C (r_wantsOf X.2.1 E ro x_10 x_10.toInt rfl) ms_X12_wantsOf wl_X12_215 rfl rfl rfl rfl dX12_trueAt_229) (roK hro) [] [0, 1, 2, 3, 4, 5, 6, 7, 8] rfl (gqk (by eq_refl)) (plk (by decide +kernel)) rfl (fun r_86 uz hw => ?_)
            rcases hw with hw | hw | hw
            · refine an2 hw ?_
              clear hw
              intro he_88 he_89 hw
              have h_87 := hw
              clear hw
              have he_88 := he_88.symm
              subst he_88
              subst he_89
              omega
            · refine an2 hw ?_
              clear hw
              intro he_91 he_92 hw
              have h_90 := hw
              clear hw
              have he_91 := he_91.symm
              subst he_91
              subst he_92
              omega
            · refine an2 hw ?_
              clear hw
              intro he_94 he_95 hw
              have h_93 := hw
              clear hw
              have he_94 := he_94.symm
              subst he_94
              subst he_95
              refine ww_eq (ws' := [(hm, .inr (12, [.ref m_manys, .ref m_reals, .ref m_factsOf, .ref m_possible, .int (nI q_undos), .int (nI q_models), .ref m_tape, .int (nI q_taped), .int q_fault, .int q_wrong, .int q_wrongAt, .int q_spot, .int q_place, .int q_token, .int q_value, .ref m_ends, .ref m_letters, .ref m_actOf, .ref m_whom, .ref m_actMany, .ref m_tokens, .ref m_afters, .ref m_afterOf, .int q_counted, .ref m_pile, .ref m_caseMany, .ref m_happen, .ref m_hasIf, .ref m_becomes, .ref m_goneOf, .ref m_heard, .ref m_pairs, .ref m_heaps, .int q_rounds, .int q_heapMany, .ref m_led, .ref m_newAt, .ref m_knowing, .ref m_firsts, .int (nI q_people), .ref m_secrets, .ref m_tried, .ref m_lanes, .ref m_lengths, .ref m_cells])), (m_manys, .inl (E.2.1 1, 18, .inl f_manys)), (m_reals, .inl (E.2.1 1, 18, .inl f_reals)), (m_factsOf, .inl (E.2.1 1, 432, .inl f_factsOf)), (m_possible, .inl (E.2.1 1, 1728, .inl f_possible)), (m_actMany, .inl (E.2.1 1, 25, .inl f_actMany)), (m_actOf, .inl (E.2.1 1, 800, .inl f_actOf)), (m_whom, .inl (E.2.1 1, 800, .inl f_whom)), (m_pile, .inl (E.2.1 1, 34, .inl g1))]) ?_ rfl rfl rfl
              refine ww_isub (v := (nI (tt - 1))) C dX12_trueAt_232 (pk_sub (a := tt) (b := 1) (by omega)) ?_
              refine ww_istore (lv' := [(4, .int (nI (tt - 1))), (7, .int x_85), (6, .int x_10), (5, .int (nI j_9)), (3, .int r_2), (0, .ref hm), (1, .int (nI sl)), (2, .int (nI pg))]) C dX12_trueAt_233 rfl rfl ?_
              refine ww_aload_n C dX12_trueAt_235 5 rfl rfl ?_
              refine ww_get C fg_X12_49 0 rfl rfl dX12_trueAt_236 ?_
              refine ww_iload C dX12_trueAt_239 0 rfl ?_
              refine ww_iload C dX12_trueAt_241 1 rfl ?_
              obtain ⟨f_96, ef_96⟩ : ∃ z : Nat → Int32, upd g1 (tt - 1) x_85 = z := ⟨_, rfl⟩
              refine ww_iast (ws' := [(hm, .inr (12, [.ref m_manys, .ref m_reals, .ref m_factsOf, .ref m_possible, .int (nI q_undos), .int (nI q_models), .ref m_tape, .int (nI q_taped), .int q_fault, .int q_wrong, .int q_wrongAt, .int q_spot, .int q_place, .int q_token, .int q_value, .ref m_ends, .ref m_letters, .ref m_actOf, .ref m_whom, .ref m_actMany, .ref m_tokens, .ref m_afters, .ref m_afterOf, .int q_counted, .ref m_pile, .ref m_caseMany, .ref m_happen, .ref m_hasIf, .ref m_becomes, .ref m_goneOf, .ref m_heard, .ref m_pairs, .ref m_heaps, .int q_rounds, .int q_heapMany, .ref m_led, .ref m_newAt, .ref m_knowing, .ref m_firsts, .int (nI q_people), .ref m_secrets, .ref m_tried, .ref m_lanes, .ref m_lengths, .ref m_cells])), (m_manys, .inl (E.2.1 1, 18, .inl f_manys)), (m_reals, .inl (E.2.1 1, 18, .inl f_reals)), (m_factsOf, .inl (E.2.1 1, 432, .inl f_factsOf)), (m_possible, .inl (E.2.1 1, 1728, .inl f_possible)), (m_actMany, .inl (E.2.1 1, 25, .inl f_actMany)), (m_actOf, .inl (E.2.1 1, 800, .inl f_actOf)), (m_whom, .inl (E.2.1 1, 800, .inl f_whom)), (m_pile, .inl (E.2.1 1, 34, .inl f_96))]) C 8 rfl (vp_in_nI (by omega) (by omega)) (ldn2 (by omega) ef_96) rfl dX12_trueAt_243 ?_
              refine ww_iinc (j := 0) (v := (nI ((tt - 1) + 1))) (lv' := [(4, .int (nI ((tt - 1) + 1))), (7, .int x_85), (6, .int x_10), (5, .int (nI j_9)), (3, .int r_2), (0, .ref hm), (1, .int (nI sl)), (2, .int (nI pg))]) C dX12_trueAt_244 rfl (nI_add (tt - 1) 1) rfl rfl ?_
              obtain ⟨x_97, ex_97⟩ : ∃ z : Int32, (nI j_9) + Int32.ofInt (-1) = z := ⟨_, rfl⟩
              have zx_97 : x_97.toInt = ((j_9 : Nat) : Int) - 1 := by rw [← ex_97]; exact i_dec (c := 1) (nI_toInt (n := j_9) (by omega)) rfl (by omega) (by omega)
              refine ww_iinc (j := 3) (v := x_97) (lv' := [(5, .int x_97), (4, .int (nI ((tt - 1) + 1))), (7, .int x_85), (6, .int x_10), (3, .int r_2), (0, .ref hm), (1, .int (nI sl)), (2, .int (nI pg))]) C dX12_trueAt_247 rfl ex_97 rfl rfl ?_
              refine ww_goto (tgt := 23) C dX12_trueAt_250 (by decide) ?_
              exact ww_lv [0, 1, 4, 5, 6, 7] rfl (ww_sub [0, 1, 2, 3, 4, 5, 6, 7, 8] (ndk (by decide +kernel)) (gqk (by eq_refl)) (ih_23 x_97 j_9 ((tt - 1) + 1) f_96 (by omega) (by omega) (by omega) (st_s hst (by omega) (by rw [hopn _ (by omega)]; omega) (by first | exact te_5 hxj_9 (by omega) h_3 (st_at (k := (tt - 1)) hst (by omega) rfl ex_83) ex_84 ex_85 | exact False.elim (by omega)) ef_96) (by omega)))
        · have zc_11 : x_10.toInt < 4 := i_nle rfl rfl c_11
          refine ww_iconst (v := 0) C dX12_trueAt_51 rfl ?_
          refine ww_istore (lv' := [(7, .int 0), (6, .int x_10), (5, .int (nI j_9)), (4, .int (nI tt)), (3, .int r_2), (0, .ref hm), (1, .int (nI sl)), (2, .int (nI pg))]) C dX12_trueAt_52 rfl rfl ?_
          refine ww_iconst (v := 0) C dX12_trueAt_54 rfl ?_
          refine ww_istore (lv' := [(8, .int 0), (7, .int 0), (6, .int x_10), (5, .int (nI j_9)), (4, .int (nI tt)), (3, .int r_2), (0, .ref hm), (1, .int (nI sl)), (2, .int (nI pg))]) C dX12_trueAt_55 rfl rfl ?_
          have loop_57 : ∀ (fu : Nat) (i1 : Nat) (ac : Int32), (i1 ≤ cN f_manys pg) → (AC ac no_ i1 (fun w => bt (f_factsOf (24 * pg + w)) x_10.toNatClampNeg)) → cN f_manys pg - i1 < fu → WW X 9 E 57 [(8, .int (nI i1)), (7, .int ac), (6, .int x_10), (5, .int (nI j_9)), (4, .int (nI tt)), (3, .int r_2), (0, .ref hm), (1, .int (nI sl)), (2, .int (nI pg))] [] [(hm, .inr (12, [.ref m_manys, .ref m_reals, .ref m_factsOf, .ref m_possible, .int (nI q_undos), .int (nI q_models), .ref m_tape, .int (nI q_taped), .int q_fault, .int q_wrong, .int q_wrongAt, .int q_spot, .int q_place, .int q_token, .int q_value, .ref m_ends, .ref m_letters, .ref m_actOf, .ref m_whom, .ref m_actMany, .ref m_tokens, .ref m_afters, .ref m_afterOf, .int q_counted, .ref m_pile, .ref m_caseMany, .ref m_happen, .ref m_hasIf, .ref m_becomes, .ref m_goneOf, .ref m_heard, .ref m_pairs, .ref m_heaps, .int q_rounds, .int q_heapMany, .ref m_led, .ref m_newAt, .ref m_knowing, .ref m_firsts, .int (nI q_people), .ref m_secrets, .ref m_tried, .ref m_lanes, .ref m_lengths, .ref m_cells])), (m_manys, .inl (E.2.1 1, 18, .inl f_manys)), (m_reals, .inl (E.2.1 1, 18, .inl f_reals)), (m_factsOf, .inl (E.2.1 1, 432, .inl f_factsOf)), (m_possible, .inl (E.2.1 1, 1728, .inl f_possible)), (m_actMany, .inl (E.2.1 1, 25, .inl f_actMany)), (m_actOf, .inl (E.2.1 1, 800, .inl f_actOf)), (m_whom, .inl (E.2.1 1, 800, .inl f_whom)), (m_pile, .inl (E.2.1 1, 34, .inl g1))] 0 0 := by
            intro fu
            induction fu with
            | zero => intro i1 ac hi1 hac hmeas; exact absurd hmeas (Nat.not_lt_zero _)
            | succ fu ih_57 =>
              intro i1 ac hi1 hac hmeas
              refine ww_iload C dX12_trueAt_57 0 rfl ?_
              refine ww_aload_n C dX12_trueAt_59 6 rfl rfl ?_
              refine ww_get C fg_X12_7 0 rfl rfl dX12_trueAt_60 ?_
              refine ww_iload_n C dX12_trueAt_63 8 rfl rfl ?_
              have hbx_98 := (hb_manys pg (by omega)).2
              refine ww_iald (v := (nI (cN f_manys pg))) C 1 rfl (vp_in_nI (by omega) (by omega)) (ldn (by omega) (hb_manys pg (by omega)).1) dX12_trueAt_64 ?_
              refine ww_icmp_ge (tgt := 99) C dX12_trueAt_65 (by decide) (fun c_99 => ?_) (fun c_99 => ?_)
              · have zc_99 : ((i1 : Nat) : Int) ≥ ((cN f_manys pg : Nat) : Int) := i_le (nI_toInt (n := cN f_manys pg) (by omega)) (nI_toInt (n := i1) (by omega)) c_99
                refine ww_goto (tgt := 225) C dX12_trueAt_99 (by decide) ?_
                refine ww_iload C dX12_trueAt_225 4 rfl ?_
                refine ww_iload C dX12_trueAt_227 2 rfl ?_
                refine ww_ci (wr := [(hm, .inr (12, [.ref m_manys, .ref m_reals, .ref m_factsOf, .ref m_possible, .int (nI q_undos), .int (nI q_models), .ref m_tape, .int (nI q_taped), .int q_fault, .int q_wrong, .int q_wrongAt, .int q_spot, .int q_place, .int q_token, .int q_value, .ref m_ends, .ref m_letters, .ref m_actOf, .ref m_whom, .ref m_actMany, .ref m_tokens, .ref m_afters, .ref m_afterOf, .int q_counted, .ref m_pile, .ref m_caseMany, .ref m_happen, .ref m_hasIf, .ref m_becomes, .ref m_goneOf, .ref m_heard, .ref m_pairs, .ref m_heaps, .int q_rounds, .int q_heapMany, .ref m_led, .ref m_newAt, .ref m_knowing, .ref m_firsts, .int (nI q_people), .ref m_secrets, .ref m_tried, .ref m_lanes, .ref m_lengths, .ref m_cells])), (m_manys, .inl (E.2.1 1, 18, .inl f_manys)), (m_reals, .inl (E.2.1 1, 18, .inl f_reals)), (m_factsOf, .inl (E.2.1 1, 432, .inl f_factsOf)), (m_possible, .inl (E.2.1 1, 1728, .inl f_possible)), (m_actMany, .inl (E.2.1 1, 25, .inl f_actMany)), (m_actOf, .inl (E.2.1 1, 800, .inl f_actOf)), (m_whom, .inl (E.2.1 1, 800, .inl f_whom)), (m_pile, .inl (E.2.1 1, 34, .inl g1))]) (k' := 0) (n' := 0) C (run_S (As := [.int x_10]) (rest := [.int (nI tt)]) C (r_wantsOf X.2.1 E ro x_10 x_10.toInt rfl) ms_X12_wantsOf wl_X12_215 rfl rfl rfl rfl dX12_trueAt_229) (roK hro) [] [0, 1, 2, 3, 4, 5, 6, 7, 8] rfl (gqk (by eq_refl)) (plk (by decide +kernel)) rfl (fun r_100 uz hw => ?_)
                rcases hw with hw | hw | hw
                · refine an2 hw ?_
                  clear hw
                  intro he_102 he_103 hw
                  have h_101 := hw
                  clear hw
                  have he_102 := he_102.symm
                  subst he_102
                  subst he_103
                  refine ww_eq (ws' := [(hm, .inr (12, [.ref m_manys, .ref m_reals, .ref m_factsOf, .ref m_possible, .int (nI q_undos), .int (nI q_models), .ref m_tape, .int (nI q_taped), .int q_fault, .int q_wrong, .int q_wrongAt, .int q_spot, .int q_place, .int q_token, .int q_value, .ref m_ends, .ref m_letters, .ref m_actOf, .ref m_whom, .ref m_actMany, .ref m_tokens, .ref m_afters, .ref m_afterOf, .int q_counted, .ref m_pile, .ref m_caseMany, .ref m_happen, .ref m_hasIf, .ref m_becomes, .ref m_goneOf, .ref m_heard, .ref m_pairs, .ref m_heaps, .int q_rounds, .int q_heapMany, .ref m_led, .ref m_newAt, .ref m_knowing, .ref m_firsts, .int (nI q_people), .ref m_secrets, .ref m_tried, .ref m_lanes, .ref m_lengths, .ref m_cells])), (m_manys, .inl (E.2.1 1, 18, .inl f_manys)), (m_reals, .inl (E.2.1 1, 18, .inl f_reals)), (m_factsOf, .inl (E.2.1 1, 432, .inl f_factsOf)), (m_possible, .inl (E.2.1 1, 1728, .inl f_possible)), (m_actMany, .inl (E.2.1 1, 25, .inl f_actMany)), (m_actOf, .inl (E.2.1 1, 800, .inl f_actOf)), (m_whom, .inl (E.2.1 1, 800, .inl f_whom)), (m_pile, .inl (E.2.1 1, 34, .inl g1))]) ?_ rfl rfl rfl
                  refine ww_isub (v := (nI (tt - 0))) C dX12_trueAt_232 (pk_sub (a := tt) (b := 0) (by omega)) ?_
                  refine ww_istore (lv' := [(4, .int (nI (tt - 0))), (8, .int (nI i1)), (7, .int ac), (6, .int x_10), (5, .int (nI j_9)), (3, .int r_2), (0, .ref hm), (1, .int (nI sl)), (2, .int (nI pg))]) C dX12_trueAt_233 rfl rfl ?_
                  refine ww_aload_n C dX12_trueAt_235 6 rfl rfl ?_
                  refine ww_get C fg_X12_49 0 rfl rfl dX12_trueAt_236 ?_
                  refine ww_iload C dX12_trueAt_239 0 rfl ?_
                  refine ww_iload C dX12_trueAt_241 2 rfl ?_
                  obtain ⟨f_110, ef_110⟩ : ∃ z : Nat → Int32, upd g1 (tt - 0) ac = z := ⟨_, rfl⟩
                  refine ww_iast (ws' := [(hm, .inr (12, [.ref m_manys, .ref m_reals, .ref m_factsOf, .ref m_possible, .int (nI q_undos), .int (nI q_models), .ref m_tape, .int (nI q_taped), .int q_fault, .int q_wrong, .int q_wrongAt, .int q_spot, .int q_place, .int q_token, .int q_value, .ref m_ends, .ref m_letters, .ref m_actOf, .ref m_whom, .ref m_actMany, .ref m_tokens, .ref m_afters, .ref m_afterOf, .int q_counted, .ref m_pile, .ref m_caseMany, .ref m_happen, .ref m_hasIf, .ref m_becomes, .ref m_goneOf, .ref m_heard, .ref m_pairs, .ref m_heaps, .int q_rounds, .int q_heapMany, .ref m_led, .ref m_newAt, .ref m_knowing, .ref m_firsts, .int (nI q_people), .ref m_secrets, .ref m_tried, .ref m_lanes, .ref m_lengths, .ref m_cells])), (m_manys, .inl (E.2.1 1, 18, .inl f_manys)), (m_reals, .inl (E.2.1 1, 18, .inl f_reals)), (m_factsOf, .inl (E.2.1 1, 432, .inl f_factsOf)), (m_possible, .inl (E.2.1 1, 1728, .inl f_possible)), (m_actMany, .inl (E.2.1 1, 25, .inl f_actMany)), (m_actOf, .inl (E.2.1 1, 800, .inl f_actOf)), (m_whom, .inl (E.2.1 1, 800, .inl f_whom)), (m_pile, .inl (E.2.1 1, 34, .inl f_110))]) C 8 rfl (vp_in_nI (by omega) (by omega)) (ldn2 (by omega) ef_110) rfl dX12_trueAt_243 ?_
                  refine ww_iinc (j := 0) (v := (nI ((tt - 0) + 1))) (lv' := [(4, .int (nI ((tt - 0) + 1))), (8, .int (nI i1)), (7, .int ac), (6, .int x_10), (5, .int (nI j_9)), (3, .int r_2), (0, .ref hm), (1, .int (nI sl)), (2, .int (nI pg))]) C dX12_trueAt_244 rfl (nI_add (tt - 0) 1) rfl rfl ?_
                  obtain ⟨x_111, ex_111⟩ : ∃ z : Int32, (nI j_9) + Int32.ofInt (-1) = z := ⟨_, rfl⟩
                  have zx_111 : x_111.toInt = ((j_9 : Nat) : Int) - 1 := by rw [← ex_111]; exact i_dec (c := 1) (nI_toInt (n := j_9) (by omega)) rfl (by omega) (by omega)
                  refine ww_iinc (j := 4) (v := x_111) (lv' := [(5, .int x_111), (4, .int (nI ((tt - 0) + 1))), (8, .int (nI i1)), (7, .int ac), (6, .int x_10), (3, .int r_2), (0, .ref hm), (1, .int (nI sl)), (2, .int (nI pg))]) C dX12_trueAt_247 rfl ex_111 rfl rfl ?_
                  refine ww_goto (tgt := 23) C dX12_trueAt_250 (by decide) ?_
                  exact ww_lv [0, 1, 5, 6, 7, 8] rfl (ww_sub [0, 1, 2, 3, 4, 5, 6, 7, 8] (ndk (by decide +kernel)) (gqk (by eq_refl)) (ih_23 x_111 j_9 ((tt - 0) + 1) f_110 (by omega) (by omega) (by omega) (st_s hst (by omega) (by rw [hopn _ (by omega)]; omega) (by first | exact te_f hxj_9 (by omega) (by omega) (AC.fin hac (show i1 = cN f_manys pg by omega)) | exact False.elim (by omega)) ef_110) (by omega)))
                · refine an2 hw ?_
                  clear hw
                  intro he_105 he_106 hw
                  have h_104 := hw
                  clear hw
                  have he_105 := he_105.symm
                  subst he_105
                  subst he_106
                  omega
                · refine an2 hw ?_
                  clear hw
                  intro he_108 he_109 hw
                  have h_107 := hw
                  clear hw
                  have he_108 := he_108.symm
                  subst he_108
                  subst he_109
                  omega
              · have zc_99 : ((i1 : Nat) : Int) < ((cN f_manys pg : Nat) : Int) := i_nle (nI_toInt (n := cN f_manys pg) (by omega)) (nI_toInt (n := i1) (by omega)) c_99
                refine ww_iload C dX12_trueAt_68 1 rfl ?_
                refine ww_aload_n C dX12_trueAt_70 6 rfl rfl ?_
                refine ww_get C fg_X12_16 0 rfl rfl dX12_trueAt_71 ?_
                refine ww_bipush (v := 24) C dX12_trueAt_74 rfl ?_
                refine ww_iload_n C dX12_trueAt_76 8 rfl rfl ?_
                refine ww_imul (v := (nI (24 * pg))) C dX12_trueAt_77 (pk_mul 24 pg) ?_
                refine ww_iload C dX12_trueAt_78 0 rfl ?_
                refine ww_iadd (v := (nI ((24 * pg) + i1))) C dX12_trueAt_80 (nI_add (24 * pg) i1) ?_
                obtain ⟨x_112, ex_112⟩ : ∃ z : Int32, f_factsOf ((24 * pg) + i1) = z := ⟨_, rfl⟩
                refine ww_iald (v := x_112) C 3 rfl (vp_in_nI (by omega) (by omega)) (ldn (by omega) ex_112) dX12_trueAt_81 ?_
                refine ww_iload C dX12_trueAt_82 2 rfl ?_
                obtain ⟨x_113, ex_113⟩ : ∃ z : Int32, x_112 >>> (x_10 &&& 31) = z := ⟨_, rfl⟩
                refine ww_ishr (v := x_113) C dX12_trueAt_84 ex_113 ?_
                refine ww_iconst (v := 1) C dX12_trueAt_85 rfl ?_
                obtain ⟨j_114, hj_114, ej_114⟩ := pk_andE x_113 (m := 1) 1 rfl
                refine ww_iand (v := (nI j_114)) C dX12_trueAt_86 ej_114 ?_
                refine ww_iload C dX12_trueAt_87 0 rfl ?_
                obtain ⟨x_115, ex_115⟩ : ∃ z : Int32, (nI j_114) <<< ((nI i1) &&& 31) = z := ⟨_, rfl⟩
                refine ww_ishl (v := x_115) C dX12_trueAt_89 ex_115 ?_
                obtain ⟨x_116, ex_116⟩ : ∃ z : Int32, ac ||| x_115 = z := ⟨_, rfl⟩
                refine ww_ior (v := x_116) C dX12_trueAt_90 ex_116 ?_
                refine ww_istore (lv' := [(7, .int x_116), (8, .int (nI i1)), (6, .int x_10), (5, .int (nI j_9)), (4, .int (nI tt)), (3, .int r_2), (0, .ref hm), (1, .int (nI sl)), (2, .int (nI pg))]) C dX12_trueAt_91 rfl rfl ?_
                refine ww_iinc (j := 1) (v := (nI (i1 + 1))) (lv' := [(8, .int (nI (i1 + 1))), (7, .int x_116), (6, .int x_10), (5, .int (nI j_9)), (4, .int (nI tt)), (3, .int r_2), (0, .ref hm), (1, .int (nI sl)), (2, .int (nI pg))]) C dX12_trueAt_93 rfl (nI_add i1 1) rfl rfl ?_
                refine ww_goto (tgt := 57) C dX12_trueAt_96 (by decide) ?_
                exact ww_lv [0, 1, 2, 3, 4, 5, 6, 7, 8] rfl (ww_sub [0, 1, 2, 3, 4, 5, 6, 7, 8] (ndk (by decide +kernel)) (gqk (by eq_refl)) (ih_57 (i1 + 1) x_116 (by omega) (AC.b hac (by omega) (i_cl (x := x_10) (N := 3) (by omega) (by omega) (by omega)).1 (by have h9 := (i_cl (x := x_10) (N := 3) (by omega) (by omega) (by omega)).2; omega) (by assumption) (by assumption) (by omega) (congrArg (fun z => bt z _) (by assumption)) (by assumption) (by assumption)) (by omega)))
          exact ww_lv [0, 1, 2, 3, 4, 5, 6, 7, 8] rfl (ww_sub [0, 1, 2, 3, 4, 5, 6, 7, 8] (ndk (by decide +kernel)) (gqk (by eq_refl)) (loop_57 _ 0 0 (by omega) AC.nil (Nat.lt_succ_self _)))
  exact ww_lv [0, 1, 2, 3, 4, 5] rfl (ww_sub [0, 1, 2, 3, 4, 5, 6, 7, 8] (ndk (by decide +kernel)) (gqk (by eq_refl)) (loop_23 _ x_6 (cN f_actMany sl) 0 f_pile (by omega) (by omega) (by have := hwr.2.2; omega) (st_0 (by rw [hopn _ (Nat.le_refl _)]; have h9 := hwr.2.2; have h8 := hWs.1; omega)) (Nat.lt_succ_self _)))
end
