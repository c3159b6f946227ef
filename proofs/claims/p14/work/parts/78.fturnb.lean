section
theorem dX12_turns_0 : decode cX12_turns 0 = .ok (.aload_n 0, 1) := dl_42 (by decide +kernel)
theorem dX12_turns_1 : decode cX12_turns 1 = .ok (.iload_n 1, 1) := dl_27 (by decide +kernel)
theorem dX12_turns_2 : decode cX12_turns 2 = .ok (.iload_n 2, 1) := dl_28 (by decide +kernel)
theorem dX12_turns_3 : decode cX12_turns 3 = .ok (.invokevirtual 312, 3) := dl_182 (by decide +kernel)
theorem dX12_turns_6 : decode cX12_turns 6 = .ok (.ifCond .eq 29, 3) := dl_153 (by decide +kernel)
theorem dX12_turns_9 : decode cX12_turns 9 = .ok (.iload_n 3, 1) := dl_29 (by decide +kernel)
theorem dX12_turns_10 : decode cX12_turns 10 = .ok (.i2l, 1) := dl_133 (by decide +kernel)
theorem dX12_turns_11 : decode cX12_turns 11 = .ok (.lconst 0, 1) := dl_9 (by decide +kernel)
theorem dX12_turns_12 : decode cX12_turns 12 = .ok (.ldc2_w 254, 3) := dl_20 (by decide +kernel)
theorem dX12_turns_15 : decode cX12_turns 15 = .ok (.invokestatic 115, 3) := dl_184 (by decide +kernel)
theorem dX12_turns_18 : decode cX12_turns 18 = .ok (.ifCond .ne 19, 3) := dl_154 (by decide +kernel)
theorem dX12_turns_37 : decode cX12_turns 37 = .ok (.aload_n 0, 1) := dl_42 (by decide +kernel)
theorem dX12_turns_38 : decode cX12_turns 38 = .ok (.getfield 7, 3) := dl_180 (by decide +kernel)
theorem dX12_turns_41 : decode cX12_turns 41 = .ok (.iconst 0, 1) := dl_3 (by decide +kernel)
theorem dX12_turns_42 : decode cX12_turns 42 = .ok (.iaload, 1) := dl_46 (by decide +kernel)
theorem dX12_turns_43 : decode cX12_turns 43 = .ok (.ifCond .ne 6, 3) := dl_154 (by decide +kernel)
theorem dX12_turns_49 : decode cX12_turns 49 = .ok (.aload_n 0, 1) := dl_42 (by decide +kernel)
theorem dX12_turns_50 : decode cX12_turns 50 = .ok (.iconst 0, 1) := dl_3 (by decide +kernel)
theorem dX12_turns_51 : decode cX12_turns 51 = .ok (.iconst 1, 1) := dl_4 (by decide +kernel)
theorem dX12_turns_52 : decode cX12_turns 52 = .ok (.invokevirtual 109, 3) := dl_182 (by decide +kernel)
theorem dX12_turns_55 : decode cX12_turns 55 = .ok (.iconst 0, 1) := dl_3 (by decide +kernel)
theorem dX12_turns_56 : decode cX12_turns 56 = .ok (.istore 4, 2) := dl_54 (by decide +kernel)
theorem dX12_turns_58 : decode cX12_turns 58 = .ok (.iload 4, 2) := dl_21 (by decide +kernel)
theorem dX12_turns_60 : decode cX12_turns 60 = .ok (.iconst 4, 1) := dl_7 (by decide +kernel)
theorem dX12_turns_61 : decode cX12_turns 61 = .ok (.if_icmp .ge 18, 3) := dl_162 (by decide +kernel)
theorem dX12_turns_79 : decode cX12_turns 79 = .ok (.iconst 0, 1) := dl_3 (by decide +kernel)
theorem dX12_turns_80 : decode cX12_turns 80 = .ok (.istore 4, 2) := dl_54 (by decide +kernel)
theorem dX12_turns_82 : decode cX12_turns 82 = .ok (.iconst 0, 1) := dl_3 (by decide +kernel)
theorem dX12_turns_83 : decode cX12_turns 83 = .ok (.istore 5, 2) := dl_54 (by decide +kernel)
theorem dX12_turns_85 : decode cX12_turns 85 = .ok (.iconst 1, 1) := dl_4 (by decide +kernel)
theorem dX12_turns_86 : decode cX12_turns 86 = .ok (.istore 6, 2) := dl_54 (by decide +kernel)
theorem dX12_turns_88 : decode cX12_turns 88 = .ok (.iload 6, 2) := dl_21 (by decide +kernel)
theorem dX12_turns_90 : decode cX12_turns 90 = .ok (.ifCond .eq 111, 3) := dl_153 (by decide +kernel)
theorem dX12_turns_201 : decode cX12_turns 201 = .ok (.iload_n 3, 1) := dl_29 (by decide +kernel)
theorem dX12_turns_202 : decode cX12_turns 202 = .ok (.ifCond .ne 8, 3) := dl_154 (by decide +kernel)
theorem dX12_turns_210 : decode cX12_turns 210 = .ok (.iload_n 3, 1) := dl_29 (by decide +kernel)
theorem dX12_turns_211 : decode cX12_turns 211 = .ok (.iconst 1, 1) := dl_4 (by decide +kernel)
theorem dX12_turns_212 : decode cX12_turns 212 = .ok (.if_icmp .ne 12, 3) := dl_160 (by decide +kernel)
theorem dX12_turns_224 : decode cX12_turns 224 = .ok (.iload_n 3, 1) := dl_29 (by decide +kernel)
theorem dX12_turns_225 : decode cX12_turns 225 = .ok (.iconst 2, 1) := dl_5 (by decide +kernel)
theorem dX12_turns_226 : decode cX12_turns 226 = .ok (.if_icmp .ne 8, 3) := dl_160 (by decide +kernel)
theorem dX12_turns_229 : decode cX12_turns 229 = .ok (.iload 5, 2) := dl_21 (by decide +kernel)
theorem dX12_turns_231 : decode cX12_turns 231 = .ok (.goto 12, 3) := dl_167 (by decide +kernel)
theorem dX12_turns_243 : decode cX12_turns 243 = .ok (.ireturn, 1) := dl_172 (by decide +kernel)
theorem dX12_turns_215 : decode cX12_turns 215 = .ok (.aload_n 0, 1) := dl_42 (by decide +kernel)
theorem dX12_turns_216 : decode cX12_turns 216 = .ok (.getfield 7, 3) := dl_180 (by decide +kernel)
theorem dX12_turns_219 : decode cX12_turns 219 = .ok (.iconst 1, 1) := dl_4 (by decide +kernel)
theorem dX12_turns_220 : decode cX12_turns 220 = .ok (.iaload, 1) := dl_46 (by decide +kernel)
theorem dX12_turns_221 : decode cX12_turns 221 = .ok (.goto 22, 3) := dl_167 (by decide +kernel)
theorem dX12_turns_205 : decode cX12_turns 205 = .ok (.iload 4, 2) := dl_21 (by decide +kernel)
theorem dX12_turns_207 : decode cX12_turns 207 = .ok (.goto 36, 3) := dl_167 (by decide +kernel)
theorem dX12_turns_93 : decode cX12_turns 93 = .ok (.iinc 4 1, 3) := dl_132 (by decide +kernel)
theorem dX12_turns_96 : decode cX12_turns 96 = .ok (.aload_n 0, 1) := dl_42 (by decide +kernel)
theorem dX12_turns_97 : decode cX12_turns 97 = .ok (.iconst 1, 1) := dl_4 (by decide +kernel)
theorem dX12_turns_98 : decode cX12_turns 98 = .ok (.iload_n 1, 1) := dl_27 (by decide +kernel)
theorem dX12_turns_99 : decode cX12_turns 99 = .ok (.iload_n 2, 1) := dl_28 (by decide +kernel)
theorem dX12_turns_100 : decode cX12_turns 100 = .ok (.invokevirtual 315, 3) := dl_182 (by decide +kernel)
theorem dX12_turns_103 : decode cX12_turns 103 = .ok (.istore 5, 2) := dl_54 (by decide +kernel)
theorem dX12_turns_105 : decode cX12_turns 105 = .ok (.iconst 0, 1) := dl_3 (by decide +kernel)
theorem dX12_turns_106 : decode cX12_turns 106 = .ok (.istore 7, 2) := dl_54 (by decide +kernel)
theorem dX12_turns_108 : decode cX12_turns 108 = .ok (.iload 7, 2) := dl_21 (by decide +kernel)
theorem dX12_turns_110 : decode cX12_turns 110 = .ok (.iconst 4, 1) := dl_7 (by decide +kernel)
theorem dX12_turns_111 : decode cX12_turns 111 = .ok (.if_icmp .ge 51, 3) := dl_162 (by decide +kernel)
theorem dX12_turns_162 : decode cX12_turns 162 = .ok (.aload_n 0, 1) := dl_42 (by decide +kernel)
theorem dX12_turns_163 : decode cX12_turns 163 = .ok (.iconst 1, 1) := dl_4 (by decide +kernel)
theorem dX12_turns_164 : decode cX12_turns 164 = .ok (.iload_n 1, 1) := dl_27 (by decide +kernel)
theorem dX12_turns_165 : decode cX12_turns 165 = .ok (.invokevirtual 318, 3) := dl_182 (by decide +kernel)
theorem dX12_turns_168 : decode cX12_turns 168 = .ok (.istore 7, 2) := dl_54 (by decide +kernel)
theorem dX12_turns_170 : decode cX12_turns 170 = .ok (.iload 7, 2) := dl_21 (by decide +kernel)
theorem dX12_turns_172 : decode cX12_turns 172 = .ok (.aload_n 0, 1) := dl_42 (by decide +kernel)
theorem dX12_turns_173 : decode cX12_turns 173 = .ok (.getfield 7, 3) := dl_180 (by decide +kernel)
theorem dX12_turns_176 : decode cX12_turns 176 = .ok (.iconst 1, 1) := dl_4 (by decide +kernel)
theorem dX12_turns_177 : decode cX12_turns 177 = .ok (.iaload, 1) := dl_46 (by decide +kernel)
theorem dX12_turns_178 : decode cX12_turns 178 = .ok (.invokestatic 230, 3) := dl_184 (by decide +kernel)
theorem dX12_turns_181 : decode cX12_turns 181 = .ok (.if_icmp .eq 7, 3) := dl_159 (by decide +kernel)
theorem dX12_turns_188 : decode cX12_turns 188 = .ok (.iconst 0, 1) := dl_3 (by decide +kernel)
theorem dX12_turns_189 : decode cX12_turns 189 = .ok (.istore 6, 2) := dl_54 (by decide +kernel)
theorem dX12_turns_191 : decode cX12_turns 191 = .ok (.aload_n 0, 1) := dl_42 (by decide +kernel)
theorem dX12_turns_192 : decode cX12_turns 192 = .ok (.iconst 1, 1) := dl_4 (by decide +kernel)
theorem dX12_turns_193 : decode cX12_turns 193 = .ok (.iload 7, 2) := dl_21 (by decide +kernel)
theorem dX12_turns_195 : decode cX12_turns 195 = .ok (.invokevirtual 321, 3) := dl_182 (by decide +kernel)
theorem dX12_turns_198 : decode cX12_turns 198 = .ok (.goto (-110), 3) := dl_167 (by decide +kernel)
theorem dX12_turns_184 : decode cX12_turns 184 = .ok (.iconst 1, 1) := dl_4 (by decide +kernel)
theorem dX12_turns_185 : decode cX12_turns 185 = .ok (.goto 4, 3) := dl_167 (by decide +kernel)
theorem dX12_turns_114 : decode cX12_turns 114 = .ok (.aload_n 0, 1) := dl_42 (by decide +kernel)
theorem dX12_turns_115 : decode cX12_turns 115 = .ok (.getfield 87, 3) := dl_180 (by decide +kernel)
theorem wf_X12_87 : Cond.fieldLink RX12 87 RX12 "firsts" "[I" ∈ TB := tbm (tq5 (List.mem_of_getElem? (i := 116) (by decide +kernel))) (by decide +kernel)
theorem fg_X12_87 : FG RX12 87 12 38 := ⟨RX12, TX12, 45, uw_X12, wf_X12_87, rfl, by decide, rfl⟩
theorem dX12_turns_118 : decode cX12_turns 118 = .ok (.iload 7, 2) := dl_21 (by decide +kernel)
theorem dX12_turns_120 : decode cX12_turns 120 = .ok (.iload 5, 2) := dl_21 (by decide +kernel)
theorem dX12_turns_122 : decode cX12_turns 122 = .ok (.iload 7, 2) := dl_21 (by decide +kernel)
theorem dX12_turns_124 : decode cX12_turns 124 = .ok (.ishr, 1) := dl_122 (by decide +kernel)
theorem dX12_turns_125 : decode cX12_turns 125 = .ok (.iconst 1, 1) := dl_4 (by decide +kernel)
theorem dX12_turns_126 : decode cX12_turns 126 = .ok (.iand, 1) := dl_126 (by decide +kernel)
theorem dX12_turns_127 : decode cX12_turns 127 = .ok (.iconst 1, 1) := dl_4 (by decide +kernel)
theorem dX12_turns_128 : decode cX12_turns 128 = .ok (.if_icmp .ne 20, 3) := dl_160 (by decide +kernel)
theorem dX12_turns_148 : decode cX12_turns 148 = .ok (.aload_n 0, 1) := dl_42 (by decide +kernel)
theorem dX12_turns_149 : decode cX12_turns 149 = .ok (.getfield 87, 3) := dl_180 (by decide +kernel)
theorem dX12_turns_152 : decode cX12_turns 152 = .ok (.iload 7, 2) := dl_21 (by decide +kernel)
theorem dX12_turns_154 : decode cX12_turns 154 = .ok (.iaload, 1) := dl_46 (by decide +kernel)
theorem dX12_turns_155 : decode cX12_turns 155 = .ok (.iastore, 1) := dl_79 (by decide +kernel)
theorem dX12_turns_156 : decode cX12_turns 156 = .ok (.iinc 7 1, 3) := dl_132 (by decide +kernel)
theorem dX12_turns_159 : decode cX12_turns 159 = .ok (.goto (-51), 3) := dl_167 (by decide +kernel)
theorem dX12_turns_131 : decode cX12_turns 131 = .ok (.aload_n 0, 1) := dl_42 (by decide +kernel)
theorem dX12_turns_132 : decode cX12_turns 132 = .ok (.getfield 87, 3) := dl_180 (by decide +kernel)
theorem dX12_turns_135 : decode cX12_turns 135 = .ok (.iload 7, 2) := dl_21 (by decide +kernel)
theorem dX12_turns_137 : decode cX12_turns 137 = .ok (.iaload, 1) := dl_46 (by decide +kernel)
theorem dX12_turns_138 : decode cX12_turns 138 = .ok (.bipush (-4), 2) := dl_16 (by decide +kernel)
theorem dX12_turns_140 : decode cX12_turns 140 = .ok (.if_icmp .ne 8, 3) := dl_160 (by decide +kernel)
theorem dX12_turns_143 : decode cX12_turns 143 = .ok (.iload 4, 2) := dl_21 (by decide +kernel)
theorem dX12_turns_145 : decode cX12_turns 145 = .ok (.goto 10, 3) := dl_167 (by decide +kernel)
theorem dX12_turns_64 : decode cX12_turns 64 = .ok (.aload_n 0, 1) := dl_42 (by decide +kernel)
theorem dX12_turns_65 : decode cX12_turns 65 = .ok (.getfield 87, 3) := dl_180 (by decide +kernel)
theorem dX12_turns_68 : decode cX12_turns 68 = .ok (.iload 4, 2) := dl_21 (by decide +kernel)
theorem dX12_turns_70 : decode cX12_turns 70 = .ok (.bipush (-4), 2) := dl_16 (by decide +kernel)
theorem dX12_turns_72 : decode cX12_turns 72 = .ok (.iastore, 1) := dl_79 (by decide +kernel)
theorem dX12_turns_73 : decode cX12_turns 73 = .ok (.iinc 4 1, 3) := dl_132 (by decide +kernel)
theorem dX12_turns_76 : decode cX12_turns 76 = .ok (.goto (-18), 3) := dl_167 (by decide +kernel)
theorem dX12_turns_46 : decode cX12_turns 46 = .ok (.bipush (-2), 2) := dl_16 (by decide +kernel)
theorem dX12_turns_48 : decode cX12_turns 48 = .ok (.ireturn, 1) := dl_172 (by decide +kernel)
theorem dX12_turns_21 : decode cX12_turns 21 = .ok (.iload_n 3, 1) := dl_29 (by decide +kernel)
theorem dX12_turns_22 : decode cX12_turns 22 = .ok (.i2l, 1) := dl_133 (by decide +kernel)
theorem dX12_turns_23 : decode cX12_turns 23 = .ok (.ldc2_w 324, 3) := dl_20 (by decide +kernel)
theorem wv_X12_324 : Cond.constantLong RX12 324 10 ∈ TB := tbm (tq7 (List.mem_of_getElem? (i := 42) (by decide +kernel))) (by decide +kernel)
theorem dX12_turns_26 : decode cX12_turns 26 = .ok (.ldc2_w 326, 3) := dl_20 (by decide +kernel)
theorem wv_X12_326 : Cond.constantLong RX12 326 13 ∈ TB := tbm (tq7 (List.mem_of_getElem? (i := 43) (by decide +kernel))) (by decide +kernel)
theorem dX12_turns_29 : decode cX12_turns 29 = .ok (.invokestatic 115, 3) := dl_184 (by decide +kernel)
theorem dX12_turns_32 : decode cX12_turns 32 = .ok (.ifCond .ne 5, 3) := dl_154 (by decide +kernel)
theorem dX12_turns_234 : decode cX12_turns 234 = .ok (.aload_n 0, 1) := dl_42 (by decide +kernel)
theorem dX12_turns_235 : decode cX12_turns 235 = .ok (.getfield 87, 3) := dl_180 (by decide +kernel)
theorem dX12_turns_238 : decode cX12_turns 238 = .ok (.iload_n 3, 1) := dl_29 (by decide +kernel)
theorem dX12_turns_239 : decode cX12_turns 239 = .ok (.bipush 10, 2) := dl_16 (by decide +kernel)
theorem dX12_turns_241 : decode cX12_turns 241 = .ok (.isub, 1) := dl_100 (by decide +kernel)
theorem dX12_turns_242 : decode cX12_turns 242 = .ok (.iaload, 1) := dl_46 (by decide +kernel)
theorem dX12_turns_35 : decode cX12_turns 35 = .ok (.iconst (-1), 1) := dl_2 (by decide +kernel)
theorem dX12_turns_36 : decode cX12_turns 36 = .ok (.ireturn, 1) := dl_172 (by decide +kernel)
set_option maxRecDepth 100000 in
set_option maxHeartbeats 4000000 in
theorem y_turns (l : Launch) (E : EV) (ro : va_W) (hm : Nat) (v0 : Int32) (v1 : Int32) (v2 : Int32) (m_manys : Nat) (m_reals : Nat) (m_factsOf : Nat) (m_possible : Nat) (q_undos : Nat) (q_models : Nat) (m_tape : Nat) (q_taped : Nat) (q_fault : Int32) (q_wrong : Int32) (q_wrongAt : Int32) (q_spot : Int32) (q_place : Int32) (q_token : Int32) (q_value : Int32) (m_ends : Nat) (m_letters : Nat) (m_actOf : Nat) (m_whom : Nat) (m_actMany : Nat) (m_tokens : Nat) (m_afters : Nat) (m_afterOf : Nat) (q_counted : Int32) (m_pile : Nat) (m_caseMany : Nat) (m_happen : Nat) (m_hasIf : Nat) (m_becomes : Nat) (m_goneOf : Nat) (m_heard : Nat) (m_pairs : Nat) (m_heaps : Nat) (q_rounds : Int32) (q_heapMany : Int32) (m_led : Nat) (m_newAt : Nat) (m_knowing : Nat) (m_firsts : Nat) (q_people : Nat) (m_secrets : Nat) (m_tried : Nat) (m_lanes : Nat) (m_lengths : Nat) (m_cells : Nat) (f_manys : Nat → Int32) (f_reals : Nat → Int32) (f_factsOf : Nat → Int32) (f_possible : Nat → Int32) (f_pairs : Nat → Int32) (f_pile : Nat → Int32) (f_caseMany : Nat → Int32) (f_happen : Nat → Int32) (f_hasIf : Nat → Int32) (f_becomes : Nat → Int32) (f_goneOf : Nat → Int32) (f_heard : Nat → Int32) (f_actMany : Nat → Int32) (f_actOf : Nat → Int32) (f_whom : Nat → Int32) (f_afters : Nat → Int32) (f_afterOf : Nat → Int32) (f_knowing : Nat → Int32) (f_newAt : Nat → Int32) (f_firsts : Nat → Int32) (f_tokens : Nat → Int32) (hb_manys : NB 18 24 f_manys) (hb_reals : NB 18 23 f_reals) (hpg : PG f_manys f_reals) (hwf : WFP (pgs f_manys f_reals f_factsOf f_possible)) (hb_caseMany : NB 4 4 f_caseMany) (hb_happen : NB 4 3 f_happen) (hb_actMany : NB 25 32 f_actMany) (hhp : HP f_caseMany f_happen) (hsv : SV f_actOf f_actMany) (hb_afters : NB 9 2 f_afters) (hb_afterOf : NB 18 3 f_afterOf) (hWI : WHI f_hasIf f_actMany f_actOf f_whom) (hWT : WHT f_tokens f_actMany f_actOf f_whom) : CT l yX12_turns (Cond.code yX12_turns cX12_turns 8 (some .int) :: TB) ({ frames := 8, cells := 0, slots := 0, locals := 209 }) E ro [.ref hm, .int v0, .int v1, .int v2] [(hm, .inr (12, [.ref m_manys, .ref m_reals, .ref m_factsOf, .ref m_possible, .int (nI q_undos), .int (nI q_models), .ref m_tape, .int (nI q_taped), .int q_fault, .int q_wrong, .int q_wrongAt, .int q_spot, .int q_place, .int q_token, .int q_value, .ref m_ends, .ref m_letters, .ref m_actOf, .ref m_whom, .ref m_actMany, .ref m_tokens, .ref m_afters, .ref m_afterOf, .int q_counted, .ref m_pile, .ref m_caseMany, .ref m_happen, .ref m_hasIf, .ref m_becomes, .ref m_goneOf, .ref m_heard, .ref m_pairs, .ref m_heaps, .int q_rounds, .int q_heapMany, .ref m_led, .ref m_newAt, .ref m_knowing, .ref m_firsts, .int (nI q_people), .ref m_secrets, .ref m_tried, .ref m_lanes, .ref m_lengths, .ref m_cells])), (m_manys, .inl (E.2.1 1, 18, .inl f_manys)), (m_reals, .inl (E.2.1 1, 18, .inl f_reals)), (m_factsOf, .inl (E.2.1 1, 432, .inl f_factsOf)), (m_possible, .inl (E.2.1 1, 1728, .inl f_possible)), (m_pairs, .inl (E.2.1 1, 576, .inl f_pairs)), (m_pile, .inl (E.2.1 1, 34, .inl f_pile)), (m_caseMany, .inl (E.2.1 1, 4, .inl f_caseMany)), (m_happen, .inl (E.2.1 1, 4, .inl f_happen)), (m_hasIf, .inl (E.2.1 3, 16, .inl f_hasIf)), (m_becomes, .inl (E.2.1 1, 16, .inl f_becomes)), (m_goneOf, .inl (E.2.1 1, 16, .inl f_goneOf)), (m_heard, .inl (E.2.1 1, 64, .inl f_heard)), (m_actMany, .inl (E.2.1 1, 25, .inl f_actMany)), (m_actOf, .inl (E.2.1 1, 800, .inl f_actOf)), (m_whom, .inl (E.2.1 1, 800, .inl f_whom)), (m_afters, .inl (E.2.1 1, 9, .inl f_afters)), (m_afterOf, .inl (E.2.1 1, 18, .inl f_afterOf)), (m_knowing, .inl (E.2.1 1, 4, .inl f_knowing)), (m_newAt, .inl (E.2.1 1, 24, .inl f_newAt)), (m_firsts, .inl (E.2.1 1, 4, .inl f_firsts)), (m_tokens, .inl (E.2.1 1, 9, .inl f_tokens))] (Qi E (fun (rz : Int32) uz => (∃ (f_manysz : Nat → Int32) (f_realsz : Nat → Int32) (f_factsOfz : Nat → Int32) (f_possiblez : Nat → Int32) (f_pairsz : Nat → Int32) (f_pilez : Nat → Int32) (f_knowingz : Nat → Int32) (f_newAtz : Nat → Int32) (f_firstsz : Nat → Int32), uz = [(hm, .inr (12, [.ref m_manys, .ref m_reals, .ref m_factsOf, .ref m_possible, .int (nI q_undos), .int (nI q_models), .ref m_tape, .int (nI q_taped), .int q_fault, .int q_wrong, .int q_wrongAt, .int q_spot, .int q_place, .int q_token, .int q_value, .ref m_ends, .ref m_letters, .ref m_actOf, .ref m_whom, .ref m_actMany, .ref m_tokens, .ref m_afters, .ref m_afterOf, .int q_counted, .ref m_pile, .ref m_caseMany, .ref m_happen, .ref m_hasIf, .ref m_becomes, .ref m_goneOf, .ref m_heard, .ref m_pairs, .ref m_heaps, .int q_rounds, .int q_heapMany, .ref m_led, .ref m_newAt, .ref m_knowing, .ref m_firsts, .int (nI q_people), .ref m_secrets, .ref m_tried, .ref m_lanes, .ref m_lengths, .ref m_cells])), (m_manys, .inl (E.2.1 1, 18, .inl f_manysz)), (m_reals, .inl (E.2.1 1, 18, .inl f_realsz)), (m_factsOf, .inl (E.2.1 1, 432, .inl f_factsOfz)), (m_possible, .inl (E.2.1 1, 1728, .inl f_possiblez)), (m_pairs, .inl (E.2.1 1, 576, .inl f_pairsz)), (m_pile, .inl (E.2.1 1, 34, .inl f_pilez)), (m_caseMany, .inl (E.2.1 1, 4, .inl f_caseMany)), (m_happen, .inl (E.2.1 1, 4, .inl f_happen)), (m_hasIf, .inl (E.2.1 3, 16, .inl f_hasIf)), (m_becomes, .inl (E.2.1 1, 16, .inl f_becomes)), (m_goneOf, .inl (E.2.1 1, 16, .inl f_goneOf)), (m_heard, .inl (E.2.1 1, 64, .inl f_heard)), (m_actMany, .inl (E.2.1 1, 25, .inl f_actMany)), (m_actOf, .inl (E.2.1 1, 800, .inl f_actOf)), (m_whom, .inl (E.2.1 1, 800, .inl f_whom)), (m_afters, .inl (E.2.1 1, 9, .inl f_afters)), (m_afterOf, .inl (E.2.1 1, 18, .inl f_afterOf)), (m_knowing, .inl (E.2.1 1, 4, .inl f_knowingz)), (m_newAt, .inl (E.2.1 1, 24, .inl f_newAtz)), (m_firsts, .inl (E.2.1 1, 4, .inl f_firstsz)), (m_tokens, .inl (E.2.1 1, 9, .inl f_tokens))] ∧ (NB 18 24 f_manysz) ∧ (NB 18 23 f_realsz) ∧ (PG f_manysz f_realsz) ∧ (WFP (pgs f_manysz f_realsz f_factsOfz f_possiblez)) ∧ (TUR ((pgs f_manys f_reals f_factsOf f_possible) 0) (rEv f_caseMany f_happen f_hasIf f_actMany f_actOf f_whom f_becomes f_goneOf f_heard) (rTT f_tokens f_actMany f_actOf f_whom f_afterOf f_afters) v0 v1 v2 rz) ∧ (KPA 0 (pgs f_manys f_reals f_factsOf f_possible) (pgs f_manysz f_realsz f_factsOfz f_possiblez))))) 0 0 := by
  refine ct_of rfl rfl ?_
  intro X C hT hin hro
  show WW X 8 E 0 [(0, .ref hm), (1, .int v0), (2, .int v1), (3, .int v2)] [] [(hm, .inr (12, [.ref m_manys, .ref m_reals, .ref m_factsOf, .ref m_possible, .int (nI q_undos), .int (nI q_models), .ref m_tape, .int (nI q_taped), .int q_fault, .int q_wrong, .int q_wrongAt, .int q_spot, .int q_place, .int q_token, .int q_value, .ref m_ends, .ref m_letters, .ref m_actOf, .ref m_whom, .ref m_actMany, .ref m_tokens, .ref m_afters, .ref m_afterOf, .int q_counted, .ref m_pile, .ref m_caseMany, .ref m_happen, .ref m_hasIf, .ref m_becomes, .ref m_goneOf, .ref m_heard, .ref m_pairs, .ref m_heaps, .int q_rounds, .int q_heapMany, .ref m_led, .ref m_newAt, .ref m_knowing, .ref m_firsts, .int (nI q_people), .ref m_secrets, .ref m_tried, .ref m_lanes, .ref m_lengths, .ref m_cells])), (m_manys, .inl (E.2.1 1, 18, .inl f_manys)), (m_reals, .inl (E.2.1 1, 18, .inl f_reals)), (m_factsOf, .inl (E.2.1 1, 432, .inl f_factsOf)), (m_possible, .inl (E.2.1 1, 1728, .inl f_possible)), (m_pairs, .inl (E.2.1 1, 576, .inl f_pairs)), (m_pile, .inl (E.2.1 1, 34, .inl f_pile)), (m_caseMany, .inl (E.2.1 1, 4, .inl f_caseMany)), (m_happen, .inl (E.2.1 1, 4, .inl f_happen)), (m_hasIf, .inl (E.2.1 3, 16, .inl f_hasIf)), (m_becomes, .inl (E.2.1 1, 16, .inl f_becomes)), (m_goneOf, .inl (E.2.1 1, 16, .inl f_goneOf)), (m_heard, .inl (E.2.1 1, 64, .inl f_heard)), (m_actMany, .inl (E.2.1 1, 25, .inl f_actMany)), (m_actOf, .inl (E.2.1 1, 800, .inl f_actOf)), (m_whom, .inl (E.2.1 1, 800, .inl f_whom)), (m_afters, .inl (E.2.1 1, 9, .inl f_afters)), (m_afterOf, .inl (E.2.1 1, 18, .inl f_afterOf)), (m_knowing, .inl (E.2.1 1, 4, .inl f_knowing)), (m_newAt, .inl (E.2.1 1, 24, .inl f_newAt)), (m_firsts, .inl (E.2.1 1, 4, .inl f_firsts)), (m_tokens, .inl (E.2.1 1, 9, .inl f_tokens))] 0 0
  have hmn0 := (hb_manys 0 (by omega)).2
  have hpg0 := hpg 0 (by omega)
  refine ww_aload_n C dX12_turns_0 0 rfl rfl ?_
  refine ww_iload_n C dX12_turns_1 1 rfl rfl ?_
  refine ww_iload_n C dX12_turns_2 2 rfl rfl ?_
  refine ww_ci (wr := [(m_manys, .inl (E.2.1 1, 18, .inl f_manys)), (m_reals, .inl (E.2.1 1, 18, .inl f_reals)), (m_factsOf, .inl (E.2.1 1, 432, .inl f_factsOf)), (m_possible, .inl (E.2.1 1, 1728, .inl f_possible)), (m_pairs, .inl (E.2.1 1, 576, .inl f_pairs)), (m_pile, .inl (E.2.1 1, 34, .inl f_pile)), (m_caseMany, .inl (E.2.1 1, 4, .inl f_caseMany)), (m_happen, .inl (E.2.1 1, 4, .inl f_happen)), (m_hasIf, .inl (E.2.1 3, 16, .inl f_hasIf)), (m_becomes, .inl (E.2.1 1, 16, .inl f_becomes)), (m_goneOf, .inl (E.2.1 1, 16, .inl f_goneOf)), (m_heard, .inl (E.2.1 1, 64, .inl f_heard)), (m_actMany, .inl (E.2.1 1, 25, .inl f_actMany)), (m_actOf, .inl (E.2.1 1, 800, .inl f_actOf)), (m_whom, .inl (E.2.1 1, 800, .inl f_whom)), (m_afters, .inl (E.2.1 1, 9, .inl f_afters)), (m_afterOf, .inl (E.2.1 1, 18, .inl f_afterOf)), (m_knowing, .inl (E.2.1 1, 4, .inl f_knowing)), (m_newAt, .inl (E.2.1 1, 24, .inl f_newAt)), (m_firsts, .inl (E.2.1 1, 4, .inl f_firsts))]) (k' := 0) (n' := 0) C (run_V (As := [.int v0, .int v1]) (rest := []) C (r_areAsked X.2.1 E ro hm v0 v1 m_manys m_reals m_factsOf m_possible q_undos q_models m_tape q_taped q_fault q_wrong q_wrongAt q_spot q_place q_token q_value m_ends m_letters m_actOf m_whom m_actMany m_tokens m_afters m_afterOf q_counted m_pile m_caseMany m_happen m_hasIf m_becomes m_goneOf m_heard m_pairs m_heaps q_rounds q_heapMany m_led m_newAt m_knowing m_firsts q_people m_secrets m_tried m_lanes m_lengths m_cells f_tokens) mi_X12_areAsked wl_X12_312 rfl 0 12 rfl rfl rfl rfl rfl dX12_turns_3) (roK hro) [0, 21] [1, 2, 3, 4, 5, 6, 7, 8, 9, 10, 11, 12, 13, 14, 15, 16, 17, 18, 19, 20] rfl (gqk (by eq_refl)) (plk (by decide +kernel)) rfl (fun r_1 uz hw => ?_)
  rcases hw with hw | hw
  · refine an2 hw ?_
    clear hw
    intro he_3 he_4 hw
    have h_2 := hw
    clear hw
    have he_3 := he_3.symm
    subst he_3
    subst he_4
    refine ww_eq (ws' := [(m_manys, .inl (E.2.1 1, 18, .inl f_manys)), (m_reals, .inl (E.2.1 1, 18, .inl f_reals)), (m_factsOf, .inl (E.2.1 1, 432, .inl f_factsOf)), (m_possible, .inl (E.2.1 1, 1728, .inl f_possible)), (m_pairs, .inl (E.2.1 1, 576, .inl f_pairs)), (m_pile, .inl (E.2.1 1, 34, .inl f_pile)), (m_caseMany, .inl (E.2.1 1, 4, .inl f_caseMany)), (m_happen, .inl (E.2.1 1, 4, .inl f_happen)), (m_hasIf, .inl (E.2.1 3, 16, .inl f_hasIf)), (m_becomes, .inl (E.2.1 1, 16, .inl f_becomes)), (m_goneOf, .inl (E.2.1 1, 16, .inl f_goneOf)), (m_heard, .inl (E.2.1 1, 64, .inl f_heard)), (m_actMany, .inl (E.2.1 1, 25, .inl f_actMany)), (m_actOf, .inl (E.2.1 1, 800, .inl f_actOf)), (m_whom, .inl (E.2.1 1, 800, .inl f_whom)), (m_afters, .inl (E.2.1 1, 9, .inl f_afters)), (m_afterOf, .inl (E.2.1 1, 18, .inl f_afterOf)), (m_knowing, .inl (E.2.1 1, 4, .inl f_knowing)), (m_newAt, .inl (E.2.1 1, 24, .inl f_newAt)), (m_firsts, .inl (E.2.1 1, 4, .inl f_firsts)), (hm, .inr (12, [.ref m_manys, .ref m_reals, .ref m_factsOf, .ref m_possible, .int (nI q_undos), .int (nI q_models), .ref m_tape, .int (nI q_taped), .int q_fault, .int q_wrong, .int q_wrongAt, .int q_spot, .int q_place, .int q_token, .int q_value, .ref m_ends, .ref m_letters, .ref m_actOf, .ref m_whom, .ref m_actMany, .ref m_tokens, .ref m_afters, .ref m_afterOf, .int q_counted, .ref m_pile, .ref m_caseMany, .ref m_happen, .ref m_hasIf, .ref m_becomes, .ref m_goneOf, .ref m_heard, .ref m_pairs, .ref m_heaps, .int q_rounds, .int q_heapMany, .ref m_led, .ref m_newAt, .ref m_knowing, .ref m_firsts, .int (nI q_people), .ref m_secrets, .ref m_tried, .ref m_lanes, .ref m_lengths, .ref m_cells])), (m_tokens, .inl (E.2.1 1, 9, .inl f_tokens))]) ?_ rfl rfl rfl
    refine ww_if_eq_f (tgt := 35) C dX12_turns_6 (by decide) (by decide) ?_
    refine ww_iload_n C dX12_turns_9 3 rfl rfl ?_
    refine ww_i2l (v := v2.toInt64) C dX12_turns_10 rfl ?_
    refine ww_lconst (v := 0) C dX12_turns_11 rfl ?_
    refine ww_ldc2 C wv_X12_254 dX12_turns_12 ?_
    refine ww_ci (wr := [(m_manys, .inl (E.2.1 1, 18, .inl f_manys)), (m_reals, .inl (E.2.1 1, 18, .inl f_reals)), (m_factsOf, .inl (E.2.1 1, 432, .inl f_factsOf)), (m_possible, .inl (E.2.1 1, 1728, .inl f_possible)), (m_pairs, .inl (E.2.1 1, 576, .inl f_pairs)), (m_pile, .inl (E.2.1 1, 34, .inl f_pile)), (m_caseMany, .inl (E.2.1 1, 4, .inl f_caseMany)), (m_happen, .inl (E.2.1 1, 4, .inl f_happen)), (m_hasIf, .inl (E.2.1 3, 16, .inl f_hasIf)), (m_becomes, .inl (E.2.1 1, 16, .inl f_becomes)), (m_goneOf, .inl (E.2.1 1, 16, .inl f_goneOf)), (m_heard, .inl (E.2.1 1, 64, .inl f_heard)), (m_actMany, .inl (E.2.1 1, 25, .inl f_actMany)), (m_actOf, .inl (E.2.1 1, 800, .inl f_actOf)), (m_whom, .inl (E.2.1 1, 800, .inl f_whom)), (m_afters, .inl (E.2.1 1, 9, .inl f_afters)), (m_afterOf, .inl (E.2.1 1, 18, .inl f_afterOf)), (m_knowing, .inl (E.2.1 1, 4, .inl f_knowing)), (m_newAt, .inl (E.2.1 1, 24, .inl f_newAt)), (m_firsts, .inl (E.2.1 1, 4, .inl f_firsts)), (hm, .inr (12, [.ref m_manys, .ref m_reals, .ref m_factsOf, .ref m_possible, .int (nI q_undos), .int (nI q_models), .ref m_tape, .int (nI q_taped), .int q_fault, .int q_wrong, .int q_wrongAt, .int q_spot, .int q_place, .int q_token, .int q_value, .ref m_ends, .ref m_letters, .ref m_actOf, .ref m_whom, .ref m_actMany, .ref m_tokens, .ref m_afters, .ref m_afterOf, .int q_counted, .ref m_pile, .ref m_caseMany, .ref m_happen, .ref m_hasIf, .ref m_becomes, .ref m_goneOf, .ref m_heard, .ref m_pairs, .ref m_heaps, .int q_rounds, .int q_heapMany, .ref m_led, .ref m_newAt, .ref m_knowing, .ref m_firsts, .int (nI q_people), .ref m_secrets, .ref m_tried, .ref m_lanes, .ref m_lengths, .ref m_cells])), (m_tokens, .inl (E.2.1 1, 9, .inl f_tokens))]) (k' := 0) (n' := 0) C (run_S (As := [.long v2.toInt64, .long 0, .long 2]) (rest := []) C (r_in X.2.1 E ro v2.toInt64 0 2 v2.toInt 0 2 (Int32.toInt_toInt64 _) rfl rfl) ms_X12_in wl_X12_115 rfl rfl rfl rfl dX12_turns_15) (roK hro) [] [0, 1, 2, 3, 4, 5, 6, 7, 8, 9, 10, 11, 12, 13, 14, 15, 16, 17, 18, 19, 20, 21] rfl (gqk (by eq_refl)) (plk (by decide +kernel)) rfl (fun r_8 uz hw => ?_)
    rcases hw with hw | hw
    · refine an3 hw ?_
      clear hw
      intro he_11 he_12 h_9 hw
      have h_10 := hw
      clear hw
      have he_11 := he_11.symm
      subst he_11
      subst he_12
      refine ww_eq (ws' := [(m_manys, .inl (E.2.1 1, 18, .inl f_manys)), (m_reals, .inl (E.2.1 1, 18, .inl f_reals)), (m_factsOf, .inl (E.2.1 1, 432, .inl f_factsOf)), (m_possible, .inl (E.2.1 1, 1728, .inl f_possible)), (m_pairs, .inl (E.2.1 1, 576, .inl f_pairs)), (m_pile, .inl (E.2.1 1, 34, .inl f_pile)), (m_caseMany, .inl (E.2.1 1, 4, .inl f_caseMany)), (m_happen, .inl (E.2.1 1, 4, .inl f_happen)), (m_hasIf, .inl (E.2.1 3, 16, .inl f_hasIf)), (m_becomes, .inl (E.2.1 1, 16, .inl f_becomes)), (m_goneOf, .inl (E.2.1 1, 16, .inl f_goneOf)), (m_heard, .inl (E.2.1 1, 64, .inl f_heard)), (m_actMany, .inl (E.2.1 1, 25, .inl f_actMany)), (m_actOf, .inl (E.2.1 1, 800, .inl f_actOf)), (m_whom, .inl (E.2.1 1, 800, .inl f_whom)), (m_afters, .inl (E.2.1 1, 9, .inl f_afters)), (m_afterOf, .inl (E.2.1 1, 18, .inl f_afterOf)), (m_knowing, .inl (E.2.1 1, 4, .inl f_knowing)), (m_newAt, .inl (E.2.1 1, 24, .inl f_newAt)), (m_firsts, .inl (E.2.1 1, 4, .inl f_firsts)), (hm, .inr (12, [.ref m_manys, .ref m_reals, .ref m_factsOf, .ref m_possible, .int (nI q_undos), .int (nI q_models), .ref m_tape, .int (nI q_taped), .int q_fault, .int q_wrong, .int q_wrongAt, .int q_spot, .int q_place, .int q_token, .int q_value, .ref m_ends, .ref m_letters, .ref m_actOf, .ref m_whom, .ref m_actMany, .ref m_tokens, .ref m_afters, .ref m_afterOf, .int q_counted, .ref m_pile, .ref m_caseMany, .ref m_happen, .ref m_hasIf, .ref m_becomes, .ref m_goneOf, .ref m_heard, .ref m_pairs, .ref m_heaps, .int q_rounds, .int q_heapMany, .ref m_led, .ref m_newAt, .ref m_knowing, .ref m_firsts, .int (nI q_people), .ref m_secrets, .ref m_tried, .ref m_lanes, .ref m_lengths, .ref m_cells])), (m_tokens, .inl (E.2.1 1, 9, .inl f_tokens))]) ?_ rfl rfl rfl
      refine ww_if_ne_t (tgt := 37) C dX12_turns_18 (by decide) (by decide) ?_
      refine ww_aload_n C dX12_turns_37 0 rfl rfl ?_
      refine ww_get C fg_X12_7 20 rfl rfl dX12_turns_38 ?_
      refine ww_iconst (v := 0) C dX12_turns_41 rfl ?_
      have hbx_16 := (hb_manys 0 (by omega)).2
      refine ww_iald (v := (nI (cN f_manys 0))) C 0 rfl (vin rfl) (hb_manys 0 (by omega)).1 dX12_turns_42 ?_
      refine ww_if_ne (tgt := 49) C dX12_turns_43 (by decide) (fun c_17 => ?_) (fun c_17 => ?_)
      · have zc_17 : ((cN f_manys 0 : Nat) : Int) ≠ 0 := i_ne (nI_toInt (n := cN f_manys 0) (by omega)) rfl c_17
        refine ww_aload_n C dX12_turns_49 0 rfl rfl ?_
        refine ww_iconst (v := 0) C dX12_turns_50 rfl ?_
        refine ww_iconst (v := 1) C dX12_turns_51 rfl ?_
        refine ww_cv (wr := [(m_pairs, .inl (E.2.1 1, 576, .inl f_pairs)), (m_pile, .inl (E.2.1 1, 34, .inl f_pile)), (m_caseMany, .inl (E.2.1 1, 4, .inl f_caseMany)), (m_happen, .inl (E.2.1 1, 4, .inl f_happen)), (m_hasIf, .inl (E.2.1 3, 16, .inl f_hasIf)), (m_becomes, .inl (E.2.1 1, 16, .inl f_becomes)), (m_goneOf, .inl (E.2.1 1, 16, .inl f_goneOf)), (m_heard, .inl (E.2.1 1, 64, .inl f_heard)), (m_actMany, .inl (E.2.1 1, 25, .inl f_actMany)), (m_actOf, .inl (E.2.1 1, 800, .inl f_actOf)), (m_whom, .inl (E.2.1 1, 800, .inl f_whom)), (m_afters, .inl (E.2.1 1, 9, .inl f_afters)), (m_afterOf, .inl (E.2.1 1, 18, .inl f_afterOf)), (m_knowing, .inl (E.2.1 1, 4, .inl f_knowing)), (m_newAt, .inl (E.2.1 1, 24, .inl f_newAt)), (m_firsts, .inl (E.2.1 1, 4, .inl f_firsts)), (m_tokens, .inl (E.2.1 1, 9, .inl f_tokens))]) (k' := 0) (n' := 0) C (run_V (As := [.int 0, .int 1]) (rest := []) C (r_copy X.2.1 E ro hm 0 1 m_manys m_reals m_factsOf m_possible q_undos q_models m_tape q_taped q_fault q_wrong q_wrongAt q_spot q_place q_token q_value m_ends m_letters m_actOf m_whom m_actMany m_tokens m_afters m_afterOf q_counted m_pile m_caseMany m_happen m_hasIf m_becomes m_goneOf m_heard m_pairs m_heaps q_rounds q_heapMany m_led m_newAt m_knowing m_firsts q_people m_secrets m_tried m_lanes m_lengths m_cells f_manys f_reals f_factsOf f_possible hb_manys hb_reals hpg hwf (by omega) (by omega)) mi_X12_copy wl_X12_109 rfl 0 12 rfl rfl rfl rfl rfl dX12_turns_52) (roK hro) [20, 0, 1, 2, 3] [4, 5, 6, 7, 8, 9, 10, 11, 12, 13, 14, 15, 16, 17, 18, 19, 21] rfl (gqk (by eq_refl)) (plk (by decide +kernel)) rfl (fun uz hw => ?_)
        refine ex4 hw ?_
        clear hw
        intro f_manysz_19 f_realsz_20 f_factsOfz_21 f_possiblez_22 hw
        refine an8 hw ?_
        clear hw
        intro he_32 h_23 h_24 h_25 h_26 h_27 h_28 h_29 hw
        refine an1 hw ?_
        clear hw
        intro h_30 hw
        have h_31 := hw
        clear hw
        subst he_32
        refine ww_eq (ws' := [(m_pairs, .inl (E.2.1 1, 576, .inl f_pairs)), (m_pile, .inl (E.2.1 1, 34, .inl f_pile)), (m_caseMany, .inl (E.2.1 1, 4, .inl f_caseMany)), (m_happen, .inl (E.2.1 1, 4, .inl f_happen)), (m_hasIf, .inl (E.2.1 3, 16, .inl f_hasIf)), (m_becomes, .inl (E.2.1 1, 16, .inl f_becomes)), (m_goneOf, .inl (E.2.1 1, 16, .inl f_goneOf)), (m_heard, .inl (E.2.1 1, 64, .inl f_heard)), (m_actMany, .inl (E.2.1 1, 25, .inl f_actMany)), (m_actOf, .inl (E.2.1 1, 800, .inl f_actOf)), (m_whom, .inl (E.2.1 1, 800, .inl f_whom)), (m_afters, .inl (E.2.1 1, 9, .inl f_afters)), (m_afterOf, .inl (E.2.1 1, 18, .inl f_afterOf)), (m_knowing, .inl (E.2.1 1, 4, .inl f_knowing)), (m_newAt, .inl (E.2.1 1, 24, .inl f_newAt)), (m_firsts, .inl (E.2.1 1, 4, .inl f_firsts)), (m_tokens, .inl (E.2.1 1, 9, .inl f_tokens)), (hm, .inr (12, [.ref m_manys, .ref m_reals, .ref m_factsOf, .ref m_possible, .int (nI q_undos), .int (nI q_models), .ref m_tape, .int (nI q_taped), .int q_fault, .int q_wrong, .int q_wrongAt, .int q_spot, .int q_place, .int q_token, .int q_value, .ref m_ends, .ref m_letters, .ref m_actOf, .ref m_whom, .ref m_actMany, .ref m_tokens, .ref m_afters, .ref m_afterOf, .int q_counted, .ref m_pile, .ref m_caseMany, .ref m_happen, .ref m_hasIf, .ref m_becomes, .ref m_goneOf, .ref m_heard, .ref m_pairs, .ref m_heaps, .int q_rounds, .int q_heapMany, .ref m_led, .ref m_newAt, .ref m_knowing, .ref m_firsts, .int (nI q_people), .ref m_secrets, .ref m_tried, .ref m_lanes, .ref m_lengths, .ref m_cells])), (m_manys, .inl (E.2.1 1, 18, .inl f_manysz_19)), (m_reals, .inl (E.2.1 1, 18, .inl f_realsz_20)), (m_factsOf, .inl (E.2.1 1, 432, .inl f_factsOfz_21)), (m_possible, .inl (E.2.1 1, 1728, .inl f_possiblez_22))]) ?_ rfl rfl rfl
        have hrb0 := (hb_reals 0 (by omega)).2
        have hm1_ := cN_s (by omega) h_27
        have hr1_ := cN_s (by omega) h_28
        refine ww_iconst (v := 0) C dX12_turns_55 rfl ?_
        refine ww_istore (lv' := [(4, .int 0), (0, .ref hm), (1, .int v0), (2, .int v1), (3, .int v2)]) C dX12_turns_56 rfl rfl ?_
        have loop_58 : ∀ (fu : Nat) (k0 : Nat) (g_fi0 : Nat → Int32), (k0 ≤ 4) → (∀ k, k < k0 → g_fi0 k = -4) → 4 - k0 < fu → WW X 8 E 58 [(4, .int (nI k0)), (0, .ref hm), (1, .int v0), (2, .int v1), (3, .int v2)] [] [(m_pairs, .inl (E.2.1 1, 576, .inl f_pairs)), (m_pile, .inl (E.2.1 1, 34, .inl f_pile)), (m_caseMany, .inl (E.2.1 1, 4, .inl f_caseMany)), (m_happen, .inl (E.2.1 1, 4, .inl f_happen)), (m_hasIf, .inl (E.2.1 3, 16, .inl f_hasIf)), (m_becomes, .inl (E.2.1 1, 16, .inl f_becomes)), (m_goneOf, .inl (E.2.1 1, 16, .inl f_goneOf)), (m_heard, .inl (E.2.1 1, 64, .inl f_heard)), (m_actMany, .inl (E.2.1 1, 25, .inl f_actMany)), (m_actOf, .inl (E.2.1 1, 800, .inl f_actOf)), (m_whom, .inl (E.2.1 1, 800, .inl f_whom)), (m_afters, .inl (E.2.1 1, 9, .inl f_afters)), (m_afterOf, .inl (E.2.1 1, 18, .inl f_afterOf)), (m_knowing, .inl (E.2.1 1, 4, .inl f_knowing)), (m_newAt, .inl (E.2.1 1, 24, .inl f_newAt)), (m_firsts, .inl (E.2.1 1, 4, .inl g_fi0)), (m_tokens, .inl (E.2.1 1, 9, .inl f_tokens)), (hm, .inr (12, [.ref m_manys, .ref m_reals, .ref m_factsOf, .ref m_possible, .int (nI q_undos), .int (nI q_models), .ref m_tape, .int (nI q_taped), .int q_fault, .int q_wrong, .int q_wrongAt, .int q_spot, .int q_place, .int q_token, .int q_value, .ref m_ends, .ref m_letters, .ref m_actOf, .ref m_whom, .ref m_actMany, .ref m_tokens, .ref m_afters, .ref m_afterOf, .int q_counted, .ref m_pile, .ref m_caseMany, .ref m_happen, .ref m_hasIf, .ref m_becomes, .ref m_goneOf, .ref m_heard, .ref m_pairs, .ref m_heaps, .int q_rounds, .int q_heapMany, .ref m_led, .ref m_newAt, .ref m_knowing, .ref m_firsts, .int (nI q_people), .ref m_secrets, .ref m_tried, .ref m_lanes, .ref m_lengths, .ref m_cells])), (m_manys, .inl (E.2.1 1, 18, .inl f_manysz_19)), (m_reals, .inl (E.2.1 1, 18, .inl f_realsz_20)), (m_factsOf, .inl (E.2.1 1, 432, .inl f_factsOfz_21)), (m_possible, .inl (E.2.1 1, 1728, .inl f_possiblez_22))] 0 0 := by
          intro fu
          induction fu with
          | zero => intro k0 g_fi0 hk0 hf0 hmeas; exact absurd hmeas (Nat.not_lt_zero _)
          | succ fu ih_58 =>
            intro k0 g_fi0 hk0 hf0 hmeas
            refine ww_iload C dX12_turns_58 0 rfl ?_
            refine ww_iconst (v := 4) C dX12_turns_60 rfl ?_
            refine ww_icmp_ge (tgt := 79) C dX12_turns_61 (by decide) (fun c_33 => ?_) (fun c_33 => ?_)
            · have zc_33 : ((k0 : Nat) : Int) ≥ 4 := i_le rfl (nI_toInt (n := k0) (by omega)) c_33
              refine ww_iconst (v := 0) C dX12_turns_79 rfl ?_
              refine ww_istore (lv' := [(4, .int 0), (0, .ref hm), (1, .int v0), (2, .int v1), (3, .int v2)]) C dX12_turns_80 rfl rfl ?_
              refine ww_iconst (v := 0) C dX12_turns_82 rfl ?_
              refine ww_istore (lv' := [(5, .int 0), (4, .int 0), (0, .ref hm), (1, .int v0), (2, .int v1), (3, .int v2)]) C dX12_turns_83 rfl rfl ?_
              refine ww_iconst (v := 1) C dX12_turns_85 rfl ?_
              refine ww_istore (lv' := [(6, .int 1), (5, .int 0), (4, .int 0), (0, .ref hm), (1, .int v0), (2, .int v1), (3, .int v2)]) C dX12_turns_86 rfl rfl ?_
              have loop_88 : ∀ (fu : Nat) (mo : Nat) (tu : Nat) (wh : Int32) (gs_manys : Nat → Int32) (gs_reals : Nat → Int32) (gs_factsOf : Nat → Int32) (gs_possible : Nat → Int32) (gs_pairs : Nat → Int32) (gs_pile : Nat → Int32) (gs_knowing : Nat → Int32) (gs_newAt : Nat → Int32) (gs_firsts : Nat → Int32), (mo ≤ 1) → (cN gs_reals 1 < cN gs_manys 1) → (mo = 1 → ∀ i, i < tu → ¬ restG ((pgs f_manys f_reals f_factsOf f_possible) 0) (rEv f_caseMany f_happen f_hasIf f_actMany f_actOf f_whom f_becomes f_goneOf f_heard) (rTT f_tokens f_actMany f_actOf f_whom f_afterOf f_afters) v0 v1 i) → (mo = 0 → ∃ N, tu = N + 1 ∧ GOE ((pgs f_manys f_reals f_factsOf f_possible) 0) (rEv f_caseMany f_happen f_hasIf f_actMany f_actOf f_whom f_becomes f_goneOf f_heard) (rTT f_tokens f_actMany f_actOf f_whom f_afterOf f_afters) v0 v1 N ∧ BS wh (knS (goS ((pgs f_manys f_reals f_factsOf f_possible) 0) (rEv f_caseMany f_happen f_hasIf f_actMany f_actOf f_whom f_becomes f_goneOf f_heard) (rTT f_tokens f_actMany f_actOf f_whom f_afterOf f_afters) v0 v1 N) (rEv f_caseMany f_happen f_hasIf f_actMany f_actOf f_whom f_becomes f_goneOf f_heard) (rTT f_tokens f_actMany f_actOf f_whom f_afterOf f_afters) v0 v1 4)) → ((pgs gs_manys gs_reals gs_factsOf gs_possible) 1 = goS ((pgs f_manys f_reals f_factsOf f_possible) 0) (rEv f_caseMany f_happen f_hasIf f_actMany f_actOf f_whom f_becomes f_goneOf f_heard) (rTT f_tokens f_actMany f_actOf f_whom f_afterOf f_afters) v0 v1 tu) → (∀ k, k < 4 → gs_firsts k = fstS ((pgs f_manys f_reals f_factsOf f_possible) 0) (rEv f_caseMany f_happen f_hasIf f_actMany f_actOf f_whom f_becomes f_goneOf f_heard) (rTT f_tokens f_actMany f_actOf f_whom f_afterOf f_afters) v0 v1 k tu) → (KPA 0 (pgs f_manys f_reals f_factsOf f_possible) (pgs gs_manys gs_reals gs_factsOf gs_possible)) → (NB 18 24 gs_manys) → (NB 18 23 gs_reals) → (PG gs_manys gs_reals) → (WFP (pgs gs_manys gs_reals gs_factsOf gs_possible)) → 2 * cN gs_manys 1 + mo < fu → WW X 8 E 88 [(6, .int (nI mo)), (5, .int wh), (4, .int (nI tu)), (0, .ref hm), (1, .int v0), (2, .int v1), (3, .int v2)] [] [(m_pairs, .inl (E.2.1 1, 576, .inl gs_pairs)), (m_pile, .inl (E.2.1 1, 34, .inl gs_pile)), (m_caseMany, .inl (E.2.1 1, 4, .inl f_caseMany)), (m_happen, .inl (E.2.1 1, 4, .inl f_happen)), (m_hasIf, .inl (E.2.1 3, 16, .inl f_hasIf)), (m_becomes, .inl (E.2.1 1, 16, .inl f_becomes)), (m_goneOf, .inl (E.2.1 1, 16, .inl f_goneOf)), (m_heard, .inl (E.2.1 1, 64, .inl f_heard)), (m_actMany, .inl (E.2.1 1, 25, .inl f_actMany)), (m_actOf, .inl (E.2.1 1, 800, .inl f_actOf)), (m_whom, .inl (E.2.1 1, 800, .inl f_whom)), (m_afters, .inl (E.2.1 1, 9, .inl f_afters)), (m_afterOf, .inl (E.2.1 1, 18, .inl f_afterOf)), (m_knowing, .inl (E.2.1 1, 4, .inl gs_knowing)), (m_newAt, .inl (E.2.1 1, 24, .inl gs_newAt)), (m_firsts, .inl (E.2.1 1, 4, .inl gs_firsts)), (m_tokens, .inl (E.2.1 1, 9, .inl f_tokens)), (hm, .inr (12, [.ref m_manys, .ref m_reals, .ref m_factsOf, .ref m_possible, .int (nI q_undos), .int (nI q_models), .ref m_tape, .int (nI q_taped), .int q_fault, .int q_wrong, .int q_wrongAt, .int q_spot, .int q_place, .int q_token, .int q_value, .ref m_ends, .ref m_letters, .ref m_actOf, .ref m_whom, .ref m_actMany, .ref m_tokens, .ref m_afters, .ref m_afterOf, .int q_counted, .ref m_pile, .ref m_caseMany, .ref m_happen, .ref m_hasIf, .ref m_becomes, .ref m_goneOf, .ref m_heard, .ref m_pairs, .ref m_heaps, .int q_rounds, .int q_heapMany, .ref m_led, .ref m_newAt, .ref m_knowing, .ref m_firsts, .int (nI q_people), .ref m_secrets, .ref m_tried, .ref m_lanes, .ref m_lengths, .ref m_cells])), (m_manys, .inl (E.2.1 1, 18, .inl gs_manys)), (m_reals, .inl (E.2.1 1, 18, .inl gs_reals)), (m_factsOf, .inl (E.2.1 1, 432, .inl gs_factsOf)), (m_possible, .inl (E.2.1 1, 1728, .inl gs_possible))] 0 0 := by
                intro fu
                induction fu with
                | zero => intro mo tu wh gs_manys gs_reals gs_factsOf gs_possible gs_pairs gs_pile gs_knowing gs_newAt gs_firsts hmo hrm hmo1 hmo0 hg hfi hoth hnb_m_manys_88 hnb_m_reals_88 hpg_88 hwf_88 hmeas; exact absurd hmeas (Nat.not_lt_zero _)
                | succ fu ih_88 =>
                  intro mo tu wh gs_manys gs_reals gs_factsOf gs_possible gs_pairs gs_pile gs_knowing gs_newAt gs_firsts hmo hrm hmo1 hmo0 hg hfi hoth hnb_m_manys_88 hnb_m_reals_88 hpg_88 hwf_88 hmeas
                  refine ww_iload C dX12_turns_88 0 rfl ?_
                  refine ww_if_eq (tgt := 201) C dX12_turns_90 (by decide) (fun c_34 => ?_) (fun c_34 => ?_)
                  · have zc_34 : ((mo : Nat) : Int) = 0 := i_eq (nI_toInt (n := mo) (by omega)) rfl c_34
                    obtain ⟨N, hN, hgoe, hknN⟩ := hmo0 (by omega)
                    subst hN
                    refine ww_iload_n C dX12_turns_201 6 rfl rfl ?_
                    refine ww_if_ne (tgt := 210) C dX12_turns_202 (by decide) (fun c_35 => ?_) (fun c_35 => ?_)
                    · have zc_35 : v2.toInt ≠ 0 := i_ne rfl rfl c_35
                      refine ww_iload_n C dX12_turns_210 6 rfl rfl ?_
                      refine ww_iconst (v := 1) C dX12_turns_211 rfl ?_
                      refine ww_icmp_ne (tgt := 224) C dX12_turns_212 (by decide) (fun c_36 => ?_) (fun c_36 => ?_)
                      · have zc_36 : v2.toInt ≠ 1 := i_ne rfl rfl c_36
                        refine ww_iload_n C dX12_turns_224 6 rfl rfl ?_
                        refine ww_iconst (v := 2) C dX12_turns_225 rfl ?_
                        refine ww_icmp_ne (tgt := 234) C dX12_turns_226 (by decide) (fun c_37 => ?_) (fun c_37 => ?_)
                        · have zc_37 : v2.toInt ≠ 2 := i_ne rfl rfl c_37
                          omega
                        · have zc_37 : v2.toInt = 2 := i_eq rfl rfl c_37
                          refine ww_iload C dX12_turns_229 1 rfl ?_
                          refine ww_goto (tgt := 243) C dX12_turns_231 (by decide) ?_
                          exact ww_iret (u := [(hm, .inr (12, [.ref m_manys, .ref m_reals, .ref m_factsOf, .ref m_possible, .int (nI q_undos), .int (nI q_models), .ref m_tape, .int (nI q_taped), .int q_fault, .int q_wrong, .int q_wrongAt, .int q_spot, .int q_place, .int q_token, .int q_value, .ref m_ends, .ref m_letters, .ref m_actOf, .ref m_whom, .ref m_actMany, .ref m_tokens, .ref m_afters, .ref m_afterOf, .int q_counted, .ref m_pile, .ref m_caseMany, .ref m_happen, .ref m_hasIf, .ref m_becomes, .ref m_goneOf, .ref m_heard, .ref m_pairs, .ref m_heaps, .int q_rounds, .int q_heapMany, .ref m_led, .ref m_newAt, .ref m_knowing, .ref m_firsts, .int (nI q_people), .ref m_secrets, .ref m_tried, .ref m_lanes, .ref m_lengths, .ref m_cells])), (m_manys, .inl (E.2.1 1, 18, .inl gs_manys)), (m_reals, .inl (E.2.1 1, 18, .inl gs_reals)), (m_factsOf, .inl (E.2.1 1, 432, .inl gs_factsOf)), (m_possible, .inl (E.2.1 1, 1728, .inl gs_possible)), (m_pairs, .inl (E.2.1 1, 576, .inl gs_pairs)), (m_pile, .inl (E.2.1 1, 34, .inl gs_pile)), (m_caseMany, .inl (E.2.1 1, 4, .inl f_caseMany)), (m_happen, .inl (E.2.1 1, 4, .inl f_happen)), (m_hasIf, .inl (E.2.1 3, 16, .inl f_hasIf)), (m_becomes, .inl (E.2.1 1, 16, .inl f_becomes)), (m_goneOf, .inl (E.2.1 1, 16, .inl f_goneOf)), (m_heard, .inl (E.2.1 1, 64, .inl f_heard)), (m_actMany, .inl (E.2.1 1, 25, .inl f_actMany)), (m_actOf, .inl (E.2.1 1, 800, .inl f_actOf)), (m_whom, .inl (E.2.1 1, 800, .inl f_whom)), (m_afters, .inl (E.2.1 1, 9, .inl f_afters)), (m_afterOf, .inl (E.2.1 1, 18, .inl f_afterOf)), (m_knowing, .inl (E.2.1 1, 4, .inl gs_knowing)), (m_newAt, .inl (E.2.1 1, 24, .inl gs_newAt)), (m_firsts, .inl (E.2.1 1, 4, .inl gs_firsts)), (m_tokens, .inl (E.2.1 1, 9, .inl f_tokens))]) C hT [17, 18, 19, 20, 21, 0, 1, 2, 3, 4, 5, 6, 7, 8, 9, 10, 11, 12, 13, 14, 15, 16] (gqk (by eq_refl)) (ndk (by decide +kernel)) rfl rfl dX12_turns_243 (⟨gs_manys, gs_reals, gs_factsOf, gs_possible, gs_pairs, gs_pile, gs_knowing, gs_newAt, gs_firsts, rfl, hnb_m_manys_88, hnb_m_reals_88, hpg_88, hwf_88, (Or.inr (Or.inr ⟨by omega, can_TT h_2, show cN f_manys 0 ≠ 0 by omega, N, hgoe, by rw [if_neg (by omega), if_neg (by omega), if_pos (by omega)]; exact BS.of hknN⟩)), hoth⟩)
                      · have zc_36 : v2.toInt = 1 := i_eq rfl rfl c_36
                        refine ww_aload_n C dX12_turns_215 3 rfl rfl ?_
                        refine ww_get C fg_X12_7 17 rfl rfl dX12_turns_216 ?_
                        refine ww_iconst (v := 1) C dX12_turns_219 rfl ?_
                        have hbx_38 := (hnb_m_manys_88 1 (by omega)).2
                        refine ww_iald (v := (nI (cN gs_manys 1))) C 18 rfl (vin rfl) (hnb_m_manys_88 1 (by omega)).1 dX12_turns_220 ?_
                        refine ww_goto (tgt := 243) C dX12_turns_221 (by decide) ?_
                        exact ww_iret (u := [(hm, .inr (12, [.ref m_manys, .ref m_reals, .ref m_factsOf, .ref m_possible, .int (nI q_undos), .int (nI q_models), .ref m_tape, .int (nI q_taped), .int q_fault, .int q_wrong, .int q_wrongAt, .int q_spot, .int q_place, .int q_token, .int q_value, .ref m_ends, .ref m_letters, .ref m_actOf, .ref m_whom, .ref m_actMany, .ref m_tokens, .ref m_afters, .ref m_afterOf, .int q_counted, .ref m_pile, .ref m_caseMany, .ref m_happen, .ref m_hasIf, .ref m_becomes, .ref m_goneOf, .ref m_heard, .ref m_pairs, .ref m_heaps, .int q_rounds, .int q_heapMany, .ref m_led, .ref m_newAt, .ref m_knowing, .ref m_firsts, .int (nI q_people), .ref m_secrets, .ref m_tried, .ref m_lanes, .ref m_lengths, .ref m_cells])), (m_manys, .inl (E.2.1 1, 18, .inl gs_manys)), (m_reals, .inl (E.2.1 1, 18, .inl gs_reals)), (m_factsOf, .inl (E.2.1 1, 432, .inl gs_factsOf)), (m_possible, .inl (E.2.1 1, 1728, .inl gs_possible)), (m_pairs, .inl (E.2.1 1, 576, .inl gs_pairs)), (m_pile, .inl (E.2.1 1, 34, .inl gs_pile)), (m_caseMany, .inl (E.2.1 1, 4, .inl f_caseMany)), (m_happen, .inl (E.2.1 1, 4, .inl f_happen)), (m_hasIf, .inl (E.2.1 3, 16, .inl f_hasIf)), (m_becomes, .inl (E.2.1 1, 16, .inl f_becomes)), (m_goneOf, .inl (E.2.1 1, 16, .inl f_goneOf)), (m_heard, .inl (E.2.1 1, 64, .inl f_heard)), (m_actMany, .inl (E.2.1 1, 25, .inl f_actMany)), (m_actOf, .inl (E.2.1 1, 800, .inl f_actOf)), (m_whom, .inl (E.2.1 1, 800, .inl f_whom)), (m_afters, .inl (E.2.1 1, 9, .inl f_afters)), (m_afterOf, .inl (E.2.1 1, 18, .inl f_afterOf)), (m_knowing, .inl (E.2.1 1, 4, .inl gs_knowing)), (m_newAt, .inl (E.2.1 1, 24, .inl gs_newAt)), (m_firsts, .inl (E.2.1 1, 4, .inl gs_firsts)), (m_tokens, .inl (E.2.1 1, 9, .inl f_tokens))]) C hT [17, 18, 19, 20, 21, 0, 1, 2, 3, 4, 5, 6, 7, 8, 9, 10, 11, 12, 13, 14, 15, 16] (gqk (by eq_refl)) (ndk (by decide +kernel)) rfl rfl dX12_turns_243 (⟨gs_manys, gs_reals, gs_factsOf, gs_possible, gs_pairs, gs_pile, gs_knowing, gs_newAt, gs_firsts, rfl, hnb_m_manys_88, hnb_m_reals_88, hpg_88, hwf_88, (Or.inr (Or.inr ⟨by omega, can_TT h_2, show cN f_manys 0 ≠ 0 by omega, N, hgoe, by rw [if_neg (by omega), if_pos (by omega)]; exact congrArg nI (congrArg (fun m : AM => m.1) hg)⟩)), hoth⟩)
                    · have zc_35 : v2.toInt = 0 := i_eq rfl rfl c_35
                      refine ww_iload C dX12_turns_205 2 rfl ?_
                      refine ww_goto (tgt := 243) C dX12_turns_207 (by decide) ?_
                      exact ww_iret (u := [(hm, .inr (12, [.ref m_manys, .ref m_reals, .ref m_factsOf, .ref m_possible, .int (nI q_undos), .int (nI q_models), .ref m_tape, .int (nI q_taped), .int q_fault, .int q_wrong, .int q_wrongAt, .int q_spot, .int q_place, .int q_token, .int q_value, .ref m_ends, .ref m_letters, .ref m_actOf, .ref m_whom, .ref m_actMany, .ref m_tokens, .ref m_afters, .ref m_afterOf, .int q_counted, .ref m_pile, .ref m_caseMany, .ref m_happen, .ref m_hasIf, .ref m_becomes, .ref m_goneOf, .ref m_heard, .ref m_pairs, .ref m_heaps, .int q_rounds, .int q_heapMany, .ref m_led, .ref m_newAt, .ref m_knowing, .ref m_firsts, .int (nI q_people), .ref m_secrets, .ref m_tried, .ref m_lanes, .ref m_lengths, .ref m_cells])), (m_manys, .inl (E.2.1 1, 18, .inl gs_manys)), (m_reals, .inl (E.2.1 1, 18, .inl gs_reals)), (m_factsOf, .inl (E.2.1 1, 432, .inl gs_factsOf)), (m_possible, .inl (E.2.1 1, 1728, .inl gs_possible)), (m_pairs, .inl (E.2.1 1, 576, .inl gs_pairs)), (m_pile, .inl (E.2.1 1, 34, .inl gs_pile)), (m_caseMany, .inl (E.2.1 1, 4, .inl f_caseMany)), (m_happen, .inl (E.2.1 1, 4, .inl f_happen)), (m_hasIf, .inl (E.2.1 3, 16, .inl f_hasIf)), (m_becomes, .inl (E.2.1 1, 16, .inl f_becomes)), (m_goneOf, .inl (E.2.1 1, 16, .inl f_goneOf)), (m_heard, .inl (E.2.1 1, 64, .inl f_heard)), (m_actMany, .inl (E.2.1 1, 25, .inl f_actMany)), (m_actOf, .inl (E.2.1 1, 800, .inl f_actOf)), (m_whom, .inl (E.2.1 1, 800, .inl f_whom)), (m_afters, .inl (E.2.1 1, 9, .inl f_afters)), (m_afterOf, .inl (E.2.1 1, 18, .inl f_afterOf)), (m_knowing, .inl (E.2.1 1, 4, .inl gs_knowing)), (m_newAt, .inl (E.2.1 1, 24, .inl gs_newAt)), (m_firsts, .inl (E.2.1 1, 4, .inl gs_firsts)), (m_tokens, .inl (E.2.1 1, 9, .inl f_tokens))]) C hT [17, 18, 19, 20, 21, 0, 1, 2, 3, 4, 5, 6, 7, 8, 9, 10, 11, 12, 13, 14, 15, 16] (gqk (by eq_refl)) (ndk (by decide +kernel)) rfl rfl dX12_turns_243 (⟨gs_manys, gs_reals, gs_factsOf, gs_possible, gs_pairs, gs_pile, gs_knowing, gs_newAt, gs_firsts, rfl, hnb_m_manys_88, hnb_m_reals_88, hpg_88, hwf_88, (Or.inr (Or.inr ⟨by omega, can_TT h_2, show cN f_manys 0 ≠ 0 by omega, N, hgoe, by rw [if_pos (by omega)]⟩)), hoth⟩)
                  · have zc_34 : ((mo : Nat) : Int) ≠ 0 := i_ne (nI_toInt (n := mo) (by omega)) rfl c_34
                    refine ww_iinc (j := 2) (v := (nI (tu + 1))) (lv' := [(4, .int (nI (tu + 1))), (6, .int (nI mo)), (5, .int wh), (0, .ref hm), (1, .int v0), (2, .int v1), (3, .int v2)]) C dX12_turns_93 rfl (nI_add tu 1) rfl rfl ?_
                    refine ww_aload_n C dX12_turns_96 3 rfl rfl ?_
                    refine ww_iconst (v := 1) C dX12_turns_97 rfl ?_
                    refine ww_iload_n C dX12_turns_98 4 rfl rfl ?_
                    refine ww_iload_n C dX12_turns_99 5 rfl rfl ?_
                    refine ww_ci (wr := [(m_newAt, .inl (E.2.1 1, 24, .inl gs_newAt)), (m_firsts, .inl (E.2.1 1, 4, .inl gs_firsts)), (m_tokens, .inl (E.2.1 1, 9, .inl f_tokens))]) (k' := 0) (n' := 0) C (run_V (As := [.int 1, .int v0, .int v1]) (rest := []) C (r_layKnowing X.2.1 E ro hm 1 v0 v1 m_manys m_reals m_factsOf m_possible q_undos q_models m_tape q_taped q_fault q_wrong q_wrongAt q_spot q_place q_token q_value m_ends m_letters m_actOf m_whom m_actMany m_tokens m_afters m_afterOf q_counted m_pile m_caseMany m_happen m_hasIf m_becomes m_goneOf m_heard m_pairs m_heaps q_rounds q_heapMany m_led m_newAt m_knowing m_firsts q_people m_secrets m_tried m_lanes m_lengths m_cells gs_manys gs_reals gs_factsOf gs_possible gs_pairs gs_pile f_caseMany f_happen f_hasIf f_becomes f_goneOf f_heard f_actMany f_actOf f_whom f_afters f_afterOf gs_knowing (rTT f_tokens f_actMany f_actOf f_whom f_afterOf f_afters) hnb_m_manys_88 hnb_m_reals_88 hpg_88 hwf_88 hb_caseMany hb_happen hb_actMany hhp hsv hb_afters hb_afterOf (by omega) hWI (tq_of h_2 hWT)) mi_X12_layKnowing wl_X12_315 rfl 0 12 rfl rfl rfl rfl rfl dX12_turns_100) (roK hro) [17, 18, 19, 20, 21, 0, 1, 2, 3, 4, 5, 6, 7, 8, 9, 10, 11, 12, 13] [14, 15, 16] (gqk (by eq_refl)) rfl (plk (by decide +kernel)) rfl (fun r_39 uz hw => ?_)
                    refine ex7 hw ?_
                    clear hw
                    intro f_manysz_40 f_realsz_41 f_factsOfz_42 f_possiblez_43 f_pairsz_44 f_pilez_45 f_knowingz_46 hw
                    refine an8 hw ?_
                    clear hw
                    intro he_56 h_47 h_48 h_49 h_50 h_51 h_52 h_53 hw
                    refine an1 hw ?_
                    clear hw
                    intro h_54 hw
                    have h_55 := hw
                    clear hw
                    subst he_56
                    refine ww_eq (ws' := [(m_newAt, .inl (E.2.1 1, 24, .inl gs_newAt)), (m_firsts, .inl (E.2.1 1, 4, .inl gs_firsts)), (m_tokens, .inl (E.2.1 1, 9, .inl f_tokens)), (hm, .inr (12, [.ref m_manys, .ref m_reals, .ref m_factsOf, .ref m_possible, .int (nI q_undos), .int (nI q_models), .ref m_tape, .int (nI q_taped), .int q_fault, .int q_wrong, .int q_wrongAt, .int q_spot, .int q_place, .int q_token, .int q_value, .ref m_ends, .ref m_letters, .ref m_actOf, .ref m_whom, .ref m_actMany, .ref m_tokens, .ref m_afters, .ref m_afterOf, .int q_counted, .ref m_pile, .ref m_caseMany, .ref m_happen, .ref m_hasIf, .ref m_becomes, .ref m_goneOf, .ref m_heard, .ref m_pairs, .ref m_heaps, .int q_rounds, .int q_heapMany, .ref m_led, .ref m_newAt, .ref m_knowing, .ref m_firsts, .int (nI q_people), .ref m_secrets, .ref m_tried, .ref m_lanes, .ref m_lengths, .ref m_cells])), (m_manys, .inl (E.2.1 1, 18, .inl f_manysz_40)), (m_reals, .inl (E.2.1 1, 18, .inl f_realsz_41)), (m_factsOf, .inl (E.2.1 1, 432, .inl f_factsOfz_42)), (m_possible, .inl (E.2.1 1, 1728, .inl f_possiblez_43)), (m_pairs, .inl (E.2.1 1, 576, .inl f_pairsz_44)), (m_pile, .inl (E.2.1 1, 34, .inl f_pilez_45)), (m_caseMany, .inl (E.2.1 1, 4, .inl f_caseMany)), (m_happen, .inl (E.2.1 1, 4, .inl f_happen)), (m_hasIf, .inl (E.2.1 3, 16, .inl f_hasIf)), (m_becomes, .inl (E.2.1 1, 16, .inl f_becomes)), (m_goneOf, .inl (E.2.1 1, 16, .inl f_goneOf)), (m_heard, .inl (E.2.1 1, 64, .inl f_heard)), (m_actMany, .inl (E.2.1 1, 25, .inl f_actMany)), (m_actOf, .inl (E.2.1 1, 800, .inl f_actOf)), (m_whom, .inl (E.2.1 1, 800, .inl f_whom)), (m_afters, .inl (E.2.1 1, 9, .inl f_afters)), (m_afterOf, .inl (E.2.1 1, 18, .inl f_afterOf)), (m_knowing, .inl (E.2.1 1, 4, .inl f_knowingz_46))]) ?_ rfl rfl rfl
                    have hl0 := KP.at h_51 (p := 1) (by omega)
                    have hl1 := KP.at h_52 (p := 1) (by omega)
                    have hlb := (h_47 1 (by omega)).2
                    have hP1 : (pgs f_manysz_40 f_realsz_41 f_factsOfz_42 f_possiblez_43) 1 = (pgs gs_manys gs_reals gs_factsOf gs_possible) 1 := h_55 1 (by omega) (Or.inl (Nat.le_refl _))
                    have hga : (pgs f_manysz_40 f_realsz_41 f_factsOfz_42 f_possiblez_43) 1 = goS ((pgs f_manys f_reals f_factsOf f_possible) 0) (rEv f_caseMany f_happen f_hasIf f_actMany f_actOf f_whom f_becomes f_goneOf f_heard) (rTT f_tokens f_actMany f_actOf f_whom f_afterOf f_afters) v0 v1 tu := hP1.trans hg
                    have hknq : BS r_39 (knS (goS ((pgs f_manys f_reals f_factsOf f_possible) 0) (rEv f_caseMany f_happen f_hasIf f_actMany f_actOf f_whom f_becomes f_goneOf f_heard) (rTT f_tokens f_actMany f_actOf f_whom f_afterOf f_afters) v0 v1 tu) (rEv f_caseMany f_happen f_hasIf f_actMany f_actOf f_whom f_becomes f_goneOf f_heard) (rTT f_tokens f_actMany f_actOf f_whom f_afterOf f_afters) v0 v1 4) := by rw [← hg]; exact h_53
                    have hw1_ := h_50 1 (by omega)
                    refine ww_istore (lv' := [(5, .int r_39), (4, .int (nI (tu + 1))), (6, .int (nI mo)), (0, .ref hm), (1, .int v0), (2, .int v1), (3, .int v2)]) C dX12_turns_103 rfl rfl ?_
                    refine ww_iconst (v := 0) C dX12_turns_105 rfl ?_
                    refine ww_istore (lv' := [(7, .int 0), (5, .int r_39), (4, .int (nI (tu + 1))), (6, .int (nI mo)), (0, .ref hm), (1, .int v0), (2, .int v1), (3, .int v2)]) C dX12_turns_106 rfl rfl ?_
                    have loop_108 : ∀ (fu : Nat) (k7 : Nat) (g_fi7 : Nat → Int32), (k7 ≤ 4) → (∀ k', k' < 4 → g_fi7 k' = if k' < k7 then fstS ((pgs f_manys f_reals f_factsOf f_possible) 0) (rEv f_caseMany f_happen f_hasIf f_actMany f_actOf f_whom f_becomes f_goneOf f_heard) (rTT f_tokens f_actMany f_actOf f_whom f_afterOf f_afters) v0 v1 k' (tu + 1) else fstS ((pgs f_manys f_reals f_factsOf f_possible) 0) (rEv f_caseMany f_happen f_hasIf f_actMany f_actOf f_whom f_becomes f_goneOf f_heard) (rTT f_tokens f_actMany f_actOf f_whom f_afterOf f_afters) v0 v1 k' tu) → 4 - k7 < fu → WW X 8 E 108 [(7, .int (nI k7)), (5, .int r_39), (4, .int (nI (tu + 1))), (6, .int (nI mo)), (0, .ref hm), (1, .int v0), (2, .int v1), (3, .int v2)] [] [(m_newAt, .inl (E.2.1 1, 24, .inl gs_newAt)), (m_firsts, .inl (E.2.1 1, 4, .inl g_fi7)), (m_tokens, .inl (E.2.1 1, 9, .inl f_tokens)), (hm, .inr (12, [.ref m_manys, .ref m_reals, .ref m_factsOf, .ref m_possible, .int (nI q_undos), .int (nI q_models), .ref m_tape, .int (nI q_taped), .int q_fault, .int q_wrong, .int q_wrongAt, .int q_spot, .int q_place, .int q_token, .int q_value, .ref m_ends, .ref m_letters, .ref m_actOf, .ref m_whom, .ref m_actMany, .ref m_tokens, .ref m_afters, .ref m_afterOf, .int q_counted, .ref m_pile, .ref m_caseMany, .ref m_happen, .ref m_hasIf, .ref m_becomes, .ref m_goneOf, .ref m_heard, .ref m_pairs, .ref m_heaps, .int q_rounds, .int q_heapMany, .ref m_led, .ref m_newAt, .ref m_knowing, .ref m_firsts, .int (nI q_people), .ref m_secrets, .ref m_tried, .ref m_lanes, .ref m_lengths, .ref m_cells])), (m_manys, .inl (E.2.1 1, 18, .inl f_manysz_40)), (m_reals, .inl (E.2.1 1, 18, .inl f_realsz_41)), (m_factsOf, .inl (E.2.1 1, 432, .inl f_factsOfz_42)), (m_possible, .inl (E.2.1 1, 1728, .inl f_possiblez_43)), (m_pairs, .inl (E.2.1 1, 576, .inl f_pairsz_44)), (m_pile, .inl (E.2.1 1, 34, .inl f_pilez_45)), (m_caseMany, .inl (E.2.1 1, 4, .inl f_caseMany)), (m_happen, .inl (E.2.1 1, 4, .inl f_happen)), (m_hasIf, .inl (E.2.1 3, 16, .inl f_hasIf)), (m_becomes, .inl (E.2.1 1, 16, .inl f_becomes)), (m_goneOf, .inl (E.2.1 1, 16, .inl f_goneOf)), (m_heard, .inl (E.2.1 1, 64, .inl f_heard)), (m_actMany, .inl (E.2.1 1, 25, .inl f_actMany)), (m_actOf, .inl (E.2.1 1, 800, .inl f_actOf)), (m_whom, .inl (E.2.1 1, 800, .inl f_whom)), (m_afters, .inl (E.2.1 1, 9, .inl f_afters)), (m_afterOf, .inl (E.2.1 1, 18, .inl f_afterOf)), (m_knowing, .inl (E.2.1 1, 4, .inl f_knowingz_46))] 0 0 := by
                      intro fu
                      induction fu with
                      | zero => intro k7 g_fi7 hk7 hfi7 hmeas; exact absurd hmeas (Nat.not_lt_zero _)
                      | succ fu ih_108 =>
                        intro k7 g_fi7 hk7 hfi7 hmeas
                        refine ww_iload C dX12_turns_108 0 rfl ?_
                        refine ww_iconst (v := 4) C dX12_turns_110 rfl ?_
                        refine ww_icmp_ge (tgt := 162) C dX12_turns_111 (by decide) (fun c_57 => ?_) (fun c_57 => ?_)
                        · have zc_57 : ((k7 : Nat) : Int) ≥ 4 := i_le rfl (nI_toInt (n := k7) (by omega)) c_57
                          refine ww_aload_n C dX12_turns_162 4 rfl rfl ?_
                          refine ww_iconst (v := 1) C dX12_turns_163 rfl ?_
                          refine ww_iload_n C dX12_turns_164 5 rfl rfl ?_
                          refine ww_ci (wr := [(m_newAt, .inl (E.2.1 1, 24, .inl gs_newAt)), (m_firsts, .inl (E.2.1 1, 4, .inl g_fi7)), (m_tokens, .inl (E.2.1 1, 9, .inl f_tokens)), (m_factsOf, .inl (E.2.1 1, 432, .inl f_factsOfz_42)), (m_possible, .inl (E.2.1 1, 1728, .inl f_possiblez_43)), (m_pairs, .inl (E.2.1 1, 576, .inl f_pairsz_44)), (m_pile, .inl (E.2.1 1, 34, .inl f_pilez_45)), (m_caseMany, .inl (E.2.1 1, 4, .inl f_caseMany)), (m_happen, .inl (E.2.1 1, 4, .inl f_happen)), (m_hasIf, .inl (E.2.1 3, 16, .inl f_hasIf)), (m_becomes, .inl (E.2.1 1, 16, .inl f_becomes)), (m_goneOf, .inl (E.2.1 1, 16, .inl f_goneOf)), (m_heard, .inl (E.2.1 1, 64, .inl f_heard)), (m_actMany, .inl (E.2.1 1, 25, .inl f_actMany)), (m_actOf, .inl (E.2.1 1, 800, .inl f_actOf)), (m_whom, .inl (E.2.1 1, 800, .inl f_whom)), (m_afters, .inl (E.2.1 1, 9, .inl f_afters)), (m_afterOf, .inl (E.2.1 1, 18, .inl f_afterOf))]) (k' := 0) (n' := 0) C (run_V (As := [.int 1, .int v0]) (rest := []) C (r_staying X.2.1 E ro hm 1 v0 m_manys m_reals m_factsOf m_possible q_undos q_models m_tape q_taped q_fault q_wrong q_wrongAt q_spot q_place q_token q_value m_ends m_letters m_actOf m_whom m_actMany m_tokens m_afters m_afterOf q_counted m_pile m_caseMany m_happen m_hasIf m_becomes m_goneOf m_heard m_pairs m_heaps q_rounds q_heapMany m_led m_newAt m_knowing m_firsts q_people m_secrets m_tried m_lanes m_lengths m_cells f_manysz_40 f_realsz_41 f_knowingz_46 ((pgs f_manysz_40 f_realsz_41 f_factsOfz_42 f_possiblez_43) 1) (rEv f_caseMany f_happen f_hasIf f_actMany f_actOf f_whom f_becomes f_goneOf f_heard) (rTT f_tokens f_actMany f_actOf f_whom f_afterOf f_afters) v1 h_47 h_48 h_49 (by omega) rfl rfl (fun j hj hb => by rw [hP1]; exact h_54 j hj hb) (tq_ask h_2 hWT)) mi_X12_staying wl_X12_318 rfl 0 12 rfl rfl rfl rfl rfl dX12_turns_165) (roK hro) [3, 4, 5, 21] [0, 1, 2, 6, 7, 8, 9, 10, 11, 12, 13, 14, 15, 16, 17, 18, 19, 20] rfl (gqk (by eq_refl)) (plk (by decide +kernel)) rfl (fun r_58 uz hw => ?_)
                          refine an1 hw ?_
                          clear hw
                          intro he_60 hw
                          have h_59 := hw
                          clear hw
                          subst he_60
                          refine ww_eq (ws' := [(m_newAt, .inl (E.2.1 1, 24, .inl gs_newAt)), (m_firsts, .inl (E.2.1 1, 4, .inl g_fi7)), (m_tokens, .inl (E.2.1 1, 9, .inl f_tokens)), (m_factsOf, .inl (E.2.1 1, 432, .inl f_factsOfz_42)), (m_possible, .inl (E.2.1 1, 1728, .inl f_possiblez_43)), (m_pairs, .inl (E.2.1 1, 576, .inl f_pairsz_44)), (m_pile, .inl (E.2.1 1, 34, .inl f_pilez_45)), (m_caseMany, .inl (E.2.1 1, 4, .inl f_caseMany)), (m_happen, .inl (E.2.1 1, 4, .inl f_happen)), (m_hasIf, .inl (E.2.1 3, 16, .inl f_hasIf)), (m_becomes, .inl (E.2.1 1, 16, .inl f_becomes)), (m_goneOf, .inl (E.2.1 1, 16, .inl f_goneOf)), (m_heard, .inl (E.2.1 1, 64, .inl f_heard)), (m_actMany, .inl (E.2.1 1, 25, .inl f_actMany)), (m_actOf, .inl (E.2.1 1, 800, .inl f_actOf)), (m_whom, .inl (E.2.1 1, 800, .inl f_whom)), (m_afters, .inl (E.2.1 1, 9, .inl f_afters)), (m_afterOf, .inl (E.2.1 1, 18, .inl f_afterOf)), (hm, .inr (12, [.ref m_manys, .ref m_reals, .ref m_factsOf, .ref m_possible, .int (nI q_undos), .int (nI q_models), .ref m_tape, .int (nI q_taped), .int q_fault, .int q_wrong, .int q_wrongAt, .int q_spot, .int q_place, .int q_token, .int q_value, .ref m_ends, .ref m_letters, .ref m_actOf, .ref m_whom, .ref m_actMany, .ref m_tokens, .ref m_afters, .ref m_afterOf, .int q_counted, .ref m_pile, .ref m_caseMany, .ref m_happen, .ref m_hasIf, .ref m_becomes, .ref m_goneOf, .ref m_heard, .ref m_pairs, .ref m_heaps, .int q_rounds, .int q_heapMany, .ref m_led, .ref m_newAt, .ref m_knowing, .ref m_firsts, .int (nI q_people), .ref m_secrets, .ref m_tried, .ref m_lanes, .ref m_lengths, .ref m_cells])), (m_manys, .inl (E.2.1 1, 18, .inl f_manysz_40)), (m_reals, .inl (E.2.1 1, 18, .inl f_realsz_41)), (m_knowing, .inl (E.2.1 1, 4, .inl f_knowingz_46))]) ?_ rfl rfl rfl
                          have hst1 := h_59
                          refine ww_istore (lv' := [(7, .int r_58), (5, .int r_39), (4, .int (nI (tu + 1))), (6, .int (nI mo)), (0, .ref hm), (1, .int v0), (2, .int v1), (3, .int v2)]) C dX12_turns_168 rfl rfl ?_
                          refine ww_iload C dX12_turns_170 0 rfl ?_
                          refine ww_aload_n C dX12_turns_172 4 rfl rfl ?_
                          refine ww_get C fg_X12_7 18 rfl rfl dX12_turns_173 ?_
                          refine ww_iconst (v := 1) C dX12_turns_176 rfl ?_
                          have hbx_61 := (h_47 1 (by omega)).2
                          refine ww_iald (v := (nI (cN f_manysz_40 1))) C 19 rfl (vin rfl) (h_47 1 (by omega)).1 dX12_turns_177 ?_
                          refine ww_ci (wr := [(m_newAt, .inl (E.2.1 1, 24, .inl gs_newAt)), (m_firsts, .inl (E.2.1 1, 4, .inl g_fi7)), (m_tokens, .inl (E.2.1 1, 9, .inl f_tokens)), (m_factsOf, .inl (E.2.1 1, 432, .inl f_factsOfz_42)), (m_possible, .inl (E.2.1 1, 1728, .inl f_possiblez_43)), (m_pairs, .inl (E.2.1 1, 576, .inl f_pairsz_44)), (m_pile, .inl (E.2.1 1, 34, .inl f_pilez_45)), (m_caseMany, .inl (E.2.1 1, 4, .inl f_caseMany)), (m_happen, .inl (E.2.1 1, 4, .inl f_happen)), (m_hasIf, .inl (E.2.1 3, 16, .inl f_hasIf)), (m_becomes, .inl (E.2.1 1, 16, .inl f_becomes)), (m_goneOf, .inl (E.2.1 1, 16, .inl f_goneOf)), (m_heard, .inl (E.2.1 1, 64, .inl f_heard)), (m_actMany, .inl (E.2.1 1, 25, .inl f_actMany)), (m_actOf, .inl (E.2.1 1, 800, .inl f_actOf)), (m_whom, .inl (E.2.1 1, 800, .inl f_whom)), (m_afters, .inl (E.2.1 1, 9, .inl f_afters)), (m_afterOf, .inl (E.2.1 1, 18, .inl f_afterOf)), (hm, .inr (12, [.ref m_manys, .ref m_reals, .ref m_factsOf, .ref m_possible, .int (nI q_undos), .int (nI q_models), .ref m_tape, .int (nI q_taped), .int q_fault, .int q_wrong, .int q_wrongAt, .int q_spot, .int q_place, .int q_token, .int q_value, .ref m_ends, .ref m_letters, .ref m_actOf, .ref m_whom, .ref m_actMany, .ref m_tokens, .ref m_afters, .ref m_afterOf, .int q_counted, .ref m_pile, .ref m_caseMany, .ref m_happen, .ref m_hasIf, .ref m_becomes, .ref m_goneOf, .ref m_heard, .ref m_pairs, .ref m_heaps, .int q_rounds, .int q_heapMany, .ref m_led, .ref m_newAt, .ref m_knowing, .ref m_firsts, .int (nI q_people), .ref m_secrets, .ref m_tried, .ref m_lanes, .ref m_lengths, .ref m_cells])), (m_manys, .inl (E.2.1 1, 18, .inl f_manysz_40)), (m_reals, .inl (E.2.1 1, 18, .inl f_realsz_41)), (m_knowing, .inl (E.2.1 1, 4, .inl f_knowingz_46))]) (k' := 0) (n' := 0) C (run_S (As := [.int (nI (cN f_manysz_40 1))]) (rest := [.int r_58]) C (r_all X.2.1 E ro (cN f_manysz_40 1) (by omega)) ms_X12_all wl_X12_230 rfl rfl rfl rfl dX12_turns_178) (roK hro) [] [0, 1, 2, 3, 4, 5, 6, 7, 8, 9, 10, 11, 12, 13, 14, 15, 16, 17, 18, 19, 20, 21] rfl (gqk (by eq_refl)) (plk (by decide +kernel)) rfl (fun r_62 uz hw => ?_)
                          refine an1 hw ?_
                          clear hw
                          intro he_64 hw
                          have h_63 := hw
                          clear hw
                          subst he_64
                          refine ww_eq (ws' := [(m_newAt, .inl (E.2.1 1, 24, .inl gs_newAt)), (m_firsts, .inl (E.2.1 1, 4, .inl g_fi7)), (m_tokens, .inl (E.2.1 1, 9, .inl f_tokens)), (m_factsOf, .inl (E.2.1 1, 432, .inl f_factsOfz_42)), (m_possible, .inl (E.2.1 1, 1728, .inl f_possiblez_43)), (m_pairs, .inl (E.2.1 1, 576, .inl f_pairsz_44)), (m_pile, .inl (E.2.1 1, 34, .inl f_pilez_45)), (m_caseMany, .inl (E.2.1 1, 4, .inl f_caseMany)), (m_happen, .inl (E.2.1 1, 4, .inl f_happen)), (m_hasIf, .inl (E.2.1 3, 16, .inl f_hasIf)), (m_becomes, .inl (E.2.1 1, 16, .inl f_becomes)), (m_goneOf, .inl (E.2.1 1, 16, .inl f_goneOf)), (m_heard, .inl (E.2.1 1, 64, .inl f_heard)), (m_actMany, .inl (E.2.1 1, 25, .inl f_actMany)), (m_actOf, .inl (E.2.1 1, 800, .inl f_actOf)), (m_whom, .inl (E.2.1 1, 800, .inl f_whom)), (m_afters, .inl (E.2.1 1, 9, .inl f_afters)), (m_afterOf, .inl (E.2.1 1, 18, .inl f_afterOf)), (hm, .inr (12, [.ref m_manys, .ref m_reals, .ref m_factsOf, .ref m_possible, .int (nI q_undos), .int (nI q_models), .ref m_tape, .int (nI q_taped), .int q_fault, .int q_wrong, .int q_wrongAt, .int q_spot, .int q_place, .int q_token, .int q_value, .ref m_ends, .ref m_letters, .ref m_actOf, .ref m_whom, .ref m_actMany, .ref m_tokens, .ref m_afters, .ref m_afterOf, .int q_counted, .ref m_pile, .ref m_caseMany, .ref m_happen, .ref m_hasIf, .ref m_becomes, .ref m_goneOf, .ref m_heard, .ref m_pairs, .ref m_heaps, .int q_rounds, .int q_heapMany, .ref m_led, .ref m_newAt, .ref m_knowing, .ref m_firsts, .int (nI q_people), .ref m_secrets, .ref m_tried, .ref m_lanes, .ref m_lengths, .ref m_cells])), (m_manys, .inl (E.2.1 1, 18, .inl f_manysz_40)), (m_reals, .inl (E.2.1 1, 18, .inl f_realsz_41)), (m_knowing, .inl (E.2.1 1, 4, .inl f_knowingz_46))]) ?_ rfl rfl rfl
                          refine ww_icmp_eq (tgt := 188) C dX12_turns_181 (by decide) (fun c_65 => ?_) (fun c_65 => ?_)
                          · have zc_65 : r_58.toInt = r_62.toInt := i_eq rfl rfl c_65
                            refine ww_iconst (v := 0) C dX12_turns_188 rfl ?_
                            refine ww_istore (lv' := [(6, .int 0), (7, .int r_58), (5, .int r_39), (4, .int (nI (tu + 1))), (0, .ref hm), (1, .int v0), (2, .int v1), (3, .int v2)]) C dX12_turns_189 rfl rfl ?_
                            have hre1 : bt r_58 (cN f_realsz_41 1) = true := st_re hw1_ hst1 (show cN f_realsz_41 1 < cN f_manysz_40 1 by omega) (show cN f_manysz_40 1 ≤ 32 by omega)
                            refine ww_aload_n C dX12_turns_191 4 rfl rfl ?_
                            refine ww_iconst (v := 1) C dX12_turns_192 rfl ?_
                            refine ww_iload C dX12_turns_193 1 rfl ?_
                            refine ww_cv (wr := [(m_firsts, .inl (E.2.1 1, 4, .inl g_fi7)), (m_tokens, .inl (E.2.1 1, 9, .inl f_tokens)), (m_pairs, .inl (E.2.1 1, 576, .inl f_pairsz_44)), (m_pile, .inl (E.2.1 1, 34, .inl f_pilez_45)), (m_caseMany, .inl (E.2.1 1, 4, .inl f_caseMany)), (m_happen, .inl (E.2.1 1, 4, .inl f_happen)), (m_hasIf, .inl (E.2.1 3, 16, .inl f_hasIf)), (m_becomes, .inl (E.2.1 1, 16, .inl f_becomes)), (m_goneOf, .inl (E.2.1 1, 16, .inl f_goneOf)), (m_heard, .inl (E.2.1 1, 64, .inl f_heard)), (m_actMany, .inl (E.2.1 1, 25, .inl f_actMany)), (m_actOf, .inl (E.2.1 1, 800, .inl f_actOf)), (m_whom, .inl (E.2.1 1, 800, .inl f_whom)), (m_afters, .inl (E.2.1 1, 9, .inl f_afters)), (m_afterOf, .inl (E.2.1 1, 18, .inl f_afterOf)), (m_knowing, .inl (E.2.1 1, 4, .inl f_knowingz_46))]) (k' := 0) (n' := 0) C (run_V (As := [.int 1, .int r_58]) (rest := []) C (r_keepOnly X.2.1 E ro hm 1 r_58 m_manys m_reals m_factsOf m_possible q_undos q_models m_tape q_taped q_fault q_wrong q_wrongAt q_spot q_place q_token q_value m_ends m_letters m_actOf m_whom m_actMany m_tokens m_afters m_afterOf q_counted m_pile m_caseMany m_happen m_hasIf m_becomes m_goneOf m_heard m_pairs m_heaps q_rounds q_heapMany m_led m_newAt m_knowing m_firsts q_people m_secrets m_tried m_lanes m_lengths m_cells f_manysz_40 f_realsz_41 f_factsOfz_42 f_possiblez_43 gs_newAt h_47 h_48 h_49 h_50 (by omega) (st_in hst1 rfl) (by omega) hre1) mi_X12_keepOnly wl_X12_321 rfl 0 12 rfl rfl rfl rfl rfl dX12_turns_195) (roK hro) [18, 19, 20, 3, 4, 0] [1, 2, 5, 6, 7, 8, 9, 10, 11, 12, 13, 14, 15, 16, 17, 21] rfl (gqk (by eq_refl)) (plk (by decide +kernel)) rfl (fun uz hw => ?_)
                            refine ex5 hw ?_
                            clear hw
                            intro f_manysz_67 f_realsz_68 f_factsOfz_69 f_possiblez_70 f_newAtz_71 hw
                            refine an8 hw ?_
                            clear hw
                            intro he_80 h_72 h_73 h_74 h_75 h_76 h_77 h_78 hw
                            have h_79 := hw
                            clear hw
                            subst he_80
                            refine ww_eq (ws' := [(m_firsts, .inl (E.2.1 1, 4, .inl g_fi7)), (m_tokens, .inl (E.2.1 1, 9, .inl f_tokens)), (m_pairs, .inl (E.2.1 1, 576, .inl f_pairsz_44)), (m_pile, .inl (E.2.1 1, 34, .inl f_pilez_45)), (m_caseMany, .inl (E.2.1 1, 4, .inl f_caseMany)), (m_happen, .inl (E.2.1 1, 4, .inl f_happen)), (m_hasIf, .inl (E.2.1 3, 16, .inl f_hasIf)), (m_becomes, .inl (E.2.1 1, 16, .inl f_becomes)), (m_goneOf, .inl (E.2.1 1, 16, .inl f_goneOf)), (m_heard, .inl (E.2.1 1, 64, .inl f_heard)), (m_actMany, .inl (E.2.1 1, 25, .inl f_actMany)), (m_actOf, .inl (E.2.1 1, 800, .inl f_actOf)), (m_whom, .inl (E.2.1 1, 800, .inl f_whom)), (m_afters, .inl (E.2.1 1, 9, .inl f_afters)), (m_afterOf, .inl (E.2.1 1, 18, .inl f_afterOf)), (m_knowing, .inl (E.2.1 1, 4, .inl f_knowingz_46)), (hm, .inr (12, [.ref m_manys, .ref m_reals, .ref m_factsOf, .ref m_possible, .int (nI q_undos), .int (nI q_models), .ref m_tape, .int (nI q_taped), .int q_fault, .int q_wrong, .int q_wrongAt, .int q_spot, .int q_place, .int q_token, .int q_value, .ref m_ends, .ref m_letters, .ref m_actOf, .ref m_whom, .ref m_actMany, .ref m_tokens, .ref m_afters, .ref m_afterOf, .int q_counted, .ref m_pile, .ref m_caseMany, .ref m_happen, .ref m_hasIf, .ref m_becomes, .ref m_goneOf, .ref m_heard, .ref m_pairs, .ref m_heaps, .int q_rounds, .int q_heapMany, .ref m_led, .ref m_newAt, .ref m_knowing, .ref m_firsts, .int (nI q_people), .ref m_secrets, .ref m_tried, .ref m_lanes, .ref m_lengths, .ref m_cells])), (m_manys, .inl (E.2.1 1, 18, .inl f_manysz_67)), (m_reals, .inl (E.2.1 1, 18, .inl f_realsz_68)), (m_factsOf, .inl (E.2.1 1, 432, .inl f_factsOfz_69)), (m_possible, .inl (E.2.1 1, 1728, .inl f_possiblez_70)), (m_newAt, .inl (E.2.1 1, 24, .inl f_newAtz_71))]) ?_ rfl rfl rfl
                            have hk1 := h_76
                            have hk2 := h_77
                            have hcl := cb_le (bt r_58) (cN f_manysz_40 1)
                            have hrm2 : cN f_realsz_68 1 < cN f_manysz_67 1 := by rw [hk1, hk2]; exact cb_lt (by omega) hre1
                            refine ww_goto (tgt := 88) C dX12_turns_198 (by decide) ?_
                            exact ww_lv [0, 2, 3, 4, 5, 6, 7] rfl (ww_sub [2, 3, 4, 5, 6, 7, 8, 9, 10, 11, 12, 13, 14, 15, 21, 0, 1, 16, 17, 18, 19, 20] (ndk (by decide +kernel)) (gqk (by eq_refl)) (ih_88 0 (tu + 1) r_39 f_manysz_67 f_realsz_68 f_factsOfz_69 f_possiblez_70 f_pairsz_44 f_pilez_45 f_knowingz_46 f_newAtz_71 g_fi7 (by omega) hrm2 (fun h9 => absurd h9 (by decide)) (fun _ => ⟨tu, rfl, ⟨hmo1 (by omega), gr_rest hga hst1 (vall_bs h_63 (show cN f_manysz_40 1 = cN f_manysz_40 1 from rfl)) (Int32.toInt_inj.mp zc_65)⟩, hknq⟩) (gr_cut hga (show cN f_realsz_41 1 < cN f_manysz_40 1 by omega) (show cN f_manysz_40 1 ≤ 32 by omega) hst1 h_78) (fr_e hfi7 (by omega)) (KPA.oth (KPA.tr hoth h_55 (by omega)) h_79 (by omega) (by omega)) h_72 h_73 h_74 h_75 (by omega)))
                          · have zc_65 : r_58.toInt ≠ r_62.toInt := i_ne rfl rfl c_65
                            have hkl := keep_lt (by omega) (st_in (n := cN f_manysz_40 1) hst1 rfl) h_63 (by assumption)
                            refine ww_iconst (v := 1) C dX12_turns_184 rfl ?_
                            refine ww_goto (tgt := 189) C dX12_turns_185 (by decide) ?_
                            refine ww_istore (lv' := [(6, .int 1), (7, .int r_58), (5, .int r_39), (4, .int (nI (tu + 1))), (0, .ref hm), (1, .int v0), (2, .int v1), (3, .int v2)]) C dX12_turns_189 rfl rfl ?_
                            have hre1 : bt r_58 (cN f_realsz_41 1) = true := st_re hw1_ hst1 (show cN f_realsz_41 1 < cN f_manysz_40 1 by omega) (show cN f_manysz_40 1 ≤ 32 by omega)
                            refine ww_aload_n C dX12_turns_191 4 rfl rfl ?_
                            refine ww_iconst (v := 1) C dX12_turns_192 rfl ?_
                            refine ww_iload C dX12_turns_193 1 rfl ?_
                            refine ww_cv (wr := [(m_firsts, .inl (E.2.1 1, 4, .inl g_fi7)), (m_tokens, .inl (E.2.1 1, 9, .inl f_tokens)), (m_pairs, .inl (E.2.1 1, 576, .inl f_pairsz_44)), (m_pile, .inl (E.2.1 1, 34, .inl f_pilez_45)), (m_caseMany, .inl (E.2.1 1, 4, .inl f_caseMany)), (m_happen, .inl (E.2.1 1, 4, .inl f_happen)), (m_hasIf, .inl (E.2.1 3, 16, .inl f_hasIf)), (m_becomes, .inl (E.2.1 1, 16, .inl f_becomes)), (m_goneOf, .inl (E.2.1 1, 16, .inl f_goneOf)), (m_heard, .inl (E.2.1 1, 64, .inl f_heard)), (m_actMany, .inl (E.2.1 1, 25, .inl f_actMany)), (m_actOf, .inl (E.2.1 1, 800, .inl f_actOf)), (m_whom, .inl (E.2.1 1, 800, .inl f_whom)), (m_afters, .inl (E.2.1 1, 9, .inl f_afters)), (m_afterOf, .inl (E.2.1 1, 18, .inl f_afterOf)), (m_knowing, .inl (E.2.1 1, 4, .inl f_knowingz_46))]) (k' := 0) (n' := 0) C (run_V (As := [.int 1, .int r_58]) (rest := []) C (r_keepOnly X.2.1 E ro hm 1 r_58 m_manys m_reals m_factsOf m_possible q_undos q_models m_tape q_taped q_fault q_wrong q_wrongAt q_spot q_place q_token q_value m_ends m_letters m_actOf m_whom m_actMany m_tokens m_afters m_afterOf q_counted m_pile m_caseMany m_happen m_hasIf m_becomes m_goneOf m_heard m_pairs m_heaps q_rounds q_heapMany m_led m_newAt m_knowing m_firsts q_people m_secrets m_tried m_lanes m_lengths m_cells f_manysz_40 f_realsz_41 f_factsOfz_42 f_possiblez_43 gs_newAt h_47 h_48 h_49 h_50 (by omega) (st_in hst1 rfl) (by omega) hre1) mi_X12_keepOnly wl_X12_321 rfl 0 12 rfl rfl rfl rfl rfl dX12_turns_195) (roK hro) [18, 19, 20, 3, 4, 0] [1, 2, 5, 6, 7, 8, 9, 10, 11, 12, 13, 14, 15, 16, 17, 21] rfl (gqk (by eq_refl)) (plk (by decide +kernel)) rfl (fun uz hw => ?_)
                            refine ex5 hw ?_
                            clear hw
                            intro f_manysz_82 f_realsz_83 f_factsOfz_84 f_possiblez_85 f_newAtz_86 hw
                            refine an8 hw ?_
                            clear hw
                            intro he_95 h_87 h_88 h_89 h_90 h_91 h_92 h_93 hw
                            have h_94 := hw
                            clear hw
                            subst he_95
                            refine ww_eq (ws' := [(m_firsts, .inl (E.2.1 1, 4, .inl g_fi7)), (m_tokens, .inl (E.2.1 1, 9, .inl f_tokens)), (m_pairs, .inl (E.2.1 1, 576, .inl f_pairsz_44)), (m_pile, .inl (E.2.1 1, 34, .inl f_pilez_45)), (m_caseMany, .inl (E.2.1 1, 4, .inl f_caseMany)), (m_happen, .inl (E.2.1 1, 4, .inl f_happen)), (m_hasIf, .inl (E.2.1 3, 16, .inl f_hasIf)), (m_becomes, .inl (E.2.1 1, 16, .inl f_becomes)), (m_goneOf, .inl (E.2.1 1, 16, .inl f_goneOf)), (m_heard, .inl (E.2.1 1, 64, .inl f_heard)), (m_actMany, .inl (E.2.1 1, 25, .inl f_actMany)), (m_actOf, .inl (E.2.1 1, 800, .inl f_actOf)), (m_whom, .inl (E.2.1 1, 800, .inl f_whom)), (m_afters, .inl (E.2.1 1, 9, .inl f_afters)), (m_afterOf, .inl (E.2.1 1, 18, .inl f_afterOf)), (m_knowing, .inl (E.2.1 1, 4, .inl f_knowingz_46)), (hm, .inr (12, [.ref m_manys, .ref m_reals, .ref m_factsOf, .ref m_possible, .int (nI q_undos), .int (nI q_models), .ref m_tape, .int (nI q_taped), .int q_fault, .int q_wrong, .int q_wrongAt, .int q_spot, .int q_place, .int q_token, .int q_value, .ref m_ends, .ref m_letters, .ref m_actOf, .ref m_whom, .ref m_actMany, .ref m_tokens, .ref m_afters, .ref m_afterOf, .int q_counted, .ref m_pile, .ref m_caseMany, .ref m_happen, .ref m_hasIf, .ref m_becomes, .ref m_goneOf, .ref m_heard, .ref m_pairs, .ref m_heaps, .int q_rounds, .int q_heapMany, .ref m_led, .ref m_newAt, .ref m_knowing, .ref m_firsts, .int (nI q_people), .ref m_secrets, .ref m_tried, .ref m_lanes, .ref m_lengths, .ref m_cells])), (m_manys, .inl (E.2.1 1, 18, .inl f_manysz_82)), (m_reals, .inl (E.2.1 1, 18, .inl f_realsz_83)), (m_factsOf, .inl (E.2.1 1, 432, .inl f_factsOfz_84)), (m_possible, .inl (E.2.1 1, 1728, .inl f_possiblez_85)), (m_newAt, .inl (E.2.1 1, 24, .inl f_newAtz_86))]) ?_ rfl rfl rfl
                            have hk1 := h_91
                            have hk2 := h_92
                            have hcl := cb_le (bt r_58) (cN f_manysz_40 1)
                            have hrm2 : cN f_realsz_83 1 < cN f_manysz_82 1 := by rw [hk1, hk2]; exact cb_lt (by omega) hre1
                            refine ww_goto (tgt := 88) C dX12_turns_198 (by decide) ?_
                            exact ww_lv [0, 2, 3, 4, 5, 6, 7] rfl (ww_sub [2, 3, 4, 5, 6, 7, 8, 9, 10, 11, 12, 13, 14, 15, 21, 0, 1, 16, 17, 18, 19, 20] (ndk (by decide +kernel)) (gqk (by eq_refl)) (ih_88 1 (tu + 1) r_39 f_manysz_82 f_realsz_83 f_factsOfz_84 f_possiblez_85 f_pairsz_44 f_pilez_45 f_knowingz_46 f_newAtz_86 g_fi7 (by omega) hrm2 (fun _ i hi => if hk : i = tu then (by rw [hk]; exact gr_more hga hst1 (vall_bs h_63 (show cN f_manysz_40 1 = cN f_manysz_40 1 from rfl)) (fun h9 => zc_65 (congrArg Int32.toInt h9))) else hmo1 (by omega) i (by omega)) (fun h9 => absurd h9 (by decide)) (gr_cut hga (show cN f_realsz_41 1 < cN f_manysz_40 1 by omega) (show cN f_manysz_40 1 ≤ 32 by omega) hst1 h_93) (fr_e hfi7 (by omega)) (KPA.oth (KPA.tr hoth h_55 (by omega)) h_94 (by omega) (by omega)) h_87 h_88 h_89 h_90 (by omega)))
                        · have zc_57 : ((k7 : Nat) : Int) < 4 := i_nle rfl (nI_toInt (n := k7) (by omega)) c_57
                          refine ww_aload_n C dX12_turns_114 4 rfl rfl ?_
                          refine ww_get C fg_X12_87 3 rfl rfl dX12_turns_115 ?_
                          refine ww_iload C dX12_turns_118 0 rfl ?_
                          refine ww_iload C dX12_turns_120 1 rfl ?_
                          refine ww_iload C dX12_turns_122 0 rfl ?_
                          obtain ⟨x_96, ex_96⟩ : ∃ z : Int32, r_39 >>> ((nI k7) &&& 31) = z := ⟨_, rfl⟩
                          refine ww_ishr (v := x_96) C dX12_turns_124 ex_96 ?_
                          refine ww_iconst (v := 1) C dX12_turns_125 rfl ?_
                          obtain ⟨j_97, hj_97, ej_97⟩ := pk_andE x_96 (m := 1) 1 rfl
                          refine ww_iand (v := (nI j_97)) C dX12_turns_126 ej_97 ?_
                          refine ww_iconst (v := 1) C dX12_turns_127 rfl ?_
                          refine ww_icmp_ne (tgt := 148) C dX12_turns_128 (by decide) (fun c_98 => ?_) (fun c_98 => ?_)
                          · have zc_98 : ((j_97 : Nat) : Int) ≠ 1 := i_ne (nI_toInt (n := j_97) (by omega)) rfl c_98
                            refine ww_aload_n C dX12_turns_148 4 rfl rfl ?_
                            refine ww_get C fg_X12_87 3 rfl rfl dX12_turns_149 ?_
                            refine ww_iload C dX12_turns_152 0 rfl ?_
                            obtain ⟨x_99, ex_99⟩ : ∃ z : Int32, g_fi7 k7 = z := ⟨_, rfl⟩
                            refine ww_iald (v := x_99) C 1 rfl (vp_in_nI (by omega) (by omega)) (ldn (by omega) ex_99) dX12_turns_154 ?_
                            obtain ⟨f_100, ef_100⟩ : ∃ z : Nat → Int32, upd g_fi7 k7 x_99 = z := ⟨_, rfl⟩
                            refine ww_iast (ws' := [(m_newAt, .inl (E.2.1 1, 24, .inl gs_newAt)), (m_firsts, .inl (E.2.1 1, 4, .inl f_100)), (m_tokens, .inl (E.2.1 1, 9, .inl f_tokens)), (hm, .inr (12, [.ref m_manys, .ref m_reals, .ref m_factsOf, .ref m_possible, .int (nI q_undos), .int (nI q_models), .ref m_tape, .int (nI q_taped), .int q_fault, .int q_wrong, .int q_wrongAt, .int q_spot, .int q_place, .int q_token, .int q_value, .ref m_ends, .ref m_letters, .ref m_actOf, .ref m_whom, .ref m_actMany, .ref m_tokens, .ref m_afters, .ref m_afterOf, .int q_counted, .ref m_pile, .ref m_caseMany, .ref m_happen, .ref m_hasIf, .ref m_becomes, .ref m_goneOf, .ref m_heard, .ref m_pairs, .ref m_heaps, .int q_rounds, .int q_heapMany, .ref m_led, .ref m_newAt, .ref m_knowing, .ref m_firsts, .int (nI q_people), .ref m_secrets, .ref m_tried, .ref m_lanes, .ref m_lengths, .ref m_cells])), (m_manys, .inl (E.2.1 1, 18, .inl f_manysz_40)), (m_reals, .inl (E.2.1 1, 18, .inl f_realsz_41)), (m_factsOf, .inl (E.2.1 1, 432, .inl f_factsOfz_42)), (m_possible, .inl (E.2.1 1, 1728, .inl f_possiblez_43)), (m_pairs, .inl (E.2.1 1, 576, .inl f_pairsz_44)), (m_pile, .inl (E.2.1 1, 34, .inl f_pilez_45)), (m_caseMany, .inl (E.2.1 1, 4, .inl f_caseMany)), (m_happen, .inl (E.2.1 1, 4, .inl f_happen)), (m_hasIf, .inl (E.2.1 3, 16, .inl f_hasIf)), (m_becomes, .inl (E.2.1 1, 16, .inl f_becomes)), (m_goneOf, .inl (E.2.1 1, 16, .inl f_goneOf)), (m_heard, .inl (E.2.1 1, 64, .inl f_heard)), (m_actMany, .inl (E.2.1 1, 25, .inl f_actMany)), (m_actOf, .inl (E.2.1 1, 800, .inl f_actOf)), (m_whom, .inl (E.2.1 1, 800, .inl f_whom)), (m_afters, .inl (E.2.1 1, 9, .inl f_afters)), (m_afterOf, .inl (E.2.1 1, 18, .inl f_afterOf)), (m_knowing, .inl (E.2.1 1, 4, .inl f_knowingz_46))]) C 1 rfl (vp_in_nI (by omega) (by omega)) (ldn2 (by omega) ef_100) rfl dX12_turns_155 ?_
                            refine ww_iinc (j := 0) (v := (nI (k7 + 1))) (lv' := [(7, .int (nI (k7 + 1))), (5, .int r_39), (4, .int (nI (tu + 1))), (6, .int (nI mo)), (0, .ref hm), (1, .int v0), (2, .int v1), (3, .int v2)]) C dX12_turns_156 rfl (nI_add k7 1) rfl rfl ?_
                            refine ww_goto (tgt := 108) C dX12_turns_159 (by decide) ?_
                            exact ww_lv [0, 1, 2, 3, 4, 5, 6, 7] rfl (ww_sub [0, 1, 2, 3, 4, 5, 6, 7, 8, 9, 10, 11, 12, 13, 14, 15, 16, 17, 18, 19, 20, 21] (ndk (by decide +kernel)) (gqk (by eq_refl)) (ih_108 (k7 + 1) f_100 (by omega) (by first | exact fs_y hfi7 (by omega) ex_99 (Int32.toInt_inj.mp (by assumption)) (by rw [← hknq k7 (by omega)]; exact (hasb_1 (b := r_39) (p := k7) (by omega) (by assumption) (by assumption) (by omega))) rfl ef_100 | exact fr_o hfi7 (by omega) ex_99 (fun h9 => absurd (congrArg Int32.toInt h9) (by assumption)) ex_99 ef_100 | exact fr_n hfi7 (by omega) (by rw [← hknq k7 (by omega)]; exact (hasb_0 (b := r_39) (p := k7) (by omega) (by assumption) (by assumption) (by omega))) ex_99 ef_100) (by omega)))
                          · have zc_98 : ((j_97 : Nat) : Int) = 1 := i_eq (nI_toInt (n := j_97) (by omega)) rfl c_98
                            refine ww_aload_n C dX12_turns_131 4 rfl rfl ?_
                            refine ww_get C fg_X12_87 3 rfl rfl dX12_turns_132 ?_
                            refine ww_iload C dX12_turns_135 0 rfl ?_
                            obtain ⟨x_101, ex_101⟩ : ∃ z : Int32, g_fi7 k7 = z := ⟨_, rfl⟩
                            refine ww_iald (v := x_101) C 1 rfl (vp_in_nI (by omega) (by omega)) (ldn (by omega) ex_101) dX12_turns_137 ?_
                            refine ww_bipush (v := (-4)) C dX12_turns_138 rfl ?_
                            refine ww_icmp_ne (tgt := 148) C dX12_turns_140 (by decide) (fun c_102 => ?_) (fun c_102 => ?_)
                            · have zc_102 : x_101.toInt ≠ (-4) := i_ne rfl rfl c_102
                              refine ww_aload_n C dX12_turns_148 4 rfl rfl ?_
                              refine ww_get C fg_X12_87 3 rfl rfl dX12_turns_149 ?_
                              refine ww_iload C dX12_turns_152 0 rfl ?_
                              refine ww_iald (v := x_101) C 1 rfl (vp_in_nI (by omega) (by omega)) (ldn (by omega) ex_101) dX12_turns_154 ?_
                              obtain ⟨f_103, ef_103⟩ : ∃ z : Nat → Int32, upd g_fi7 k7 x_101 = z := ⟨_, rfl⟩
                              refine ww_iast (ws' := [(m_newAt, .inl (E.2.1 1, 24, .inl gs_newAt)), (m_firsts, .inl (E.2.1 1, 4, .inl f_103)), (m_tokens, .inl (E.2.1 1, 9, .inl f_tokens)), (hm, .inr (12, [.ref m_manys, .ref m_reals, .ref m_factsOf, .ref m_possible, .int (nI q_undos), .int (nI q_models), .ref m_tape, .int (nI q_taped), .int q_fault, .int q_wrong, .int q_wrongAt, .int q_spot, .int q_place, .int q_token, .int q_value, .ref m_ends, .ref m_letters, .ref m_actOf, .ref m_whom, .ref m_actMany, .ref m_tokens, .ref m_afters, .ref m_afterOf, .int q_counted, .ref m_pile, .ref m_caseMany, .ref m_happen, .ref m_hasIf, .ref m_becomes, .ref m_goneOf, .ref m_heard, .ref m_pairs, .ref m_heaps, .int q_rounds, .int q_heapMany, .ref m_led, .ref m_newAt, .ref m_knowing, .ref m_firsts, .int (nI q_people), .ref m_secrets, .ref m_tried, .ref m_lanes, .ref m_lengths, .ref m_cells])), (m_manys, .inl (E.2.1 1, 18, .inl f_manysz_40)), (m_reals, .inl (E.2.1 1, 18, .inl f_realsz_41)), (m_factsOf, .inl (E.2.1 1, 432, .inl f_factsOfz_42)), (m_possible, .inl (E.2.1 1, 1728, .inl f_possiblez_43)), (m_pairs, .inl (E.2.1 1, 576, .inl f_pairsz_44)), (m_pile, .inl (E.2.1 1, 34, .inl f_pilez_45)), (m_caseMany, .inl (E.2.1 1, 4, .inl f_caseMany)), (m_happen, .inl (E.2.1 1, 4, .inl f_happen)), (m_hasIf, .inl (E.2.1 3, 16, .inl f_hasIf)), (m_becomes, .inl (E.2.1 1, 16, .inl f_becomes)), (m_goneOf, .inl (E.2.1 1, 16, .inl f_goneOf)), (m_heard, .inl (E.2.1 1, 64, .inl f_heard)), (m_actMany, .inl (E.2.1 1, 25, .inl f_actMany)), (m_actOf, .inl (E.2.1 1, 800, .inl f_actOf)), (m_whom, .inl (E.2.1 1, 800, .inl f_whom)), (m_afters, .inl (E.2.1 1, 9, .inl f_afters)), (m_afterOf, .inl (E.2.1 1, 18, .inl f_afterOf)), (m_knowing, .inl (E.2.1 1, 4, .inl f_knowingz_46))]) C 1 rfl (vp_in_nI (by omega) (by omega)) (ldn2 (by omega) ef_103) rfl dX12_turns_155 ?_
                              refine ww_iinc (j := 0) (v := (nI (k7 + 1))) (lv' := [(7, .int (nI (k7 + 1))), (5, .int r_39), (4, .int (nI (tu + 1))), (6, .int (nI mo)), (0, .ref hm), (1, .int v0), (2, .int v1), (3, .int v2)]) C dX12_turns_156 rfl (nI_add k7 1) rfl rfl ?_
                              refine ww_goto (tgt := 108) C dX12_turns_159 (by decide) ?_
                              exact ww_lv [0, 1, 2, 3, 4, 5, 6, 7] rfl (ww_sub [0, 1, 2, 3, 4, 5, 6, 7, 8, 9, 10, 11, 12, 13, 14, 15, 16, 17, 18, 19, 20, 21] (ndk (by decide +kernel)) (gqk (by eq_refl)) (ih_108 (k7 + 1) f_103 (by omega) (by first | exact fs_y hfi7 (by omega) ex_101 (Int32.toInt_inj.mp (by assumption)) (by rw [← hknq k7 (by omega)]; exact (hasb_1 (b := r_39) (p := k7) (by omega) (by assumption) (by assumption) (by omega))) rfl ef_103 | exact fr_o hfi7 (by omega) ex_101 (fun h9 => absurd (congrArg Int32.toInt h9) (by assumption)) ex_101 ef_103 | exact fr_n hfi7 (by omega) (by rw [← hknq k7 (by omega)]; exact (hasb_0 (b := r_39) (p := k7) (by omega) (by assumption) (by assumption) (by omega))) ex_101 ef_103) (by omega)))
                            · have zc_102 : x_101.toInt = (-4) := i_eq rfl rfl c_102
                              refine ww_iload C dX12_turns_143 2 rfl ?_
                              refine ww_goto (tgt := 155) C dX12_turns_145 (by decide) ?_
                              obtain ⟨f_104, ef_104⟩ : ∃ z : Nat → Int32, upd g_fi7 k7 (nI (tu + 1)) = z := ⟨_, rfl⟩
                              refine ww_iast (ws' := [(m_newAt, .inl (E.2.1 1, 24, .inl gs_newAt)), (m_firsts, .inl (E.2.1 1, 4, .inl f_104)), (m_tokens, .inl (E.2.1 1, 9, .inl f_tokens)), (hm, .inr (12, [.ref m_manys, .ref m_reals, .ref m_factsOf, .ref m_possible, .int (nI q_undos), .int (nI q_models), .ref m_tape, .int (nI q_taped), .int q_fault, .int q_wrong, .int q_wrongAt, .int q_spot, .int q_place, .int q_token, .int q_value, .ref m_ends, .ref m_letters, .ref m_actOf, .ref m_whom, .ref m_actMany, .ref m_tokens, .ref m_afters, .ref m_afterOf, .int q_counted, .ref m_pile, .ref m_caseMany, .ref m_happen, .ref m_hasIf, .ref m_becomes, .ref m_goneOf, .ref m_heard, .ref m_pairs, .ref m_heaps, .int q_rounds, .int q_heapMany, .ref m_led, .ref m_newAt, .ref m_knowing, .ref m_firsts, .int (nI q_people), .ref m_secrets, .ref m_tried, .ref m_lanes, .ref m_lengths, .ref m_cells])), (m_manys, .inl (E.2.1 1, 18, .inl f_manysz_40)), (m_reals, .inl (E.2.1 1, 18, .inl f_realsz_41)), (m_factsOf, .inl (E.2.1 1, 432, .inl f_factsOfz_42)), (m_possible, .inl (E.2.1 1, 1728, .inl f_possiblez_43)), (m_pairs, .inl (E.2.1 1, 576, .inl f_pairsz_44)), (m_pile, .inl (E.2.1 1, 34, .inl f_pilez_45)), (m_caseMany, .inl (E.2.1 1, 4, .inl f_caseMany)), (m_happen, .inl (E.2.1 1, 4, .inl f_happen)), (m_hasIf, .inl (E.2.1 3, 16, .inl f_hasIf)), (m_becomes, .inl (E.2.1 1, 16, .inl f_becomes)), (m_goneOf, .inl (E.2.1 1, 16, .inl f_goneOf)), (m_heard, .inl (E.2.1 1, 64, .inl f_heard)), (m_actMany, .inl (E.2.1 1, 25, .inl f_actMany)), (m_actOf, .inl (E.2.1 1, 800, .inl f_actOf)), (m_whom, .inl (E.2.1 1, 800, .inl f_whom)), (m_afters, .inl (E.2.1 1, 9, .inl f_afters)), (m_afterOf, .inl (E.2.1 1, 18, .inl f_afterOf)), (m_knowing, .inl (E.2.1 1, 4, .inl f_knowingz_46))]) C 1 rfl (vp_in_nI (by omega) (by omega)) (ldn2 (by omega) ef_104) rfl dX12_turns_155 ?_
                              refine ww_iinc (j := 0) (v := (nI (k7 + 1))) (lv' := [(7, .int (nI (k7 + 1))), (5, .int r_39), (4, .int (nI (tu + 1))), (6, .int (nI mo)), (0, .ref hm), (1, .int v0), (2, .int v1), (3, .int v2)]) C dX12_turns_156 rfl (nI_add k7 1) rfl rfl ?_
                              refine ww_goto (tgt := 108) C dX12_turns_159 (by decide) ?_
                              exact ww_lv [0, 1, 2, 3, 4, 5, 6, 7] rfl (ww_sub [0, 1, 2, 3, 4, 5, 6, 7, 8, 9, 10, 11, 12, 13, 14, 15, 16, 17, 18, 19, 20, 21] (ndk (by decide +kernel)) (gqk (by eq_refl)) (ih_108 (k7 + 1) f_104 (by omega) (by first | exact fs_y hfi7 (by omega) ex_101 (Int32.toInt_inj.mp (by assumption)) (by rw [← hknq k7 (by omega)]; exact (hasb_1 (b := r_39) (p := k7) (by omega) (by assumption) (by assumption) (by omega))) rfl ef_104 | exact fr_o hfi7 (by omega) ex_101 (fun h9 => absurd (congrArg Int32.toInt h9) (by assumption)) ex_101 ef_104 | exact fr_n hfi7 (by omega) (by rw [← hknq k7 (by omega)]; exact (hasb_0 (b := r_39) (p := k7) (by omega) (by assumption) (by assumption) (by omega))) ex_101 ef_104) (by omega)))
                    exact ww_lv [0, 1, 2, 3, 4, 5, 6, 7] rfl (ww_sub [0, 1, 2, 3, 4, 5, 6, 7, 8, 9, 10, 11, 12, 13, 14, 15, 16, 17, 18, 19, 20, 21] (ndk (by decide +kernel)) (gqk (by eq_refl)) (loop_108 _ 0 gs_firsts (by omega) (fr_b hfi) (Nat.lt_succ_self _)))
              exact ww_lv [0, 1, 2, 3, 4, 5, 6] rfl (ww_sub [0, 1, 2, 3, 4, 5, 6, 7, 8, 9, 10, 11, 12, 13, 14, 15, 16, 17, 18, 19, 20, 21] (ndk (by decide +kernel)) (gqk (by eq_refl)) (loop_88 _ 1 0 0 f_manysz_19 f_realsz_20 f_factsOfz_21 f_possiblez_22 f_pairs f_pile f_knowing f_newAt g_fi0 (by omega) (by omega) (fun _ i hi => absurd hi (Nat.not_lt_zero _)) (fun h9 => absurd h9 (by decide)) ((h_31 1 (by omega)).trans (if_pos rfl)) (fr_0 (by have h9 : k0 = 4 := (by omega); rw [h9] at hf0; exact hf0)) (KPA.oth KPA.rf (q := 1) (fun p a b => (h_31 p a).trans (if_neg b)) (by omega) (by omega)) h_23 h_24 h_25 h_26 (Nat.lt_succ_self _)))
            · have zc_33 : ((k0 : Nat) : Int) < 4 := i_nle rfl (nI_toInt (n := k0) (by omega)) c_33
              refine ww_aload_n C dX12_turns_64 1 rfl rfl ?_
              refine ww_get C fg_X12_87 17 rfl rfl dX12_turns_65 ?_
              refine ww_iload C dX12_turns_68 0 rfl ?_
              refine ww_bipush (v := (-4)) C dX12_turns_70 rfl ?_
              obtain ⟨f_105, ef_105⟩ : ∃ z : Nat → Int32, upd g_fi0 k0 (-4) = z := ⟨_, rfl⟩
              refine ww_iast (ws' := [(m_pairs, .inl (E.2.1 1, 576, .inl f_pairs)), (m_pile, .inl (E.2.1 1, 34, .inl f_pile)), (m_caseMany, .inl (E.2.1 1, 4, .inl f_caseMany)), (m_happen, .inl (E.2.1 1, 4, .inl f_happen)), (m_hasIf, .inl (E.2.1 3, 16, .inl f_hasIf)), (m_becomes, .inl (E.2.1 1, 16, .inl f_becomes)), (m_goneOf, .inl (E.2.1 1, 16, .inl f_goneOf)), (m_heard, .inl (E.2.1 1, 64, .inl f_heard)), (m_actMany, .inl (E.2.1 1, 25, .inl f_actMany)), (m_actOf, .inl (E.2.1 1, 800, .inl f_actOf)), (m_whom, .inl (E.2.1 1, 800, .inl f_whom)), (m_afters, .inl (E.2.1 1, 9, .inl f_afters)), (m_afterOf, .inl (E.2.1 1, 18, .inl f_afterOf)), (m_knowing, .inl (E.2.1 1, 4, .inl f_knowing)), (m_newAt, .inl (E.2.1 1, 24, .inl f_newAt)), (m_firsts, .inl (E.2.1 1, 4, .inl f_105)), (m_tokens, .inl (E.2.1 1, 9, .inl f_tokens)), (hm, .inr (12, [.ref m_manys, .ref m_reals, .ref m_factsOf, .ref m_possible, .int (nI q_undos), .int (nI q_models), .ref m_tape, .int (nI q_taped), .int q_fault, .int q_wrong, .int q_wrongAt, .int q_spot, .int q_place, .int q_token, .int q_value, .ref m_ends, .ref m_letters, .ref m_actOf, .ref m_whom, .ref m_actMany, .ref m_tokens, .ref m_afters, .ref m_afterOf, .int q_counted, .ref m_pile, .ref m_caseMany, .ref m_happen, .ref m_hasIf, .ref m_becomes, .ref m_goneOf, .ref m_heard, .ref m_pairs, .ref m_heaps, .int q_rounds, .int q_heapMany, .ref m_led, .ref m_newAt, .ref m_knowing, .ref m_firsts, .int (nI q_people), .ref m_secrets, .ref m_tried, .ref m_lanes, .ref m_lengths, .ref m_cells])), (m_manys, .inl (E.2.1 1, 18, .inl f_manysz_19)), (m_reals, .inl (E.2.1 1, 18, .inl f_realsz_20)), (m_factsOf, .inl (E.2.1 1, 432, .inl f_factsOfz_21)), (m_possible, .inl (E.2.1 1, 1728, .inl f_possiblez_22))]) C 15 rfl (vp_in_nI (by omega) (by omega)) (ldn2 (by omega) ef_105) rfl dX12_turns_72 ?_
              refine ww_iinc (j := 0) (v := (nI (k0 + 1))) (lv' := [(4, .int (nI (k0 + 1))), (0, .ref hm), (1, .int v0), (2, .int v1), (3, .int v2)]) C dX12_turns_73 rfl (nI_add k0 1) rfl rfl ?_
              refine ww_goto (tgt := 58) C dX12_turns_76 (by decide) ?_
              exact ww_lv [0, 1, 2, 3, 4] rfl (ww_sub [0, 1, 2, 3, 4, 5, 6, 7, 8, 9, 10, 11, 12, 13, 14, 15, 16, 17, 18, 19, 20, 21] (ndk (by decide +kernel)) (gqk (by eq_refl)) (ih_58 (k0 + 1) f_105 (by omega) (fun k hk => by rw [← ef_105]; by_cases q : k = k0; rw [q, pk_us]; rw [pk_un q]; exact hf0 k (by omega)) (by omega)))
        exact ww_lv [0, 1, 2, 3, 4] rfl (ww_sub [0, 1, 2, 3, 4, 5, 6, 7, 8, 9, 10, 11, 12, 13, 14, 15, 16, 17, 18, 19, 20, 21] (ndk (by decide +kernel)) (gqk (by eq_refl)) (loop_58 _ 0 f_firsts (by omega) (fun k h => absurd h (Nat.not_lt_zero _)) (Nat.lt_succ_self _)))
      · have zc_17 : ((cN f_manys 0 : Nat) : Int) = 0 := i_eq (nI_toInt (n := cN f_manys 0) (by omega)) rfl c_17
        refine ww_bipush (v := (-2)) C dX12_turns_46 rfl ?_
        exact ww_iret (u := [(hm, .inr (12, [.ref m_manys, .ref m_reals, .ref m_factsOf, .ref m_possible, .int (nI q_undos), .int (nI q_models), .ref m_tape, .int (nI q_taped), .int q_fault, .int q_wrong, .int q_wrongAt, .int q_spot, .int q_place, .int q_token, .int q_value, .ref m_ends, .ref m_letters, .ref m_actOf, .ref m_whom, .ref m_actMany, .ref m_tokens, .ref m_afters, .ref m_afterOf, .int q_counted, .ref m_pile, .ref m_caseMany, .ref m_happen, .ref m_hasIf, .ref m_becomes, .ref m_goneOf, .ref m_heard, .ref m_pairs, .ref m_heaps, .int q_rounds, .int q_heapMany, .ref m_led, .ref m_newAt, .ref m_knowing, .ref m_firsts, .int (nI q_people), .ref m_secrets, .ref m_tried, .ref m_lanes, .ref m_lengths, .ref m_cells])), (m_manys, .inl (E.2.1 1, 18, .inl f_manys)), (m_reals, .inl (E.2.1 1, 18, .inl f_reals)), (m_factsOf, .inl (E.2.1 1, 432, .inl f_factsOf)), (m_possible, .inl (E.2.1 1, 1728, .inl f_possible)), (m_pairs, .inl (E.2.1 1, 576, .inl f_pairs)), (m_pile, .inl (E.2.1 1, 34, .inl f_pile)), (m_caseMany, .inl (E.2.1 1, 4, .inl f_caseMany)), (m_happen, .inl (E.2.1 1, 4, .inl f_happen)), (m_hasIf, .inl (E.2.1 3, 16, .inl f_hasIf)), (m_becomes, .inl (E.2.1 1, 16, .inl f_becomes)), (m_goneOf, .inl (E.2.1 1, 16, .inl f_goneOf)), (m_heard, .inl (E.2.1 1, 64, .inl f_heard)), (m_actMany, .inl (E.2.1 1, 25, .inl f_actMany)), (m_actOf, .inl (E.2.1 1, 800, .inl f_actOf)), (m_whom, .inl (E.2.1 1, 800, .inl f_whom)), (m_afters, .inl (E.2.1 1, 9, .inl f_afters)), (m_afterOf, .inl (E.2.1 1, 18, .inl f_afterOf)), (m_knowing, .inl (E.2.1 1, 4, .inl f_knowing)), (m_newAt, .inl (E.2.1 1, 24, .inl f_newAt)), (m_firsts, .inl (E.2.1 1, 4, .inl f_firsts)), (m_tokens, .inl (E.2.1 1, 9, .inl f_tokens))]) C hT [20, 0, 1, 2, 3, 4, 5, 6, 7, 8, 9, 10, 11, 12, 13, 14, 15, 16, 17, 18, 19, 21] (gqk (by eq_refl)) (ndk (by decide +kernel)) rfl rfl dX12_turns_48 (⟨f_manys, f_reals, f_factsOf, f_possible, f_pairs, f_pile, f_knowing, f_newAt, f_firsts, rfl, hb_manys, hb_reals, hpg, hwf, (Or.inr (Or.inl ⟨by omega, can_TT h_2, show cN f_manys 0 = 0 by omega, rfl⟩)), KPA.rf⟩)
    · refine an2 hw ?_
      clear hw
      intro he_14 he_15 hw
      have h_13 := hw
      clear hw
      have he_14 := he_14.symm
      subst he_14
      subst he_15
      refine ww_eq (ws' := [(m_manys, .inl (E.2.1 1, 18, .inl f_manys)), (m_reals, .inl (E.2.1 1, 18, .inl f_reals)), (m_factsOf, .inl (E.2.1 1, 432, .inl f_factsOf)), (m_possible, .inl (E.2.1 1, 1728, .inl f_possible)), (m_pairs, .inl (E.2.1 1, 576, .inl f_pairs)), (m_pile, .inl (E.2.1 1, 34, .inl f_pile)), (m_caseMany, .inl (E.2.1 1, 4, .inl f_caseMany)), (m_happen, .inl (E.2.1 1, 4, .inl f_happen)), (m_hasIf, .inl (E.2.1 3, 16, .inl f_hasIf)), (m_becomes, .inl (E.2.1 1, 16, .inl f_becomes)), (m_goneOf, .inl (E.2.1 1, 16, .inl f_goneOf)), (m_heard, .inl (E.2.1 1, 64, .inl f_heard)), (m_actMany, .inl (E.2.1 1, 25, .inl f_actMany)), (m_actOf, .inl (E.2.1 1, 800, .inl f_actOf)), (m_whom, .inl (E.2.1 1, 800, .inl f_whom)), (m_afters, .inl (E.2.1 1, 9, .inl f_afters)), (m_afterOf, .inl (E.2.1 1, 18, .inl f_afterOf)), (m_knowing, .inl (E.2.1 1, 4, .inl f_knowing)), (m_newAt, .inl (E.2.1 1, 24, .inl f_newAt)), (m_firsts, .inl (E.2.1 1, 4, .inl f_firsts)), (hm, .inr (12, [.ref m_manys, .ref m_reals, .ref m_factsOf, .ref m_possible, .int (nI q_undos), .int (nI q_models), .ref m_tape, .int (nI q_taped), .int q_fault, .int q_wrong, .int q_wrongAt, .int q_spot, .int q_place, .int q_token, .int q_value, .ref m_ends, .ref m_letters, .ref m_actOf, .ref m_whom, .ref m_actMany, .ref m_tokens, .ref m_afters, .ref m_afterOf, .int q_counted, .ref m_pile, .ref m_caseMany, .ref m_happen, .ref m_hasIf, .ref m_becomes, .ref m_goneOf, .ref m_heard, .ref m_pairs, .ref m_heaps, .int q_rounds, .int q_heapMany, .ref m_led, .ref m_newAt, .ref m_knowing, .ref m_firsts, .int (nI q_people), .ref m_secrets, .ref m_tried, .ref m_lanes, .ref m_lengths, .ref m_cells])), (m_tokens, .inl (E.2.1 1, 9, .inl f_tokens))]) ?_ rfl rfl rfl
      refine ww_if_ne_f (tgt := 37) C dX12_turns_18 (by decide) (rfl) ?_
      refine ww_iload_n C dX12_turns_21 3 rfl rfl ?_
      refine ww_i2l (v := v2.toInt64) C dX12_turns_22 rfl ?_
      refine ww_ldc2 C wv_X12_324 dX12_turns_23 ?_
      refine ww_ldc2 C wv_X12_326 dX12_turns_26 ?_
      refine ww_ci (wr := [(m_manys, .inl (E.2.1 1, 18, .inl f_manys)), (m_reals, .inl (E.2.1 1, 18, .inl f_reals)), (m_factsOf, .inl (E.2.1 1, 432, .inl f_factsOf)), (m_possible, .inl (E.2.1 1, 1728, .inl f_possible)), (m_pairs, .inl (E.2.1 1, 576, .inl f_pairs)), (m_pile, .inl (E.2.1 1, 34, .inl f_pile)), (m_caseMany, .inl (E.2.1 1, 4, .inl f_caseMany)), (m_happen, .inl (E.2.1 1, 4, .inl f_happen)), (m_hasIf, .inl (E.2.1 3, 16, .inl f_hasIf)), (m_becomes, .inl (E.2.1 1, 16, .inl f_becomes)), (m_goneOf, .inl (E.2.1 1, 16, .inl f_goneOf)), (m_heard, .inl (E.2.1 1, 64, .inl f_heard)), (m_actMany, .inl (E.2.1 1, 25, .inl f_actMany)), (m_actOf, .inl (E.2.1 1, 800, .inl f_actOf)), (m_whom, .inl (E.2.1 1, 800, .inl f_whom)), (m_afters, .inl (E.2.1 1, 9, .inl f_afters)), (m_afterOf, .inl (E.2.1 1, 18, .inl f_afterOf)), (m_knowing, .inl (E.2.1 1, 4, .inl f_knowing)), (m_newAt, .inl (E.2.1 1, 24, .inl f_newAt)), (m_firsts, .inl (E.2.1 1, 4, .inl f_firsts)), (hm, .inr (12, [.ref m_manys, .ref m_reals, .ref m_factsOf, .ref m_possible, .int (nI q_undos), .int (nI q_models), .ref m_tape, .int (nI q_taped), .int q_fault, .int q_wrong, .int q_wrongAt, .int q_spot, .int q_place, .int q_token, .int q_value, .ref m_ends, .ref m_letters, .ref m_actOf, .ref m_whom, .ref m_actMany, .ref m_tokens, .ref m_afters, .ref m_afterOf, .int q_counted, .ref m_pile, .ref m_caseMany, .ref m_happen, .ref m_hasIf, .ref m_becomes, .ref m_goneOf, .ref m_heard, .ref m_pairs, .ref m_heaps, .int q_rounds, .int q_heapMany, .ref m_led, .ref m_newAt, .ref m_knowing, .ref m_firsts, .int (nI q_people), .ref m_secrets, .ref m_tried, .ref m_lanes, .ref m_lengths, .ref m_cells])), (m_tokens, .inl (E.2.1 1, 9, .inl f_tokens))]) (k' := 0) (n' := 0) C (run_S (As := [.long v2.toInt64, .long 10, .long 13]) (rest := []) C (r_in X.2.1 E ro v2.toInt64 10 13 v2.toInt 10 13 (Int32.toInt_toInt64 _) rfl rfl) ms_X12_in wl_X12_115 rfl rfl rfl rfl dX12_turns_29) (roK hro) [] [0, 1, 2, 3, 4, 5, 6, 7, 8, 9, 10, 11, 12, 13, 14, 15, 16, 17, 18, 19, 20, 21] rfl (gqk (by eq_refl)) (plk (by decide +kernel)) rfl (fun r_106 uz hw => ?_)
      rcases hw with hw | hw
      · refine an3 hw ?_
        clear hw
        intro he_109 he_110 h_107 hw
        have h_108 := hw
        clear hw
        have he_109 := he_109.symm
        subst he_109
        subst he_110
        refine ww_eq (ws' := [(m_manys, .inl (E.2.1 1, 18, .inl f_manys)), (m_reals, .inl (E.2.1 1, 18, .inl f_reals)), (m_factsOf, .inl (E.2.1 1, 432, .inl f_factsOf)), (m_possible, .inl (E.2.1 1, 1728, .inl f_possible)), (m_pairs, .inl (E.2.1 1, 576, .inl f_pairs)), (m_pile, .inl (E.2.1 1, 34, .inl f_pile)), (m_caseMany, .inl (E.2.1 1, 4, .inl f_caseMany)), (m_happen, .inl (E.2.1 1, 4, .inl f_happen)), (m_hasIf, .inl (E.2.1 3, 16, .inl f_hasIf)), (m_becomes, .inl (E.2.1 1, 16, .inl f_becomes)), (m_goneOf, .inl (E.2.1 1, 16, .inl f_goneOf)), (m_heard, .inl (E.2.1 1, 64, .inl f_heard)), (m_actMany, .inl (E.2.1 1, 25, .inl f_actMany)), (m_actOf, .inl (E.2.1 1, 800, .inl f_actOf)), (m_whom, .inl (E.2.1 1, 800, .inl f_whom)), (m_afters, .inl (E.2.1 1, 9, .inl f_afters)), (m_afterOf, .inl (E.2.1 1, 18, .inl f_afterOf)), (m_knowing, .inl (E.2.1 1, 4, .inl f_knowing)), (m_newAt, .inl (E.2.1 1, 24, .inl f_newAt)), (m_firsts, .inl (E.2.1 1, 4, .inl f_firsts)), (hm, .inr (12, [.ref m_manys, .ref m_reals, .ref m_factsOf, .ref m_possible, .int (nI q_undos), .int (nI q_models), .ref m_tape, .int (nI q_taped), .int q_fault, .int q_wrong, .int q_wrongAt, .int q_spot, .int q_place, .int q_token, .int q_value, .ref m_ends, .ref m_letters, .ref m_actOf, .ref m_whom, .ref m_actMany, .ref m_tokens, .ref m_afters, .ref m_afterOf, .int q_counted, .ref m_pile, .ref m_caseMany, .ref m_happen, .ref m_hasIf, .ref m_becomes, .ref m_goneOf, .ref m_heard, .ref m_pairs, .ref m_heaps, .int q_rounds, .int q_heapMany, .ref m_led, .ref m_newAt, .ref m_knowing, .ref m_firsts, .int (nI q_people), .ref m_secrets, .ref m_tried, .ref m_lanes, .ref m_lengths, .ref m_cells])), (m_tokens, .inl (E.2.1 1, 9, .inl f_tokens))]) ?_ rfl rfl rfl
        refine ww_if_ne_t (tgt := 37) C dX12_turns_32 (by decide) (by decide) ?_
        refine ww_aload_n C dX12_turns_37 0 rfl rfl ?_
        refine ww_get C fg_X12_7 20 rfl rfl dX12_turns_38 ?_
        refine ww_iconst (v := 0) C dX12_turns_41 rfl ?_
        have hbx_114 := (hb_manys 0 (by omega)).2
        refine ww_iald (v := (nI (cN f_manys 0))) C 0 rfl (vin rfl) (hb_manys 0 (by omega)).1 dX12_turns_42 ?_
        refine ww_if_ne (tgt := 49) C dX12_turns_43 (by decide) (fun c_115 => ?_) (fun c_115 => ?_)
        · have zc_115 : ((cN f_manys 0 : Nat) : Int) ≠ 0 := i_ne (nI_toInt (n := cN f_manys 0) (by omega)) rfl c_115
          refine ww_aload_n C dX12_turns_49 0 rfl rfl ?_
          refine ww_iconst (v := 0) C dX12_turns_50 rfl ?_
          refine ww_iconst (v := 1) C dX12_turns_51 rfl ?_
          refine ww_cv (wr := [(m_pairs, .inl (E.2.1 1, 576, .inl f_pairs)), (m_pile, .inl (E.2.1 1, 34, .inl f_pile)), (m_caseMany, .inl (E.2.1 1, 4, .inl f_caseMany)), (m_happen, .inl (E.2.1 1, 4, .inl f_happen)), (m_hasIf, .inl (E.2.1 3, 16, .inl f_hasIf)), (m_becomes, .inl (E.2.1 1, 16, .inl f_becomes)), (m_goneOf, .inl (E.2.1 1, 16, .inl f_goneOf)), (m_heard, .inl (E.2.1 1, 64, .inl f_heard)), (m_actMany, .inl (E.2.1 1, 25, .inl f_actMany)), (m_actOf, .inl (E.2.1 1, 800, .inl f_actOf)), (m_whom, .inl (E.2.1 1, 800, .inl f_whom)), (m_afters, .inl (E.2.1 1, 9, .inl f_afters)), (m_afterOf, .inl (E.2.1 1, 18, .inl f_afterOf)), (m_knowing, .inl (E.2.1 1, 4, .inl f_knowing)), (m_newAt, .inl (E.2.1 1, 24, .inl f_newAt)), (m_firsts, .inl (E.2.1 1, 4, .inl f_firsts)), (m_tokens, .inl (E.2.1 1, 9, .inl f_tokens))]) (k' := 0) (n' := 0) C (run_V (As := [.int 0, .int 1]) (rest := []) C (r_copy X.2.1 E ro hm 0 1 m_manys m_reals m_factsOf m_possible q_undos q_models m_tape q_taped q_fault q_wrong q_wrongAt q_spot q_place q_token q_value m_ends m_letters m_actOf m_whom m_actMany m_tokens m_afters m_afterOf q_counted m_pile m_caseMany m_happen m_hasIf m_becomes m_goneOf m_heard m_pairs m_heaps q_rounds q_heapMany m_led m_newAt m_knowing m_firsts q_people m_secrets m_tried m_lanes m_lengths m_cells f_manys f_reals f_factsOf f_possible hb_manys hb_reals hpg hwf (by omega) (by omega)) mi_X12_copy wl_X12_109 rfl 0 12 rfl rfl rfl rfl rfl dX12_turns_52) (roK hro) [20, 0, 1, 2, 3] [4, 5, 6, 7, 8, 9, 10, 11, 12, 13, 14, 15, 16, 17, 18, 19, 21] rfl (gqk (by eq_refl)) (plk (by decide +kernel)) rfl (fun uz hw => ?_)
          refine ex4 hw ?_
          clear hw
          intro f_manysz_117 f_realsz_118 f_factsOfz_119 f_possiblez_120 hw
          refine an8 hw ?_
          clear hw
          intro he_130 h_121 h_122 h_123 h_124 h_125 h_126 h_127 hw
          refine an1 hw ?_
          clear hw
          intro h_128 hw
          have h_129 := hw
          clear hw
          subst he_130
          refine ww_eq (ws' := [(m_pairs, .inl (E.2.1 1, 576, .inl f_pairs)), (m_pile, .inl (E.2.1 1, 34, .inl f_pile)), (m_caseMany, .inl (E.2.1 1, 4, .inl f_caseMany)), (m_happen, .inl (E.2.1 1, 4, .inl f_happen)), (m_hasIf, .inl (E.2.1 3, 16, .inl f_hasIf)), (m_becomes, .inl (E.2.1 1, 16, .inl f_becomes)), (m_goneOf, .inl (E.2.1 1, 16, .inl f_goneOf)), (m_heard, .inl (E.2.1 1, 64, .inl f_heard)), (m_actMany, .inl (E.2.1 1, 25, .inl f_actMany)), (m_actOf, .inl (E.2.1 1, 800, .inl f_actOf)), (m_whom, .inl (E.2.1 1, 800, .inl f_whom)), (m_afters, .inl (E.2.1 1, 9, .inl f_afters)), (m_afterOf, .inl (E.2.1 1, 18, .inl f_afterOf)), (m_knowing, .inl (E.2.1 1, 4, .inl f_knowing)), (m_newAt, .inl (E.2.1 1, 24, .inl f_newAt)), (m_firsts, .inl (E.2.1 1, 4, .inl f_firsts)), (m_tokens, .inl (E.2.1 1, 9, .inl f_tokens)), (hm, .inr (12, [.ref m_manys, .ref m_reals, .ref m_factsOf, .ref m_possible, .int (nI q_undos), .int (nI q_models), .ref m_tape, .int (nI q_taped), .int q_fault, .int q_wrong, .int q_wrongAt, .int q_spot, .int q_place, .int q_token, .int q_value, .ref m_ends, .ref m_letters, .ref m_actOf, .ref m_whom, .ref m_actMany, .ref m_tokens, .ref m_afters, .ref m_afterOf, .int q_counted, .ref m_pile, .ref m_caseMany, .ref m_happen, .ref m_hasIf, .ref m_becomes, .ref m_goneOf, .ref m_heard, .ref m_pairs, .ref m_heaps, .int q_rounds, .int q_heapMany, .ref m_led, .ref m_newAt, .ref m_knowing, .ref m_firsts, .int (nI q_people), .ref m_secrets, .ref m_tried, .ref m_lanes, .ref m_lengths, .ref m_cells])), (m_manys, .inl (E.2.1 1, 18, .inl f_manysz_117)), (m_reals, .inl (E.2.1 1, 18, .inl f_realsz_118)), (m_factsOf, .inl (E.2.1 1, 432, .inl f_factsOfz_119)), (m_possible, .inl (E.2.1 1, 1728, .inl f_possiblez_120))]) ?_ rfl rfl rfl
          have hrb0 := (hb_reals 0 (by omega)).2
          have hm1_ := cN_s (by omega) h_125
          have hr1_ := cN_s (by omega) h_126
          refine ww_iconst (v := 0) C dX12_turns_55 rfl ?_
          refine ww_istore (lv' := [(4, .int 0), (0, .ref hm), (1, .int v0), (2, .int v1), (3, .int v2)]) C dX12_turns_56 rfl rfl ?_
          have loop_58 : ∀ (fu : Nat) (k0 : Nat) (g_fi0 : Nat → Int32), (k0 ≤ 4) → (∀ k, k < k0 → g_fi0 k = -4) → 4 - k0 < fu → WW X 8 E 58 [(4, .int (nI k0)), (0, .ref hm), (1, .int v0), (2, .int v1), (3, .int v2)] [] [(m_pairs, .inl (E.2.1 1, 576, .inl f_pairs)), (m_pile, .inl (E.2.1 1, 34, .inl f_pile)), (m_caseMany, .inl (E.2.1 1, 4, .inl f_caseMany)), (m_happen, .inl (E.2.1 1, 4, .inl f_happen)), (m_hasIf, .inl (E.2.1 3, 16, .inl f_hasIf)), (m_becomes, .inl (E.2.1 1, 16, .inl f_becomes)), (m_goneOf, .inl (E.2.1 1, 16, .inl f_goneOf)), (m_heard, .inl (E.2.1 1, 64, .inl f_heard)), (m_actMany, .inl (E.2.1 1, 25, .inl f_actMany)), (m_actOf, .inl (E.2.1 1, 800, .inl f_actOf)), (m_whom, .inl (E.2.1 1, 800, .inl f_whom)), (m_afters, .inl (E.2.1 1, 9, .inl f_afters)), (m_afterOf, .inl (E.2.1 1, 18, .inl f_afterOf)), (m_knowing, .inl (E.2.1 1, 4, .inl f_knowing)), (m_newAt, .inl (E.2.1 1, 24, .inl f_newAt)), (m_firsts, .inl (E.2.1 1, 4, .inl g_fi0)), (m_tokens, .inl (E.2.1 1, 9, .inl f_tokens)), (hm, .inr (12, [.ref m_manys, .ref m_reals, .ref m_factsOf, .ref m_possible, .int (nI q_undos), .int (nI q_models), .ref m_tape, .int (nI q_taped), .int q_fault, .int q_wrong, .int q_wrongAt, .int q_spot, .int q_place, .int q_token, .int q_value, .ref m_ends, .ref m_letters, .ref m_actOf, .ref m_whom, .ref m_actMany, .ref m_tokens, .ref m_afters, .ref m_afterOf, .int q_counted, .ref m_pile, .ref m_caseMany, .ref m_happen, .ref m_hasIf, .ref m_becomes, .ref m_goneOf, .ref m_heard, .ref m_pairs, .ref m_heaps, .int q_rounds, .int q_heapMany, .ref m_led, .ref m_newAt, .ref m_knowing, .ref m_firsts, .int (nI q_people), .ref m_secrets, .ref m_tried, .ref m_lanes, .ref m_lengths, .ref m_cells])), (m_manys, .inl (E.2.1 1, 18, .inl f_manysz_117)), (m_reals, .inl (E.2.1 1, 18, .inl f_realsz_118)), (m_factsOf, .inl (E.2.1 1, 432, .inl f_factsOfz_119)), (m_possible, .inl (E.2.1 1, 1728, .inl f_possiblez_120))] 0 0 := by
            intro fu
            induction fu with
            | zero => intro k0 g_fi0 hk0 hf0 hmeas; exact absurd hmeas (Nat.not_lt_zero _)
            | succ fu ih_58 =>
              intro k0 g_fi0 hk0 hf0 hmeas
              refine ww_iload C dX12_turns_58 0 rfl ?_
              refine ww_iconst (v := 4) C dX12_turns_60 rfl ?_
              refine ww_icmp_ge (tgt := 79) C dX12_turns_61 (by decide) (fun c_131 => ?_) (fun c_131 => ?_)
              · have zc_131 : ((k0 : Nat) : Int) ≥ 4 := i_le rfl (nI_toInt (n := k0) (by omega)) c_131
                refine ww_iconst (v := 0) C dX12_turns_79 rfl ?_
                refine ww_istore (lv' := [(4, .int 0), (0, .ref hm), (1, .int v0), (2, .int v1), (3, .int v2)]) C dX12_turns_80 rfl rfl ?_
                refine ww_iconst (v := 0) C dX12_turns_82 rfl ?_
                refine ww_istore (lv' := [(5, .int 0), (4, .int 0), (0, .ref hm), (1, .int v0), (2, .int v1), (3, .int v2)]) C dX12_turns_83 rfl rfl ?_
                refine ww_iconst (v := 1) C dX12_turns_85 rfl ?_
                refine ww_istore (lv' := [(6, .int 1), (5, .int 0), (4, .int 0), (0, .ref hm), (1, .int v0), (2, .int v1), (3, .int v2)]) C dX12_turns_86 rfl rfl ?_
                have loop_88 : ∀ (fu : Nat) (mo : Nat) (tu : Nat) (wh : Int32) (gs_manys : Nat → Int32) (gs_reals : Nat → Int32) (gs_factsOf : Nat → Int32) (gs_possible : Nat → Int32) (gs_pairs : Nat → Int32) (gs_pile : Nat → Int32) (gs_knowing : Nat → Int32) (gs_newAt : Nat → Int32) (gs_firsts : Nat → Int32), (mo ≤ 1) → (cN gs_reals 1 < cN gs_manys 1) → (mo = 1 → ∀ i, i < tu → ¬ restG ((pgs f_manys f_reals f_factsOf f_possible) 0) (rEv f_caseMany f_happen f_hasIf f_actMany f_actOf f_whom f_becomes f_goneOf f_heard) (rTT f_tokens f_actMany f_actOf f_whom f_afterOf f_afters) v0 v1 i) → (mo = 0 → ∃ N, tu = N + 1 ∧ GOE ((pgs f_manys f_reals f_factsOf f_possible) 0) (rEv f_caseMany f_happen f_hasIf f_actMany f_actOf f_whom f_becomes f_goneOf f_heard) (rTT f_tokens f_actMany f_actOf f_whom f_afterOf f_afters) v0 v1 N ∧ BS wh (knS (goS ((pgs f_manys f_reals f_factsOf f_possible) 0) (rEv f_caseMany f_happen f_hasIf f_actMany f_actOf f_whom f_becomes f_goneOf f_heard) (rTT f_tokens f_actMany f_actOf f_whom f_afterOf f_afters) v0 v1 N) (rEv f_caseMany f_happen f_hasIf f_actMany f_actOf f_whom f_becomes f_goneOf f_heard) (rTT f_tokens f_actMany f_actOf f_whom f_afterOf f_afters) v0 v1 4)) → ((pgs gs_manys gs_reals gs_factsOf gs_possible) 1 = goS ((pgs f_manys f_reals f_factsOf f_possible) 0) (rEv f_caseMany f_happen f_hasIf f_actMany f_actOf f_whom f_becomes f_goneOf f_heard) (rTT f_tokens f_actMany f_actOf f_whom f_afterOf f_afters) v0 v1 tu) → (∀ k, k < 4 → gs_firsts k = fstS ((pgs f_manys f_reals f_factsOf f_possible) 0) (rEv f_caseMany f_happen f_hasIf f_actMany f_actOf f_whom f_becomes f_goneOf f_heard) (rTT f_tokens f_actMany f_actOf f_whom f_afterOf f_afters) v0 v1 k tu) → (KPA 0 (pgs f_manys f_reals f_factsOf f_possible) (pgs gs_manys gs_reals gs_factsOf gs_possible)) → (NB 18 24 gs_manys) → (NB 18 23 gs_reals) → (PG gs_manys gs_reals) → (WFP (pgs gs_manys gs_reals gs_factsOf gs_possible)) → 2 * cN gs_manys 1 + mo < fu → WW X 8 E 88 [(6, .int (nI mo)), (5, .int wh), (4, .int (nI tu)), (0, .ref hm), (1, .int v0), (2, .int v1), (3, .int v2)] [] [(m_pairs, .inl (E.2.1 1, 576, .inl gs_pairs)), (m_pile, .inl (E.2.1 1, 34, .inl gs_pile)), (m_caseMany, .inl (E.2.1 1, 4, .inl f_caseMany)), (m_happen, .inl (E.2.1 1, 4, .inl f_happen)), (m_hasIf, .inl (E.2.1 3, 16, .inl f_hasIf)), (m_becomes, .inl (E.2.1 1, 16, .inl f_becomes)), (m_goneOf, .inl (E.2.1 1, 16, .inl f_goneOf)), (m_heard, .inl (E.2.1 1, 64, .inl f_heard)), (m_actMany, .inl (E.2.1 1, 25, .inl f_actMany)), (m_actOf, .inl (E.2.1 1, 800, .inl f_actOf)), (m_whom, .inl (E.2.1 1, 800, .inl f_whom)), (m_afters, .inl (E.2.1 1, 9, .inl f_afters)), (m_afterOf, .inl (E.2.1 1, 18, .inl f_afterOf)), (m_knowing, .inl (E.2.1 1, 4, .inl gs_knowing)), (m_newAt, .inl (E.2.1 1, 24, .inl gs_newAt)), (m_firsts, .inl (E.2.1 1, 4, .inl gs_firsts)), (m_tokens, .inl (E.2.1 1, 9, .inl f_tokens)), (hm, .inr (12, [.ref m_manys, .ref m_reals, .ref m_factsOf, .ref m_possible, .int (nI q_undos), .int (nI q_models), .ref m_tape, .int (nI q_taped), .int q_fault, .int q_wrong, .int q_wrongAt, .int q_spot, .int q_place, .int q_token, .int q_value, .ref m_ends, .ref m_letters, .ref m_actOf, .ref m_whom, .ref m_actMany, .ref m_tokens, .ref m_afters, .ref m_afterOf, .int q_counted, .ref m_pile, .ref m_caseMany, .ref m_happen, .ref m_hasIf, .ref m_becomes, .ref m_goneOf, .ref m_heard, .ref m_pairs, .ref m_heaps, .int q_rounds, .int q_heapMany, .ref m_led, .ref m_newAt, .ref m_knowing, .ref m_firsts, .int (nI q_people), .ref m_secrets, .ref m_tried, .ref m_lanes, .ref m_lengths, .ref m_cells])), (m_manys, .inl (E.2.1 1, 18, .inl gs_manys)), (m_reals, .inl (E.2.1 1, 18, .inl gs_reals)), (m_factsOf, .inl (E.2.1 1, 432, .inl gs_factsOf)), (m_possible, .inl (E.2.1 1, 1728, .inl gs_possible))] 0 0 := by
                  intro fu
                  induction fu with
                  | zero => intro mo tu wh gs_manys gs_reals gs_factsOf gs_possible gs_pairs gs_pile gs_knowing gs_newAt gs_firsts hmo hrm hmo1 hmo0 hg hfi hoth hnb_m_manys_88 hnb_m_reals_88 hpg_88 hwf_88 hmeas; exact absurd hmeas (Nat.not_lt_zero _)
                  | succ fu ih_88 =>
                    intro mo tu wh gs_manys gs_reals gs_factsOf gs_possible gs_pairs gs_pile gs_knowing gs_newAt gs_firsts hmo hrm hmo1 hmo0 hg hfi hoth hnb_m_manys_88 hnb_m_reals_88 hpg_88 hwf_88 hmeas
                    refine ww_iload C dX12_turns_88 0 rfl ?_
                    refine ww_if_eq (tgt := 201) C dX12_turns_90 (by decide) (fun c_132 => ?_) (fun c_132 => ?_)
                    · have zc_132 : ((mo : Nat) : Int) = 0 := i_eq (nI_toInt (n := mo) (by omega)) rfl c_132
                      obtain ⟨N, hN, hgoe, hknN⟩ := hmo0 (by omega)
                      subst hN
                      refine ww_iload_n C dX12_turns_201 6 rfl rfl ?_
                      refine ww_if_ne (tgt := 210) C dX12_turns_202 (by decide) (fun c_133 => ?_) (fun c_133 => ?_)
                      · have zc_133 : v2.toInt ≠ 0 := i_ne rfl rfl c_133
                        refine ww_iload_n C dX12_turns_210 6 rfl rfl ?_
                        refine ww_iconst (v := 1) C dX12_turns_211 rfl ?_
                        refine ww_icmp_ne (tgt := 224) C dX12_turns_212 (by decide) (fun c_134 => ?_) (fun c_134 => ?_)
                        · have zc_134 : v2.toInt ≠ 1 := i_ne rfl rfl c_134
                          refine ww_iload_n C dX12_turns_224 6 rfl rfl ?_
                          refine ww_iconst (v := 2) C dX12_turns_225 rfl ?_
                          refine ww_icmp_ne (tgt := 234) C dX12_turns_226 (by decide) (fun c_135 => ?_) (fun c_135 => ?_)
                          · have zc_135 : v2.toInt ≠ 2 := i_ne rfl rfl c_135
                            obtain ⟨j_136, hj_136, rfl⟩ := i_nat (x := v2) (N := 13) (by omega) (by omega)
                            have hzj_136 := nI_toInt (n := j_136) (by omega)
                            refine ww_aload_n C dX12_turns_234 3 rfl rfl ?_
                            refine ww_get C fg_X12_87 17 rfl rfl dX12_turns_235 ?_
                            refine ww_iload_n C dX12_turns_238 6 rfl rfl ?_
                            refine ww_bipush (v := 10) C dX12_turns_239 rfl ?_
                            refine ww_isub (v := (nI (j_136 - 10))) C dX12_turns_241 (pk_sub (a := j_136) (b := 10) (by omega)) ?_
                            obtain ⟨x_137, ex_137⟩ : ∃ z : Int32, gs_firsts (j_136 - 10) = z := ⟨_, rfl⟩
                            refine ww_iald (v := x_137) C 15 rfl (vp_in_nI (by omega) (by omega)) (ldn (by omega) ex_137) dX12_turns_242 ?_
                            exact ww_iret (u := [(hm, .inr (12, [.ref m_manys, .ref m_reals, .ref m_factsOf, .ref m_possible, .int (nI q_undos), .int (nI q_models), .ref m_tape, .int (nI q_taped), .int q_fault, .int q_wrong, .int q_wrongAt, .int q_spot, .int q_place, .int q_token, .int q_value, .ref m_ends, .ref m_letters, .ref m_actOf, .ref m_whom, .ref m_actMany, .ref m_tokens, .ref m_afters, .ref m_afterOf, .int q_counted, .ref m_pile, .ref m_caseMany, .ref m_happen, .ref m_hasIf, .ref m_becomes, .ref m_goneOf, .ref m_heard, .ref m_pairs, .ref m_heaps, .int q_rounds, .int q_heapMany, .ref m_led, .ref m_newAt, .ref m_knowing, .ref m_firsts, .int (nI q_people), .ref m_secrets, .ref m_tried, .ref m_lanes, .ref m_lengths, .ref m_cells])), (m_manys, .inl (E.2.1 1, 18, .inl gs_manys)), (m_reals, .inl (E.2.1 1, 18, .inl gs_reals)), (m_factsOf, .inl (E.2.1 1, 432, .inl gs_factsOf)), (m_possible, .inl (E.2.1 1, 1728, .inl gs_possible)), (m_pairs, .inl (E.2.1 1, 576, .inl gs_pairs)), (m_pile, .inl (E.2.1 1, 34, .inl gs_pile)), (m_caseMany, .inl (E.2.1 1, 4, .inl f_caseMany)), (m_happen, .inl (E.2.1 1, 4, .inl f_happen)), (m_hasIf, .inl (E.2.1 3, 16, .inl f_hasIf)), (m_becomes, .inl (E.2.1 1, 16, .inl f_becomes)), (m_goneOf, .inl (E.2.1 1, 16, .inl f_goneOf)), (m_heard, .inl (E.2.1 1, 64, .inl f_heard)), (m_actMany, .inl (E.2.1 1, 25, .inl f_actMany)), (m_actOf, .inl (E.2.1 1, 800, .inl f_actOf)), (m_whom, .inl (E.2.1 1, 800, .inl f_whom)), (m_afters, .inl (E.2.1 1, 9, .inl f_afters)), (m_afterOf, .inl (E.2.1 1, 18, .inl f_afterOf)), (m_knowing, .inl (E.2.1 1, 4, .inl gs_knowing)), (m_newAt, .inl (E.2.1 1, 24, .inl gs_newAt)), (m_firsts, .inl (E.2.1 1, 4, .inl gs_firsts)), (m_tokens, .inl (E.2.1 1, 9, .inl f_tokens))]) C hT [17, 18, 19, 20, 21, 0, 1, 2, 3, 4, 5, 6, 7, 8, 9, 10, 11, 12, 13, 14, 15, 16] (gqk (by eq_refl)) (ndk (by decide +kernel)) rfl rfl dX12_turns_243 (⟨gs_manys, gs_reals, gs_factsOf, gs_possible, gs_pairs, gs_pile, gs_knowing, gs_newAt, gs_firsts, rfl, hnb_m_manys_88, hnb_m_reals_88, hpg_88, hwf_88, (Or.inr (Or.inr ⟨by omega, can_TT h_2, show cN f_manys 0 ≠ 0 by omega, N, hgoe, by rw [if_neg (show ¬ (nI j_136).toInt = 0 by omega), if_neg (show ¬ (nI j_136).toInt = 1 by omega), if_neg (show ¬ (nI j_136).toInt = 2 by omega), tN_n (by omega)]; exact (ex_137).symm.trans (hfi _ (by omega))⟩)), hoth⟩)
                          · have zc_135 : v2.toInt = 2 := i_eq rfl rfl c_135
                            omega
                        · have zc_134 : v2.toInt = 1 := i_eq rfl rfl c_134
                          omega
                      · have zc_133 : v2.toInt = 0 := i_eq rfl rfl c_133
                        omega
                    · have zc_132 : ((mo : Nat) : Int) ≠ 0 := i_ne (nI_toInt (n := mo) (by omega)) rfl c_132
                      refine ww_iinc (j := 2) (v := (nI (tu + 1))) (lv' := [(4, .int (nI (tu + 1))), (6, .int (nI mo)), (5, .int wh), (0, .ref hm), (1, .int v0), (2, .int v1), (3, .int v2)]) C dX12_turns_93 rfl (nI_add tu 1) rfl rfl ?_
                      refine ww_aload_n C dX12_turns_96 3 rfl rfl ?_
                      refine ww_iconst (v := 1) C dX12_turns_97 rfl ?_
                      refine ww_iload_n C dX12_turns_98 4 rfl rfl ?_
                      refine ww_iload_n C dX12_turns_99 5 rfl rfl ?_
                      refine ww_ci (wr := [(m_newAt, .inl (E.2.1 1, 24, .inl gs_newAt)), (m_firsts, .inl (E.2.1 1, 4, .inl gs_firsts)), (m_tokens, .inl (E.2.1 1, 9, .inl f_tokens))]) (k' := 0) (n' := 0) C (run_V (As := [.int 1, .int v0, .int v1]) (rest := []) C (r_layKnowing X.2.1 E ro hm 1 v0 v1 m_manys m_reals m_factsOf m_possible q_undos q_models m_tape q_taped q_fault q_wrong q_wrongAt q_spot q_place q_token q_value m_ends m_letters m_actOf m_whom m_actMany m_tokens m_afters m_afterOf q_counted m_pile m_caseMany m_happen m_hasIf m_becomes m_goneOf m_heard m_pairs m_heaps q_rounds q_heapMany m_led m_newAt m_knowing m_firsts q_people m_secrets m_tried m_lanes m_lengths m_cells gs_manys gs_reals gs_factsOf gs_possible gs_pairs gs_pile f_caseMany f_happen f_hasIf f_becomes f_goneOf f_heard f_actMany f_actOf f_whom f_afters f_afterOf gs_knowing (rTT f_tokens f_actMany f_actOf f_whom f_afterOf f_afters) hnb_m_manys_88 hnb_m_reals_88 hpg_88 hwf_88 hb_caseMany hb_happen hb_actMany hhp hsv hb_afters hb_afterOf (by omega) hWI (tq_of h_2 hWT)) mi_X12_layKnowing wl_X12_315 rfl 0 12 rfl rfl rfl rfl rfl dX12_turns_100) (roK hro) [17, 18, 19, 20, 21, 0, 1, 2, 3, 4, 5, 6, 7, 8, 9, 10, 11, 12, 13] [14, 15, 16] (gqk (by eq_refl)) rfl (plk (by decide +kernel)) rfl (fun r_138 uz hw => ?_)
                      refine ex7 hw ?_
                      clear hw
                      intro f_manysz_139 f_realsz_140 f_factsOfz_141 f_possiblez_142 f_pairsz_143 f_pilez_144 f_knowingz_145 hw
                      refine an8 hw ?_
                      clear hw
                      intro he_155 h_146 h_147 h_148 h_149 h_150 h_151 h_152 hw
                      refine an1 hw ?_
                      clear hw
                      intro h_153 hw
                      have h_154 := hw
                      clear hw
                      subst he_155
                      refine ww_eq (ws' := [(m_newAt, .inl (E.2.1 1, 24, .inl gs_newAt)), (m_firsts, .inl (E.2.1 1, 4, .inl gs_firsts)), (m_tokens, .inl (E.2.1 1, 9, .inl f_tokens)), (hm, .inr (12, [.ref m_manys, .ref m_reals, .ref m_factsOf, .ref m_possible, .int (nI q_undos), .int (nI q_models), .ref m_tape, .int (nI q_taped), .int q_fault, .int q_wrong, .int q_wrongAt, .int q_spot, .int q_place, .int q_token, .int q_value, .ref m_ends, .ref m_letters, .ref m_actOf, .ref m_whom, .ref m_actMany, .ref m_tokens, .ref m_afters, .ref m_afterOf, .int q_counted, .ref m_pile, .ref m_caseMany, .ref m_happen, .ref m_hasIf, .ref m_becomes, .ref m_goneOf, .ref m_heard, .ref m_pairs, .ref m_heaps, .int q_rounds, .int q_heapMany, .ref m_led, .ref m_newAt, .ref m_knowing, .ref m_firsts, .int (nI q_people), .ref m_secrets, .ref m_tried, .ref m_lanes, .ref m_lengths, .ref m_cells])), (m_manys, .inl (E.2.1 1, 18, .inl f_manysz_139)), (m_reals, .inl (E.2.1 1, 18, .inl f_realsz_140)), (m_factsOf, .inl (E.2.1 1, 432, .inl f_factsOfz_141)), (m_possible, .inl (E.2.1 1, 1728, .inl f_possiblez_142)), (m_pairs, .inl (E.2.1 1, 576, .inl f_pairsz_143)), (m_pile, .inl (E.2.1 1, 34, .inl f_pilez_144)), (m_caseMany, .inl (E.2.1 1, 4, .inl f_caseMany)), (m_happen, .inl (E.2.1 1, 4, .inl f_happen)), (m_hasIf, .inl (E.2.1 3, 16, .inl f_hasIf)), (m_becomes, .inl (E.2.1 1, 16, .inl f_becomes)), (m_goneOf, .inl (E.2.1 1, 16, .inl f_goneOf)), (m_heard, .inl (E.2.1 1, 64, .inl f_heard)), (m_actMany, .inl (E.2.1 1, 25, .inl f_actMany)), (m_actOf, .inl (E.2.1 1, 800, .inl f_actOf)), (m_whom, .inl (E.2.1 1, 800, .inl f_whom)), (m_afters, .inl (E.2.1 1, 9, .inl f_afters)), (m_afterOf, .inl (E.2.1 1, 18, .inl f_afterOf)), (m_knowing, .inl (E.2.1 1, 4, .inl f_knowingz_145))]) ?_ rfl rfl rfl
                      have hl0 := KP.at h_150 (p := 1) (by omega)
                      have hl1 := KP.at h_151 (p := 1) (by omega)
                      have hlb := (h_146 1 (by omega)).2
                      have hP1 : (pgs f_manysz_139 f_realsz_140 f_factsOfz_141 f_possiblez_142) 1 = (pgs gs_manys gs_reals gs_factsOf gs_possible) 1 := h_154 1 (by omega) (Or.inl (Nat.le_refl _))
                      have hga : (pgs f_manysz_139 f_realsz_140 f_factsOfz_141 f_possiblez_142) 1 = goS ((pgs f_manys f_reals f_factsOf f_possible) 0) (rEv f_caseMany f_happen f_hasIf f_actMany f_actOf f_whom f_becomes f_goneOf f_heard) (rTT f_tokens f_actMany f_actOf f_whom f_afterOf f_afters) v0 v1 tu := hP1.trans hg
                      have hknq : BS r_138 (knS (goS ((pgs f_manys f_reals f_factsOf f_possible) 0) (rEv f_caseMany f_happen f_hasIf f_actMany f_actOf f_whom f_becomes f_goneOf f_heard) (rTT f_tokens f_actMany f_actOf f_whom f_afterOf f_afters) v0 v1 tu) (rEv f_caseMany f_happen f_hasIf f_actMany f_actOf f_whom f_becomes f_goneOf f_heard) (rTT f_tokens f_actMany f_actOf f_whom f_afterOf f_afters) v0 v1 4) := by rw [← hg]; exact h_152
                      have hw1_ := h_149 1 (by omega)
                      refine ww_istore (lv' := [(5, .int r_138), (4, .int (nI (tu + 1))), (6, .int (nI mo)), (0, .ref hm), (1, .int v0), (2, .int v1), (3, .int v2)]) C dX12_turns_103 rfl rfl ?_
                      refine ww_iconst (v := 0) C dX12_turns_105 rfl ?_
                      refine ww_istore (lv' := [(7, .int 0), (5, .int r_138), (4, .int (nI (tu + 1))), (6, .int (nI mo)), (0, .ref hm), (1, .int v0), (2, .int v1), (3, .int v2)]) C dX12_turns_106 rfl rfl ?_
                      have loop_108 : ∀ (fu : Nat) (k7 : Nat) (g_fi7 : Nat → Int32), (k7 ≤ 4) → (∀ k', k' < 4 → g_fi7 k' = if k' < k7 then fstS ((pgs f_manys f_reals f_factsOf f_possible) 0) (rEv f_caseMany f_happen f_hasIf f_actMany f_actOf f_whom f_becomes f_goneOf f_heard) (rTT f_tokens f_actMany f_actOf f_whom f_afterOf f_afters) v0 v1 k' (tu + 1) else fstS ((pgs f_manys f_reals f_factsOf f_possible) 0) (rEv f_caseMany f_happen f_hasIf f_actMany f_actOf f_whom f_becomes f_goneOf f_heard) (rTT f_tokens f_actMany f_actOf f_whom f_afterOf f_afters) v0 v1 k' tu) → 4 - k7 < fu → WW X 8 E 108 [(7, .int (nI k7)), (5, .int r_138), (4, .int (nI (tu + 1))), (6, .int (nI mo)), (0, .ref hm), (1, .int v0), (2, .int v1), (3, .int v2)] [] [(m_newAt, .inl (E.2.1 1, 24, .inl gs_newAt)), (m_firsts, .inl (E.2.1 1, 4, .inl g_fi7)), (m_tokens, .inl (E.2.1 1, 9, .inl f_tokens)), (hm, .inr (12, [.ref m_manys, .ref m_reals, .ref m_factsOf, .ref m_possible, .int (nI q_undos), .int (nI q_models), .ref m_tape, .int (nI q_taped), .int q_fault, .int q_wrong, .int q_wrongAt, .int q_spot, .int q_place, .int q_token, .int q_value, .ref m_ends, .ref m_letters, .ref m_actOf, .ref m_whom, .ref m_actMany, .ref m_tokens, .ref m_afters, .ref m_afterOf, .int q_counted, .ref m_pile, .ref m_caseMany, .ref m_happen, .ref m_hasIf, .ref m_becomes, .ref m_goneOf, .ref m_heard, .ref m_pairs, .ref m_heaps, .int q_rounds, .int q_heapMany, .ref m_led, .ref m_newAt, .ref m_knowing, .ref m_firsts, .int (nI q_people), .ref m_secrets, .ref m_tried, .ref m_lanes, .ref m_lengths, .ref m_cells])), (m_manys, .inl (E.2.1 1, 18, .inl f_manysz_139)), (m_reals, .inl (E.2.1 1, 18, .inl f_realsz_140)), (m_factsOf, .inl (E.2.1 1, 432, .inl f_factsOfz_141)), (m_possible, .inl (E.2.1 1, 1728, .inl f_possiblez_142)), (m_pairs, .inl (E.2.1 1, 576, .inl f_pairsz_143)), (m_pile, .inl (E.2.1 1, 34, .inl f_pilez_144)), (m_caseMany, .inl (E.2.1 1, 4, .inl f_caseMany)), (m_happen, .inl (E.2.1 1, 4, .inl f_happen)), (m_hasIf, .inl (E.2.1 3, 16, .inl f_hasIf)), (m_becomes, .inl (E.2.1 1, 16, .inl f_becomes)), (m_goneOf, .inl (E.2.1 1, 16, .inl f_goneOf)), (m_heard, .inl (E.2.1 1, 64, .inl f_heard)), (m_actMany, .inl (E.2.1 1, 25, .inl f_actMany)), (m_actOf, .inl (E.2.1 1, 800, .inl f_actOf)), (m_whom, .inl (E.2.1 1, 800, .inl f_whom)), (m_afters, .inl (E.2.1 1, 9, .inl f_afters)), (m_afterOf, .inl (E.2.1 1, 18, .inl f_afterOf)), (m_knowing, .inl (E.2.1 1, 4, .inl f_knowingz_145))] 0 0 := by
                        intro fu
                        induction fu with
                        | zero => intro k7 g_fi7 hk7 hfi7 hmeas; exact absurd hmeas (Nat.not_lt_zero _)
                        | succ fu ih_108 =>
                          intro k7 g_fi7 hk7 hfi7 hmeas
                          refine ww_iload C dX12_turns_108 0 rfl ?_
                          refine ww_iconst (v := 4) C dX12_turns_110 rfl ?_
                          refine ww_icmp_ge (tgt := 162) C dX12_turns_111 (by decide) (fun c_156 => ?_) (fun c_156 => ?_)
                          · have zc_156 : ((k7 : Nat) : Int) ≥ 4 := i_le rfl (nI_toInt (n := k7) (by omega)) c_156
                            refine ww_aload_n C dX12_turns_162 4 rfl rfl ?_
                            refine ww_iconst (v := 1) C dX12_turns_163 rfl ?_
                            refine ww_iload_n C dX12_turns_164 5 rfl rfl ?_
                            refine ww_ci (wr := [(m_newAt, .inl (E.2.1 1, 24, .inl gs_newAt)), (m_firsts, .inl (E.2.1 1, 4, .inl g_fi7)), (m_tokens, .inl (E.2.1 1, 9, .inl f_tokens)), (m_factsOf, .inl (E.2.1 1, 432, .inl f_factsOfz_141)), (m_possible, .inl (E.2.1 1, 1728, .inl f_possiblez_142)), (m_pairs, .inl (E.2.1 1, 576, .inl f_pairsz_143)), (m_pile, .inl (E.2.1 1, 34, .inl f_pilez_144)), (m_caseMany, .inl (E.2.1 1, 4, .inl f_caseMany)), (m_happen, .inl (E.2.1 1, 4, .inl f_happen)), (m_hasIf, .inl (E.2.1 3, 16, .inl f_hasIf)), (m_becomes, .inl (E.2.1 1, 16, .inl f_becomes)), (m_goneOf, .inl (E.2.1 1, 16, .inl f_goneOf)), (m_heard, .inl (E.2.1 1, 64, .inl f_heard)), (m_actMany, .inl (E.2.1 1, 25, .inl f_actMany)), (m_actOf, .inl (E.2.1 1, 800, .inl f_actOf)), (m_whom, .inl (E.2.1 1, 800, .inl f_whom)), (m_afters, .inl (E.2.1 1, 9, .inl f_afters)), (m_afterOf, .inl (E.2.1 1, 18, .inl f_afterOf))]) (k' := 0) (n' := 0) C (run_V (As := [.int 1, .int v0]) (rest := []) C (r_staying X.2.1 E ro hm 1 v0 m_manys m_reals m_factsOf m_possible q_undos q_models m_tape q_taped q_fault q_wrong q_wrongAt q_spot q_place q_token q_value m_ends m_letters m_actOf m_whom m_actMany m_tokens m_afters m_afterOf q_counted m_pile m_caseMany m_happen m_hasIf m_becomes m_goneOf m_heard m_pairs m_heaps q_rounds q_heapMany m_led m_newAt m_knowing m_firsts q_people m_secrets m_tried m_lanes m_lengths m_cells f_manysz_139 f_realsz_140 f_knowingz_145 ((pgs f_manysz_139 f_realsz_140 f_factsOfz_141 f_possiblez_142) 1) (rEv f_caseMany f_happen f_hasIf f_actMany f_actOf f_whom f_becomes f_goneOf f_heard) (rTT f_tokens f_actMany f_actOf f_whom f_afterOf f_afters) v1 h_146 h_147 h_148 (by omega) rfl rfl (fun j hj hb => by rw [hP1]; exact h_153 j hj hb) (tq_ask h_2 hWT)) mi_X12_staying wl_X12_318 rfl 0 12 rfl rfl rfl rfl rfl dX12_turns_165) (roK hro) [3, 4, 5, 21] [0, 1, 2, 6, 7, 8, 9, 10, 11, 12, 13, 14, 15, 16, 17, 18, 19, 20] rfl (gqk (by eq_refl)) (plk (by decide +kernel)) rfl (fun r_157 uz hw => ?_)
                            refine an1 hw ?_
                            clear hw
                            intro he_159 hw
                            have h_158 := hw
                            clear hw
                            subst he_159
                            refine ww_eq (ws' := [(m_newAt, .inl (E.2.1 1, 24, .inl gs_newAt)), (m_firsts, .inl (E.2.1 1, 4, .inl g_fi7)), (m_tokens, .inl (E.2.1 1, 9, .inl f_tokens)), (m_factsOf, .inl (E.2.1 1, 432, .inl f_factsOfz_141)), (m_possible, .inl (E.2.1 1, 1728, .inl f_possiblez_142)), (m_pairs, .inl (E.2.1 1, 576, .inl f_pairsz_143)), (m_pile, .inl (E.2.1 1, 34, .inl f_pilez_144)), (m_caseMany, .inl (E.2.1 1, 4, .inl f_caseMany)), (m_happen, .inl (E.2.1 1, 4, .inl f_happen)), (m_hasIf, .inl (E.2.1 3, 16, .inl f_hasIf)), (m_becomes, .inl (E.2.1 1, 16, .inl f_becomes)), (m_goneOf, .inl (E.2.1 1, 16, .inl f_goneOf)), (m_heard, .inl (E.2.1 1, 64, .inl f_heard)), (m_actMany, .inl (E.2.1 1, 25, .inl f_actMany)), (m_actOf, .inl (E.2.1 1, 800, .inl f_actOf)), (m_whom, .inl (E.2.1 1, 800, .inl f_whom)), (m_afters, .inl (E.2.1 1, 9, .inl f_afters)), (m_afterOf, .inl (E.2.1 1, 18, .inl f_afterOf)), (hm, .inr (12, [.ref m_manys, .ref m_reals, .ref m_factsOf, .ref m_possible, .int (nI q_undos), .int (nI q_models), .ref m_tape, .int (nI q_taped), .int q_fault, .int q_wrong, .int q_wrongAt, .int q_spot, .int q_place, .int q_token, .int q_value, .ref m_ends, .ref m_letters, .ref m_actOf, .ref m_whom, .ref m_actMany, .ref m_tokens, .ref m_afters, .ref m_afterOf, .int q_counted, .ref m_pile, .ref m_caseMany, .ref m_happen, .ref m_hasIf, .ref m_becomes, .ref m_goneOf, .ref m_heard, .ref m_pairs, .ref m_heaps, .int q_rounds, .int q_heapMany, .ref m_led, .ref m_newAt, .ref m_knowing, .ref m_firsts, .int (nI q_people), .ref m_secrets, .ref m_tried, .ref m_lanes, .ref m_lengths, .ref m_cells])), (m_manys, .inl (E.2.1 1, 18, .inl f_manysz_139)), (m_reals, .inl (E.2.1 1, 18, .inl f_realsz_140)), (m_knowing, .inl (E.2.1 1, 4, .inl f_knowingz_145))]) ?_ rfl rfl rfl
                            have hst1 := h_158
                            refine ww_istore (lv' := [(7, .int r_157), (5, .int r_138), (4, .int (nI (tu + 1))), (6, .int (nI mo)), (0, .ref hm), (1, .int v0), (2, .int v1), (3, .int v2)]) C dX12_turns_168 rfl rfl ?_
                            refine ww_iload C dX12_turns_170 0 rfl ?_
                            refine ww_aload_n C dX12_turns_172 4 rfl rfl ?_
                            refine ww_get C fg_X12_7 18 rfl rfl dX12_turns_173 ?_
                            refine ww_iconst (v := 1) C dX12_turns_176 rfl ?_
                            have hbx_160 := (h_146 1 (by omega)).2
                            refine ww_iald (v := (nI (cN f_manysz_139 1))) C 19 rfl (vin rfl) (h_146 1 (by omega)).1 dX12_turns_177 ?_
                            refine ww_ci (wr := [(m_newAt, .inl (E.2.1 1, 24, .inl gs_newAt)), (m_firsts, .inl (E.2.1 1, 4, .inl g_fi7)), (m_tokens, .inl (E.2.1 1, 9, .inl f_tokens)), (m_factsOf, .inl (E.2.1 1, 432, .inl f_factsOfz_141)), (m_possible, .inl (E.2.1 1, 1728, .inl f_possiblez_142)), (m_pairs, .inl (E.2.1 1, 576, .inl f_pairsz_143)), (m_pile, .inl (E.2.1 1, 34, .inl f_pilez_144)), (m_caseMany, .inl (E.2.1 1, 4, .inl f_caseMany)), (m_happen, .inl (E.2.1 1, 4, .inl f_happen)), (m_hasIf, .inl (E.2.1 3, 16, .inl f_hasIf)), (m_becomes, .inl (E.2.1 1, 16, .inl f_becomes)), (m_goneOf, .inl (E.2.1 1, 16, .inl f_goneOf)), (m_heard, .inl (E.2.1 1, 64, .inl f_heard)), (m_actMany, .inl (E.2.1 1, 25, .inl f_actMany)), (m_actOf, .inl (E.2.1 1, 800, .inl f_actOf)), (m_whom, .inl (E.2.1 1, 800, .inl f_whom)), (m_afters, .inl (E.2.1 1, 9, .inl f_afters)), (m_afterOf, .inl (E.2.1 1, 18, .inl f_afterOf)), (hm, .inr (12, [.ref m_manys, .ref m_reals, .ref m_factsOf, .ref m_possible, .int (nI q_undos), .int (nI q_models), .ref m_tape, .int (nI q_taped), .int q_fault, .int q_wrong, .int q_wrongAt, .int q_spot, .int q_place, .int q_token, .int q_value, .ref m_ends, .ref m_letters, .ref m_actOf, .ref m_whom, .ref m_actMany, .ref m_tokens, .ref m_afters, .ref m_afterOf, .int q_counted, .ref m_pile, .ref m_caseMany, .ref m_happen, .ref m_hasIf, .ref m_becomes, .ref m_goneOf, .ref m_heard, .ref m_pairs, .ref m_heaps, .int q_rounds, .int q_heapMany, .ref m_led, .ref m_newAt, .ref m_knowing, .ref m_firsts, .int (nI q_people), .ref m_secrets, .ref m_tried, .ref m_lanes, .ref m_lengths, .ref m_cells])), (m_manys, .inl (E.2.1 1, 18, .inl f_manysz_139)), (m_reals, .inl (E.2.1 1, 18, .inl f_realsz_140)), (m_knowing, .inl (E.2.1 1, 4, .inl f_knowingz_145))]) (k' := 0) (n' := 0) C (run_S (As := [.int (nI (cN f_manysz_139 1))]) (rest := [.int r_157]) C (r_all X.2.1 E ro (cN f_manysz_139 1) (by omega)) ms_X12_all wl_X12_230 rfl rfl rfl rfl dX12_turns_178) (roK hro) [] [0, 1, 2, 3, 4, 5, 6, 7, 8, 9, 10, 11, 12, 13, 14, 15, 16, 17, 18, 19, 20, 21] rfl (gqk (by eq_refl)) (plk (by decide +kernel)) rfl (fun r_161 uz hw => ?_)
                            refine an1 hw ?_
                            clear hw
                            intro he_163 hw
                            have h_162 := hw
                            clear hw
                            subst he_163
                            refine ww_eq (ws' := [(m_newAt, .inl (E.2.1 1, 24, .inl gs_newAt)), (m_firsts, .inl (E.2.1 1, 4, .inl g_fi7)), (m_tokens, .inl (E.2.1 1, 9, .inl f_tokens)), (m_factsOf, .inl (E.2.1 1, 432, .inl f_factsOfz_141)), (m_possible, .inl (E.2.1 1, 1728, .inl f_possiblez_142)), (m_pairs, .inl (E.2.1 1, 576, .inl f_pairsz_143)), (m_pile, .inl (E.2.1 1, 34, .inl f_pilez_144)), (m_caseMany, .inl (E.2.1 1, 4, .inl f_caseMany)), (m_happen, .inl (E.2.1 1, 4, .inl f_happen)), (m_hasIf, .inl (E.2.1 3, 16, .inl f_hasIf)), (m_becomes, .inl (E.2.1 1, 16, .inl f_becomes)), (m_goneOf, .inl (E.2.1 1, 16, .inl f_goneOf)), (m_heard, .inl (E.2.1 1, 64, .inl f_heard)), (m_actMany, .inl (E.2.1 1, 25, .inl f_actMany)), (m_actOf, .inl (E.2.1 1, 800, .inl f_actOf)), (m_whom, .inl (E.2.1 1, 800, .inl f_whom)), (m_afters, .inl (E.2.1 1, 9, .inl f_afters)), (m_afterOf, .inl (E.2.1 1, 18, .inl f_afterOf)), (hm, .inr (12, [.ref m_manys, .ref m_reals, .ref m_factsOf, .ref m_possible, .int (nI q_undos), .int (nI q_models), .ref m_tape, .int (nI q_taped), .int q_fault, .int q_wrong, .int q_wrongAt, .int q_spot, .int q_place, .int q_token, .int q_value, .ref m_ends, .ref m_letters, .ref m_actOf, .ref m_whom, .ref m_actMany, .ref m_tokens, .ref m_afters, .ref m_afterOf, .int q_counted, .ref m_pile, .ref m_caseMany, .ref m_happen, .ref m_hasIf, .ref m_becomes, .ref m_goneOf, .ref m_heard, .ref m_pairs, .ref m_heaps, .int q_rounds, .int q_heapMany, .ref m_led, .ref m_newAt, .ref m_knowing, .ref m_firsts, .int (nI q_people), .ref m_secrets, .ref m_tried, .ref m_lanes, .ref m_lengths, .ref m_cells])), (m_manys, .inl (E.2.1 1, 18, .inl f_manysz_139)), (m_reals, .inl (E.2.1 1, 18, .inl f_realsz_140)), (m_knowing, .inl (E.2.1 1, 4, .inl f_knowingz_145))]) ?_ rfl rfl rfl
                            refine ww_icmp_eq (tgt := 188) C dX12_turns_181 (by decide) (fun c_164 => ?_) (fun c_164 => ?_)
                            · have zc_164 : r_157.toInt = r_161.toInt := i_eq rfl rfl c_164
                              refine ww_iconst (v := 0) C dX12_turns_188 rfl ?_
                              refine ww_istore (lv' := [(6, .int 0), (7, .int r_157), (5, .int r_138), (4, .int (nI (tu + 1))), (0, .ref hm), (1, .int v0), (2, .int v1), (3, .int v2)]) C dX12_turns_189 rfl rfl ?_
                              have hre1 : bt r_157 (cN f_realsz_140 1) = true := st_re hw1_ hst1 (show cN f_realsz_140 1 < cN f_manysz_139 1 by omega) (show cN f_manysz_139 1 ≤ 32 by omega)
                              refine ww_aload_n C dX12_turns_191 4 rfl rfl ?_
                              refine ww_iconst (v := 1) C dX12_turns_192 rfl ?_
                              refine ww_iload C dX12_turns_193 1 rfl ?_
                              refine ww_cv (wr := [(m_firsts, .inl (E.2.1 1, 4, .inl g_fi7)), (m_tokens, .inl (E.2.1 1, 9, .inl f_tokens)), (m_pairs, .inl (E.2.1 1, 576, .inl f_pairsz_143)), (m_pile, .inl (E.2.1 1, 34, .inl f_pilez_144)), (m_caseMany, .inl (E.2.1 1, 4, .inl f_caseMany)), (m_happen, .inl (E.2.1 1, 4, .inl f_happen)), (m_hasIf, .inl (E.2.1 3, 16, .inl f_hasIf)), (m_becomes, .inl (E.2.1 1, 16, .inl f_becomes)), (m_goneOf, .inl (E.2.1 1, 16, .inl f_goneOf)), (m_heard, .inl (E.2.1 1, 64, .inl f_heard)), (m_actMany, .inl (E.2.1 1, 25, .inl f_actMany)), (m_actOf, .inl (E.2.1 1, 800, .inl f_actOf)), (m_whom, .inl (E.2.1 1, 800, .inl f_whom)), (m_afters, .inl (E.2.1 1, 9, .inl f_afters)), (m_afterOf, .inl (E.2.1 1, 18, .inl f_afterOf)), (m_knowing, .inl (E.2.1 1, 4, .inl f_knowingz_145))]) (k' := 0) (n' := 0) C (run_V (As := [.int 1, .int r_157]) (rest := []) C (r_keepOnly X.2.1 E ro hm 1 r_157 m_manys m_reals m_factsOf m_possible q_undos q_models m_tape q_taped q_fault q_wrong q_wrongAt q_spot q_place q_token q_value m_ends m_letters m_actOf m_whom m_actMany m_tokens m_afters m_afterOf q_counted m_pile m_caseMany m_happen m_hasIf m_becomes m_goneOf m_heard m_pairs m_heaps q_rounds q_heapMany m_led m_newAt m_knowing m_firsts q_people m_secrets m_tried m_lanes m_lengths m_cells f_manysz_139 f_realsz_140 f_factsOfz_141 f_possiblez_142 gs_newAt h_146 h_147 h_148 h_149 (by omega) (st_in hst1 rfl) (by omega) hre1) mi_X12_keepOnly wl_X12_321 rfl 0 12 rfl rfl rfl rfl rfl dX12_turns_195) (roK hro) [18, 19, 20, 3, 4, 0] [1, 2, 5, 6, 7, 8, 9, 10, 11, 12, 13, 14, 15, 16, 17, 21] rfl (gqk (by eq_refl)) (plk (by decide +kernel)) rfl (fun uz hw => ?_)
                              refine ex5 hw ?_
                              clear hw
                              intro f_manysz_166 f_realsz_167 f_factsOfz_168 f_possiblez_169 f_newAtz_170 hw
                              refine an8 hw ?_
                              clear hw
                              intro he_179 h_171 h_172 h_173 h_174 h_175 h_176 h_177 hw
                              have h_178 := hw
                              clear hw
                              subst he_179
                              refine ww_eq (ws' := [(m_firsts, .inl (E.2.1 1, 4, .inl g_fi7)), (m_tokens, .inl (E.2.1 1, 9, .inl f_tokens)), (m_pairs, .inl (E.2.1 1, 576, .inl f_pairsz_143)), (m_pile, .inl (E.2.1 1, 34, .inl f_pilez_144)), (m_caseMany, .inl (E.2.1 1, 4, .inl f_caseMany)), (m_happen, .inl (E.2.1 1, 4, .inl f_happen)), (m_hasIf, .inl (E.2.1 3, 16, .inl f_hasIf)), (m_becomes, .inl (E.2.1 1, 16, .inl f_becomes)), (m_goneOf, .inl (E.2.1 1, 16, .inl f_goneOf)), (m_heard, .inl (E.2.1 1, 64, .inl f_heard)), (m_actMany, .inl (E.2.1 1, 25, .inl f_actMany)), (m_actOf, .inl (E.2.1 1, 800, .inl f_actOf)), (m_whom, .inl (E.2.1 1, 800, .inl f_whom)), (m_afters, .inl (E.2.1 1, 9, .inl f_afters)), (m_afterOf, .inl (E.2.1 1, 18, .inl f_afterOf)), (m_knowing, .inl (E.2.1 1, 4, .inl f_knowingz_145)), (hm, .inr (12, [.ref m_manys, .ref m_reals, .ref m_factsOf, .ref m_possible, .int (nI q_undos), .int (nI q_models), .ref m_tape, .int (nI q_taped), .int q_fault, .int q_wrong, .int q_wrongAt, .int q_spot, .int q_place, .int q_token, .int q_value, .ref m_ends, .ref m_letters, .ref m_actOf, .ref m_whom, .ref m_actMany, .ref m_tokens, .ref m_afters, .ref m_afterOf, .int q_counted, .ref m_pile, .ref m_caseMany, .ref m_happen, .ref m_hasIf, .ref m_becomes, .ref m_goneOf, .ref m_heard, .ref m_pairs, .ref m_heaps, .int q_rounds, .int q_heapMany, .ref m_led, .ref m_newAt, .ref m_knowing, .ref m_firsts, .int (nI q_people), .ref m_secrets, .ref m_tried, .ref m_lanes, .ref m_lengths, .ref m_cells])), (m_manys, .inl (E.2.1 1, 18, .inl f_manysz_166)), (m_reals, .inl (E.2.1 1, 18, .inl f_realsz_167)), (m_factsOf, .inl (E.2.1 1, 432, .inl f_factsOfz_168)), (m_possible, .inl (E.2.1 1, 1728, .inl f_possiblez_169)), (m_newAt, .inl (E.2.1 1, 24, .inl f_newAtz_170))]) ?_ rfl rfl rfl
                              have hk1 := h_175
                              have hk2 := h_176
                              have hcl := cb_le (bt r_157) (cN f_manysz_139 1)
                              have hrm2 : cN f_realsz_167 1 < cN f_manysz_166 1 := by rw [hk1, hk2]; exact cb_lt (by omega) hre1
                              refine ww_goto (tgt := 88) C dX12_turns_198 (by decide) ?_
                              exact ww_lv [0, 2, 3, 4, 5, 6, 7] rfl (ww_sub [2, 3, 4, 5, 6, 7, 8, 9, 10, 11, 12, 13, 14, 15, 21, 0, 1, 16, 17, 18, 19, 20] (ndk (by decide +kernel)) (gqk (by eq_refl)) (ih_88 0 (tu + 1) r_138 f_manysz_166 f_realsz_167 f_factsOfz_168 f_possiblez_169 f_pairsz_143 f_pilez_144 f_knowingz_145 f_newAtz_170 g_fi7 (by omega) hrm2 (fun h9 => absurd h9 (by decide)) (fun _ => ⟨tu, rfl, ⟨hmo1 (by omega), gr_rest hga hst1 (vall_bs h_162 (show cN f_manysz_139 1 = cN f_manysz_139 1 from rfl)) (Int32.toInt_inj.mp zc_164)⟩, hknq⟩) (gr_cut hga (show cN f_realsz_140 1 < cN f_manysz_139 1 by omega) (show cN f_manysz_139 1 ≤ 32 by omega) hst1 h_177) (fr_e hfi7 (by omega)) (KPA.oth (KPA.tr hoth h_154 (by omega)) h_178 (by omega) (by omega)) h_171 h_172 h_173 h_174 (by omega)))
                            · have zc_164 : r_157.toInt ≠ r_161.toInt := i_ne rfl rfl c_164
                              have hkl := keep_lt (by omega) (st_in (n := cN f_manysz_139 1) hst1 rfl) h_162 (by assumption)
                              refine ww_iconst (v := 1) C dX12_turns_184 rfl ?_
                              refine ww_goto (tgt := 189) C dX12_turns_185 (by decide) ?_
                              refine ww_istore (lv' := [(6, .int 1), (7, .int r_157), (5, .int r_138), (4, .int (nI (tu + 1))), (0, .ref hm), (1, .int v0), (2, .int v1), (3, .int v2)]) C dX12_turns_189 rfl rfl ?_
                              have hre1 : bt r_157 (cN f_realsz_140 1) = true := st_re hw1_ hst1 (show cN f_realsz_140 1 < cN f_manysz_139 1 by omega) (show cN f_manysz_139 1 ≤ 32 by omega)
                              refine ww_aload_n C dX12_turns_191 4 rfl rfl ?_
                              refine ww_iconst (v := 1) C dX12_turns_192 rfl ?_
                              refine ww_iload C dX12_turns_193 1 rfl ?_
                              refine ww_cv (wr := [(m_firsts, .inl (E.2.1 1, 4, .inl g_fi7)), (m_tokens, .inl (E.2.1 1, 9, .inl f_tokens)), (m_pairs, .inl (E.2.1 1, 576, .inl f_pairsz_143)), (m_pile, .inl (E.2.1 1, 34, .inl f_pilez_144)), (m_caseMany, .inl (E.2.1 1, 4, .inl f_caseMany)), (m_happen, .inl (E.2.1 1, 4, .inl f_happen)), (m_hasIf, .inl (E.2.1 3, 16, .inl f_hasIf)), (m_becomes, .inl (E.2.1 1, 16, .inl f_becomes)), (m_goneOf, .inl (E.2.1 1, 16, .inl f_goneOf)), (m_heard, .inl (E.2.1 1, 64, .inl f_heard)), (m_actMany, .inl (E.2.1 1, 25, .inl f_actMany)), (m_actOf, .inl (E.2.1 1, 800, .inl f_actOf)), (m_whom, .inl (E.2.1 1, 800, .inl f_whom)), (m_afters, .inl (E.2.1 1, 9, .inl f_afters)), (m_afterOf, .inl (E.2.1 1, 18, .inl f_afterOf)), (m_knowing, .inl (E.2.1 1, 4, .inl f_knowingz_145))]) (k' := 0) (n' := 0) C (run_V (As := [.int 1, .int r_157]) (rest := []) C (r_keepOnly X.2.1 E ro hm 1 r_157 m_manys m_reals m_factsOf m_possible q_undos q_models m_tape q_taped q_fault q_wrong q_wrongAt q_spot q_place q_token q_value m_ends m_letters m_actOf m_whom m_actMany m_tokens m_afters m_afterOf q_counted m_pile m_caseMany m_happen m_hasIf m_becomes m_goneOf m_heard m_pairs m_heaps q_rounds q_heapMany m_led m_newAt m_knowing m_firsts q_people m_secrets m_tried m_lanes m_lengths m_cells f_manysz_139 f_realsz_140 f_factsOfz_141 f_possiblez_142 gs_newAt h_146 h_147 h_148 h_149 (by omega) (st_in hst1 rfl) (by omega) hre1) mi_X12_keepOnly wl_X12_321 rfl 0 12 rfl rfl rfl rfl rfl dX12_turns_195) (roK hro) [18, 19, 20, 3, 4, 0] [1, 2, 5, 6, 7, 8, 9, 10, 11, 12, 13, 14, 15, 16, 17, 21] rfl (gqk (by eq_refl)) (plk (by decide +kernel)) rfl (fun uz hw => ?_)
                              refine ex5 hw ?_
                              clear hw
                              intro f_manysz_181 f_realsz_182 f_factsOfz_183 f_possiblez_184 f_newAtz_185 hw
                              refine an8 hw ?_
                              clear hw
                              intro he_194 h_186 h_187 h_188 h_189 h_190 h_191 h_192 hw
                              have h_193 := hw
                              clear hw
                              subst he_194
                              refine ww_eq (ws' := [(m_firsts, .inl (E.2.1 1, 4, .inl g_fi7)), (m_tokens, .inl (E.2.1 1, 9, .inl f_tokens)), (m_pairs, .inl (E.2.1 1, 576, .inl f_pairsz_143)), (m_pile, .inl (E.2.1 1, 34, .inl f_pilez_144)), (m_caseMany, .inl (E.2.1 1, 4, .inl f_caseMany)), (m_happen, .inl (E.2.1 1, 4, .inl f_happen)), (m_hasIf, .inl (E.2.1 3, 16, .inl f_hasIf)), (m_becomes, .inl (E.2.1 1, 16, .inl f_becomes)), (m_goneOf, .inl (E.2.1 1, 16, .inl f_goneOf)), (m_heard, .inl (E.2.1 1, 64, .inl f_heard)), (m_actMany, .inl (E.2.1 1, 25, .inl f_actMany)), (m_actOf, .inl (E.2.1 1, 800, .inl f_actOf)), (m_whom, .inl (E.2.1 1, 800, .inl f_whom)), (m_afters, .inl (E.2.1 1, 9, .inl f_afters)), (m_afterOf, .inl (E.2.1 1, 18, .inl f_afterOf)), (m_knowing, .inl (E.2.1 1, 4, .inl f_knowingz_145)), (hm, .inr (12, [.ref m_manys, .ref m_reals, .ref m_factsOf, .ref m_possible, .int (nI q_undos), .int (nI q_models), .ref m_tape, .int (nI q_taped), .int q_fault, .int q_wrong, .int q_wrongAt, .int q_spot, .int q_place, .int q_token, .int q_value, .ref m_ends, .ref m_letters, .ref m_actOf, .ref m_whom, .ref m_actMany, .ref m_tokens, .ref m_afters, .ref m_afterOf, .int q_counted, .ref m_pile, .ref m_caseMany, .ref m_happen, .ref m_hasIf, .ref m_becomes, .ref m_goneOf, .ref m_heard, .ref m_pairs, .ref m_heaps, .int q_rounds, .int q_heapMany, .ref m_led, .ref m_newAt, .ref m_knowing, .ref m_firsts, .int (nI q_people), .ref m_secrets, .ref m_tried, .ref m_lanes, .ref m_lengths, .ref m_cells])), (m_manys, .inl (E.2.1 1, 18, .inl f_manysz_181)), (m_reals, .inl (E.2.1 1, 18, .inl f_realsz_182)), (m_factsOf, .inl (E.2.1 1, 432, .inl f_factsOfz_183)), (m_possible, .inl (E.2.1 1, 1728, .inl f_possiblez_184)), (m_newAt, .inl (E.2.1 1, 24, .inl f_newAtz_185))]) ?_ rfl rfl rfl
                              have hk1 := h_190
                              have hk2 := h_191
                              have hcl := cb_le (bt r_157) (cN f_manysz_139 1)
                              have hrm2 : cN f_realsz_182 1 < cN f_manysz_181 1 := by rw [hk1, hk2]; exact cb_lt (by omega) hre1
                              refine ww_goto (tgt := 88) C dX12_turns_198 (by decide) ?_
                              exact ww_lv [0, 2, 3, 4, 5, 6, 7] rfl (ww_sub [2, 3, 4, 5, 6, 7, 8, 9, 10, 11, 12, 13, 14, 15, 21, 0, 1, 16, 17, 18, 19, 20] (ndk (by decide +kernel)) (gqk (by eq_refl)) (ih_88 1 (tu + 1) r_138 f_manysz_181 f_realsz_182 f_factsOfz_183 f_possiblez_184 f_pairsz_143 f_pilez_144 f_knowingz_145 f_newAtz_185 g_fi7 (by omega) hrm2 (fun _ i hi => if hk : i = tu then (by rw [hk]; exact gr_more hga hst1 (vall_bs h_162 (show cN f_manysz_139 1 = cN f_manysz_139 1 from rfl)) (fun h9 => zc_164 (congrArg Int32.toInt h9))) else hmo1 (by omega) i (by omega)) (fun h9 => absurd h9 (by decide)) (gr_cut hga (show cN f_realsz_140 1 < cN f_manysz_139 1 by omega) (show cN f_manysz_139 1 ≤ 32 by omega) hst1 h_192) (fr_e hfi7 (by omega)) (KPA.oth (KPA.tr hoth h_154 (by omega)) h_193 (by omega) (by omega)) h_186 h_187 h_188 h_189 (by omega)))
                          · have zc_156 : ((k7 : Nat) : Int) < 4 := i_nle rfl (nI_toInt (n := k7) (by omega)) c_156
                            refine ww_aload_n C dX12_turns_114 4 rfl rfl ?_
                            refine ww_get C fg_X12_87 3 rfl rfl dX12_turns_115 ?_
                            refine ww_iload C dX12_turns_118 0 rfl ?_
                            refine ww_iload C dX12_turns_120 1 rfl ?_
                            refine ww_iload C dX12_turns_122 0 rfl ?_
                            obtain ⟨x_195, ex_195⟩ : ∃ z : Int32, r_138 >>> ((nI k7) &&& 31) = z := ⟨_, rfl⟩
                            refine ww_ishr (v := x_195) C dX12_turns_124 ex_195 ?_
                            refine ww_iconst (v := 1) C dX12_turns_125 rfl ?_
                            obtain ⟨j_196, hj_196, ej_196⟩ := pk_andE x_195 (m := 1) 1 rfl
                            refine ww_iand (v := (nI j_196)) C dX12_turns_126 ej_196 ?_
                            refine ww_iconst (v := 1) C dX12_turns_127 rfl ?_
                            refine ww_icmp_ne (tgt := 148) C dX12_turns_128 (by decide) (fun c_197 => ?_) (fun c_197 => ?_)
                            · have zc_197 : ((j_196 : Nat) : Int) ≠ 1 := i_ne (nI_toInt (n := j_196) (by omega)) rfl c_197
                              refine ww_aload_n C dX12_turns_148 4 rfl rfl ?_
                              refine ww_get C fg_X12_87 3 rfl rfl dX12_turns_149 ?_
                              refine ww_iload C dX12_turns_152 0 rfl ?_
                              obtain ⟨x_198, ex_198⟩ : ∃ z : Int32, g_fi7 k7 = z := ⟨_, rfl⟩
                              refine ww_iald (v := x_198) C 1 rfl (vp_in_nI (by omega) (by omega)) (ldn (by omega) ex_198) dX12_turns_154 ?_
                              obtain ⟨f_199, ef_199⟩ : ∃ z : Nat → Int32, upd g_fi7 k7 x_198 = z := ⟨_, rfl⟩
                              refine ww_iast (ws' := [(m_newAt, .inl (E.2.1 1, 24, .inl gs_newAt)), (m_firsts, .inl (E.2.1 1, 4, .inl f_199)), (m_tokens, .inl (E.2.1 1, 9, .inl f_tokens)), (hm, .inr (12, [.ref m_manys, .ref m_reals, .ref m_factsOf, .ref m_possible, .int (nI q_undos), .int (nI q_models), .ref m_tape, .int (nI q_taped), .int q_fault, .int q_wrong, .int q_wrongAt, .int q_spot, .int q_place, .int q_token, .int q_value, .ref m_ends, .ref m_letters, .ref m_actOf, .ref m_whom, .ref m_actMany, .ref m_tokens, .ref m_afters, .ref m_afterOf, .int q_counted, .ref m_pile, .ref m_caseMany, .ref m_happen, .ref m_hasIf, .ref m_becomes, .ref m_goneOf, .ref m_heard, .ref m_pairs, .ref m_heaps, .int q_rounds, .int q_heapMany, .ref m_led, .ref m_newAt, .ref m_knowing, .ref m_firsts, .int (nI q_people), .ref m_secrets, .ref m_tried, .ref m_lanes, .ref m_lengths, .ref m_cells])), (m_manys, .inl (E.2.1 1, 18, .inl f_manysz_139)), (m_reals, .inl (E.2.1 1, 18, .inl f_realsz_140)), (m_factsOf, .inl (E.2.1 1, 432, .inl f_factsOfz_141)), (m_possible, .inl (E.2.1 1, 1728, .inl f_possiblez_142)), (m_pairs, .inl (E.2.1 1, 576, .inl f_pairsz_143)), (m_pile, .inl (E.2.1 1, 34, .inl f_pilez_144)), (m_caseMany, .inl (E.2.1 1, 4, .inl f_caseMany)), (m_happen, .inl (E.2.1 1, 4, .inl f_happen)), (m_hasIf, .inl (E.2.1 3, 16, .inl f_hasIf)), (m_becomes, .inl (E.2.1 1, 16, .inl f_becomes)), (m_goneOf, .inl (E.2.1 1, 16, .inl f_goneOf)), (m_heard, .inl (E.2.1 1, 64, .inl f_heard)), (m_actMany, .inl (E.2.1 1, 25, .inl f_actMany)), (m_actOf, .inl (E.2.1 1, 800, .inl f_actOf)), (m_whom, .inl (E.2.1 1, 800, .inl f_whom)), (m_afters, .inl (E.2.1 1, 9, .inl f_afters)), (m_afterOf, .inl (E.2.1 1, 18, .inl f_afterOf)), (m_knowing, .inl (E.2.1 1, 4, .inl f_knowingz_145))]) C 1 rfl (vp_in_nI (by omega) (by omega)) (ldn2 (by omega) ef_199) rfl dX12_turns_155 ?_
                              refine ww_iinc (j := 0) (v := (nI (k7 + 1))) (lv' := [(7, .int (nI (k7 + 1))), (5, .int r_138), (4, .int (nI (tu + 1))), (6, .int (nI mo)), (0, .ref hm), (1, .int v0), (2, .int v1), (3, .int v2)]) C dX12_turns_156 rfl (nI_add k7 1) rfl rfl ?_
                              refine ww_goto (tgt := 108) C dX12_turns_159 (by decide) ?_
                              exact ww_lv [0, 1, 2, 3, 4, 5, 6, 7] rfl (ww_sub [0, 1, 2, 3, 4, 5, 6, 7, 8, 9, 10, 11, 12, 13, 14, 15, 16, 17, 18, 19, 20, 21] (ndk (by decide +kernel)) (gqk (by eq_refl)) (ih_108 (k7 + 1) f_199 (by omega) (by first | exact fs_y hfi7 (by omega) ex_198 (Int32.toInt_inj.mp (by assumption)) (by rw [← hknq k7 (by omega)]; exact (hasb_1 (b := r_138) (p := k7) (by omega) (by assumption) (by assumption) (by omega))) rfl ef_199 | exact fr_o hfi7 (by omega) ex_198 (fun h9 => absurd (congrArg Int32.toInt h9) (by assumption)) ex_198 ef_199 | exact fr_n hfi7 (by omega) (by rw [← hknq k7 (by omega)]; exact (hasb_0 (b := r_138) (p := k7) (by omega) (by assumption) (by assumption) (by omega))) ex_198 ef_199) (by omega)))
                            · have zc_197 : ((j_196 : Nat) : Int) = 1 := i_eq (nI_toInt (n := j_196) (by omega)) rfl c_197
                              refine ww_aload_n C dX12_turns_131 4 rfl rfl ?_
                              refine ww_get C fg_X12_87 3 rfl rfl dX12_turns_132 ?_
                              refine ww_iload C dX12_turns_135 0 rfl ?_
                              obtain ⟨x_200, ex_200⟩ : ∃ z : Int32, g_fi7 k7 = z := ⟨_, rfl⟩
                              refine ww_iald (v := x_200) C 1 rfl (vp_in_nI (by omega) (by omega)) (ldn (by omega) ex_200) dX12_turns_137 ?_
                              refine ww_bipush (v := (-4)) C dX12_turns_138 rfl ?_
                              refine ww_icmp_ne (tgt := 148) C dX12_turns_140 (by decide) (fun c_201 => ?_) (fun c_201 => ?_)
                              · have zc_201 : x_200.toInt ≠ (-4) := i_ne rfl rfl c_201
                                refine ww_aload_n C dX12_turns_148 4 rfl rfl ?_
                                refine ww_get C fg_X12_87 3 rfl rfl dX12_turns_149 ?_
                                refine ww_iload C dX12_turns_152 0 rfl ?_
                                refine ww_iald (v := x_200) C 1 rfl (vp_in_nI (by omega) (by omega)) (ldn (by omega) ex_200) dX12_turns_154 ?_
                                obtain ⟨f_202, ef_202⟩ : ∃ z : Nat → Int32, upd g_fi7 k7 x_200 = z := ⟨_, rfl⟩
                                refine ww_iast (ws' := [(m_newAt, .inl (E.2.1 1, 24, .inl gs_newAt)), (m_firsts, .inl (E.2.1 1, 4, .inl f_202)), (m_tokens, .inl (E.2.1 1, 9, .inl f_tokens)), (hm, .inr (12, [.ref m_manys, .ref m_reals, .ref m_factsOf, .ref m_possible, .int (nI q_undos), .int (nI q_models), .ref m_tape, .int (nI q_taped), .int q_fault, .int q_wrong, .int q_wrongAt, .int q_spot, .int q_place, .int q_token, .int q_value, .ref m_ends, .ref m_letters, .ref m_actOf, .ref m_whom, .ref m_actMany, .ref m_tokens, .ref m_afters, .ref m_afterOf, .int q_counted, .ref m_pile, .ref m_caseMany, .ref m_happen, .ref m_hasIf, .ref m_becomes, .ref m_goneOf, .ref m_heard, .ref m_pairs, .ref m_heaps, .int q_rounds, .int q_heapMany, .ref m_led, .ref m_newAt, .ref m_knowing, .ref m_firsts, .int (nI q_people), .ref m_secrets, .ref m_tried, .ref m_lanes, .ref m_lengths, .ref m_cells])), (m_manys, .inl (E.2.1 1, 18, .inl f_manysz_139)), (m_reals, .inl (E.2.1 1, 18, .inl f_realsz_140)), (m_factsOf, .inl (E.2.1 1, 432, .inl f_factsOfz_141)), (m_possible, .inl (E.2.1 1, 1728, .inl f_possiblez_142)), (m_pairs, .inl (E.2.1 1, 576, .inl f_pairsz_143)), (m_pile, .inl (E.2.1 1, 34, .inl f_pilez_144)), (m_caseMany, .inl (E.2.1 1, 4, .inl f_caseMany)), (m_happen, .inl (E.2.1 1, 4, .inl f_happen)), (m_hasIf, .inl (E.2.1 3, 16, .inl f_hasIf)), (m_becomes, .inl (E.2.1 1, 16, .inl f_becomes)), (m_goneOf, .inl (E.2.1 1, 16, .inl f_goneOf)), (m_heard, .inl (E.2.1 1, 64, .inl f_heard)), (m_actMany, .inl (E.2.1 1, 25, .inl f_actMany)), (m_actOf, .inl (E.2.1 1, 800, .inl f_actOf)), (m_whom, .inl (E.2.1 1, 800, .inl f_whom)), (m_afters, .inl (E.2.1 1, 9, .inl f_afters)), (m_afterOf, .inl (E.2.1 1, 18, .inl f_afterOf)), (m_knowing, .inl (E.2.1 1, 4, .inl f_knowingz_145))]) C 1 rfl (vp_in_nI (by omega) (by omega)) (ldn2 (by omega) ef_202) rfl dX12_turns_155 ?_
                                refine ww_iinc (j := 0) (v := (nI (k7 + 1))) (lv' := [(7, .int (nI (k7 + 1))), (5, .int r_138), (4, .int (nI (tu + 1))), (6, .int (nI mo)), (0, .ref hm), (1, .int v0), (2, .int v1), (3, .int v2)]) C dX12_turns_156 rfl (nI_add k7 1) rfl rfl ?_
                                refine ww_goto (tgt := 108) C dX12_turns_159 (by decide) ?_
                                exact ww_lv [0, 1, 2, 3, 4, 5, 6, 7] rfl (ww_sub [0, 1, 2, 3, 4, 5, 6, 7, 8, 9, 10, 11, 12, 13, 14, 15, 16, 17, 18, 19, 20, 21] (ndk (by decide +kernel)) (gqk (by eq_refl)) (ih_108 (k7 + 1) f_202 (by omega) (by first | exact fs_y hfi7 (by omega) ex_200 (Int32.toInt_inj.mp (by assumption)) (by rw [← hknq k7 (by omega)]; exact (hasb_1 (b := r_138) (p := k7) (by omega) (by assumption) (by assumption) (by omega))) rfl ef_202 | exact fr_o hfi7 (by omega) ex_200 (fun h9 => absurd (congrArg Int32.toInt h9) (by assumption)) ex_200 ef_202 | exact fr_n hfi7 (by omega) (by rw [← hknq k7 (by omega)]; exact (hasb_0 (b := r_138) (p := k7) (by omega) (by assumption) (by assumption) (by omega))) ex_200 ef_202) (by omega)))
                              · have zc_201 : x_200.toInt = (-4) := i_eq rfl rfl c_201
                                refine ww_iload C dX12_turns_143 2 rfl ?_
                                refine ww_goto (tgt := 155) C dX12_turns_145 (by decide) ?_
                                obtain ⟨f_203, ef_203⟩ : ∃ z : Nat → Int32, upd g_fi7 k7 (nI (tu + 1)) = z := ⟨_, rfl⟩
                                refine ww_iast (ws' := [(m_newAt, .inl (E.2.1 1, 24, .inl gs_newAt)), (m_firsts, .inl (E.2.1 1, 4, .inl f_203)), (m_tokens, .inl (E.2.1 1, 9, .inl f_tokens)), (hm, .inr (12, [.ref m_manys, .ref m_reals, .ref m_factsOf, .ref m_possible, .int (nI q_undos), .int (nI q_models), .ref m_tape, .int (nI q_taped), .int q_fault, .int q_wrong, .int q_wrongAt, .int q_spot, .int q_place, .int q_token, .int q_value, .ref m_ends, .ref m_letters, .ref m_actOf, .ref m_whom, .ref m_actMany, .ref m_tokens, .ref m_afters, .ref m_afterOf, .int q_counted, .ref m_pile, .ref m_caseMany, .ref m_happen, .ref m_hasIf, .ref m_becomes, .ref m_goneOf, .ref m_heard, .ref m_pairs, .ref m_heaps, .int q_rounds, .int q_heapMany, .ref m_led, .ref m_newAt, .ref m_knowing, .ref m_firsts, .int (nI q_people), .ref m_secrets, .ref m_tried, .ref m_lanes, .ref m_lengths, .ref m_cells])), (m_manys, .inl (E.2.1 1, 18, .inl f_manysz_139)), (m_reals, .inl (E.2.1 1, 18, .inl f_realsz_140)), (m_factsOf, .inl (E.2.1 1, 432, .inl f_factsOfz_141)), (m_possible, .inl (E.2.1 1, 1728, .inl f_possiblez_142)), (m_pairs, .inl (E.2.1 1, 576, .inl f_pairsz_143)), (m_pile, .inl (E.2.1 1, 34, .inl f_pilez_144)), (m_caseMany, .inl (E.2.1 1, 4, .inl f_caseMany)), (m_happen, .inl (E.2.1 1, 4, .inl f_happen)), (m_hasIf, .inl (E.2.1 3, 16, .inl f_hasIf)), (m_becomes, .inl (E.2.1 1, 16, .inl f_becomes)), (m_goneOf, .inl (E.2.1 1, 16, .inl f_goneOf)), (m_heard, .inl (E.2.1 1, 64, .inl f_heard)), (m_actMany, .inl (E.2.1 1, 25, .inl f_actMany)), (m_actOf, .inl (E.2.1 1, 800, .inl f_actOf)), (m_whom, .inl (E.2.1 1, 800, .inl f_whom)), (m_afters, .inl (E.2.1 1, 9, .inl f_afters)), (m_afterOf, .inl (E.2.1 1, 18, .inl f_afterOf)), (m_knowing, .inl (E.2.1 1, 4, .inl f_knowingz_145))]) C 1 rfl (vp_in_nI (by omega) (by omega)) (ldn2 (by omega) ef_203) rfl dX12_turns_155 ?_
                                refine ww_iinc (j := 0) (v := (nI (k7 + 1))) (lv' := [(7, .int (nI (k7 + 1))), (5, .int r_138), (4, .int (nI (tu + 1))), (6, .int (nI mo)), (0, .ref hm), (1, .int v0), (2, .int v1), (3, .int v2)]) C dX12_turns_156 rfl (nI_add k7 1) rfl rfl ?_
                                refine ww_goto (tgt := 108) C dX12_turns_159 (by decide) ?_
                                exact ww_lv [0, 1, 2, 3, 4, 5, 6, 7] rfl (ww_sub [0, 1, 2, 3, 4, 5, 6, 7, 8, 9, 10, 11, 12, 13, 14, 15, 16, 17, 18, 19, 20, 21] (ndk (by decide +kernel)) (gqk (by eq_refl)) (ih_108 (k7 + 1) f_203 (by omega) (by first | exact fs_y hfi7 (by omega) ex_200 (Int32.toInt_inj.mp (by assumption)) (by rw [← hknq k7 (by omega)]; exact (hasb_1 (b := r_138) (p := k7) (by omega) (by assumption) (by assumption) (by omega))) rfl ef_203 | exact fr_o hfi7 (by omega) ex_200 (fun h9 => absurd (congrArg Int32.toInt h9) (by assumption)) ex_200 ef_203 | exact fr_n hfi7 (by omega) (by rw [← hknq k7 (by omega)]; exact (hasb_0 (b := r_138) (p := k7) (by omega) (by assumption) (by assumption) (by omega))) ex_200 ef_203) (by omega)))
                      exact ww_lv [0, 1, 2, 3, 4, 5, 6, 7] rfl (ww_sub [0, 1, 2, 3, 4, 5, 6, 7, 8, 9, 10, 11, 12, 13, 14, 15, 16, 17, 18, 19, 20, 21] (ndk (by decide +kernel)) (gqk (by eq_refl)) (loop_108 _ 0 gs_firsts (by omega) (fr_b hfi) (Nat.lt_succ_self _)))
                exact ww_lv [0, 1, 2, 3, 4, 5, 6] rfl (ww_sub [0, 1, 2, 3, 4, 5, 6, 7, 8, 9, 10, 11, 12, 13, 14, 15, 16, 17, 18, 19, 20, 21] (ndk (by decide +kernel)) (gqk (by eq_refl)) (loop_88 _ 1 0 0 f_manysz_117 f_realsz_118 f_factsOfz_119 f_possiblez_120 f_pairs f_pile f_knowing f_newAt g_fi0 (by omega) (by omega) (fun _ i hi => absurd hi (Nat.not_lt_zero _)) (fun h9 => absurd h9 (by decide)) ((h_129 1 (by omega)).trans (if_pos rfl)) (fr_0 (by have h9 : k0 = 4 := (by omega); rw [h9] at hf0; exact hf0)) (KPA.oth KPA.rf (q := 1) (fun p a b => (h_129 p a).trans (if_neg b)) (by omega) (by omega)) h_121 h_122 h_123 h_124 (Nat.lt_succ_self _)))
              · have zc_131 : ((k0 : Nat) : Int) < 4 := i_nle rfl (nI_toInt (n := k0) (by omega)) c_131
                refine ww_aload_n C dX12_turns_64 1 rfl rfl ?_
                refine ww_get C fg_X12_87 17 rfl rfl dX12_turns_65 ?_
                refine ww_iload C dX12_turns_68 0 rfl ?_
                refine ww_bipush (v := (-4)) C dX12_turns_70 rfl ?_
                obtain ⟨f_204, ef_204⟩ : ∃ z : Nat → Int32, upd g_fi0 k0 (-4) = z := ⟨_, rfl⟩
                refine ww_iast (ws' := [(m_pairs, .inl (E.2.1 1, 576, .inl f_pairs)), (m_pile, .inl (E.2.1 1, 34, .inl f_pile)), (m_caseMany, .inl (E.2.1 1, 4, .inl f_caseMany)), (m_happen, .inl (E.2.1 1, 4, .inl f_happen)), (m_hasIf, .inl (E.2.1 3, 16, .inl f_hasIf)), (m_becomes, .inl (E.2.1 1, 16, .inl f_becomes)), (m_goneOf, .inl (E.2.1 1, 16, .inl f_goneOf)), (m_heard, .inl (E.2.1 1, 64, .inl f_heard)), (m_actMany, .inl (E.2.1 1, 25, .inl f_actMany)), (m_actOf, .inl (E.2.1 1, 800, .inl f_actOf)), (m_whom, .inl (E.2.1 1, 800, .inl f_whom)), (m_afters, .inl (E.2.1 1, 9, .inl f_afters)), (m_afterOf, .inl (E.2.1 1, 18, .inl f_afterOf)), (m_knowing, .inl (E.2.1 1, 4, .inl f_knowing)), (m_newAt, .inl (E.2.1 1, 24, .inl f_newAt)), (m_firsts, .inl (E.2.1 1, 4, .inl f_204)), (m_tokens, .inl (E.2.1 1, 9, .inl f_tokens)), (hm, .inr (12, [.ref m_manys, .ref m_reals, .ref m_factsOf, .ref m_possible, .int (nI q_undos), .int (nI q_models), .ref m_tape, .int (nI q_taped), .int q_fault, .int q_wrong, .int q_wrongAt, .int q_spot, .int q_place, .int q_token, .int q_value, .ref m_ends, .ref m_letters, .ref m_actOf, .ref m_whom, .ref m_actMany, .ref m_tokens, .ref m_afters, .ref m_afterOf, .int q_counted, .ref m_pile, .ref m_caseMany, .ref m_happen, .ref m_hasIf, .ref m_becomes, .ref m_goneOf, .ref m_heard, .ref m_pairs, .ref m_heaps, .int q_rounds, .int q_heapMany, .ref m_led, .ref m_newAt, .ref m_knowing, .ref m_firsts, .int (nI q_people), .ref m_secrets, .ref m_tried, .ref m_lanes, .ref m_lengths, .ref m_cells])), (m_manys, .inl (E.2.1 1, 18, .inl f_manysz_117)), (m_reals, .inl (E.2.1 1, 18, .inl f_realsz_118)), (m_factsOf, .inl (E.2.1 1, 432, .inl f_factsOfz_119)), (m_possible, .inl (E.2.1 1, 1728, .inl f_possiblez_120))]) C 15 rfl (vp_in_nI (by omega) (by omega)) (ldn2 (by omega) ef_204) rfl dX12_turns_72 ?_
                refine ww_iinc (j := 0) (v := (nI (k0 + 1))) (lv' := [(4, .int (nI (k0 + 1))), (0, .ref hm), (1, .int v0), (2, .int v1), (3, .int v2)]) C dX12_turns_73 rfl (nI_add k0 1) rfl rfl ?_
                refine ww_goto (tgt := 58) C dX12_turns_76 (by decide) ?_
                exact ww_lv [0, 1, 2, 3, 4] rfl (ww_sub [0, 1, 2, 3, 4, 5, 6, 7, 8, 9, 10, 11, 12, 13, 14, 15, 16, 17, 18, 19, 20, 21] (ndk (by decide +kernel)) (gqk (by eq_refl)) (ih_58 (k0 + 1) f_204 (by omega) (fun k hk => by rw [← ef_204]; by_cases q : k = k0; rw [q, pk_us]; rw [pk_un q]; exact hf0 k (by omega)) (by omega)))
          exact ww_lv [0, 1, 2, 3, 4] rfl (ww_sub [0, 1, 2, 3, 4, 5, 6, 7, 8, 9, 10, 11, 12, 13, 14, 15, 16, 17, 18, 19, 20, 21] (ndk (by decide +kernel)) (gqk (by eq_refl)) (loop_58 _ 0 f_firsts (by omega) (fun k h => absurd h (Nat.not_lt_zero _)) (Nat.lt_succ_self _)))
        · have zc_115 : ((cN f_manys 0 : Nat) : Int) = 0 := i_eq (nI_toInt (n := cN f_manys 0) (by omega)) rfl c_115
          refine ww_bipush (v := (-2)) C dX12_turns_46 rfl ?_
          exact ww_iret (u := [(hm, .inr (12, [.ref m_manys, .ref m_reals, .ref m_factsOf, .ref m_possible, .int (nI q_undos), .int (nI q_models), .ref m_tape, .int (nI q_taped), .int q_fault, .int q_wrong, .int q_wrongAt, .int q_spot, .int q_place, .int q_token, .int q_value, .ref m_ends, .ref m_letters, .ref m_actOf, .ref m_whom, .ref m_actMany, .ref m_tokens, .ref m_afters, .ref m_afterOf, .int q_counted, .ref m_pile, .ref m_caseMany, .ref m_happen, .ref m_hasIf, .ref m_becomes, .ref m_goneOf, .ref m_heard, .ref m_pairs, .ref m_heaps, .int q_rounds, .int q_heapMany, .ref m_led, .ref m_newAt, .ref m_knowing, .ref m_firsts, .int (nI q_people), .ref m_secrets, .ref m_tried, .ref m_lanes, .ref m_lengths, .ref m_cells])), (m_manys, .inl (E.2.1 1, 18, .inl f_manys)), (m_reals, .inl (E.2.1 1, 18, .inl f_reals)), (m_factsOf, .inl (E.2.1 1, 432, .inl f_factsOf)), (m_possible, .inl (E.2.1 1, 1728, .inl f_possible)), (m_pairs, .inl (E.2.1 1, 576, .inl f_pairs)), (m_pile, .inl (E.2.1 1, 34, .inl f_pile)), (m_caseMany, .inl (E.2.1 1, 4, .inl f_caseMany)), (m_happen, .inl (E.2.1 1, 4, .inl f_happen)), (m_hasIf, .inl (E.2.1 3, 16, .inl f_hasIf)), (m_becomes, .inl (E.2.1 1, 16, .inl f_becomes)), (m_goneOf, .inl (E.2.1 1, 16, .inl f_goneOf)), (m_heard, .inl (E.2.1 1, 64, .inl f_heard)), (m_actMany, .inl (E.2.1 1, 25, .inl f_actMany)), (m_actOf, .inl (E.2.1 1, 800, .inl f_actOf)), (m_whom, .inl (E.2.1 1, 800, .inl f_whom)), (m_afters, .inl (E.2.1 1, 9, .inl f_afters)), (m_afterOf, .inl (E.2.1 1, 18, .inl f_afterOf)), (m_knowing, .inl (E.2.1 1, 4, .inl f_knowing)), (m_newAt, .inl (E.2.1 1, 24, .inl f_newAt)), (m_firsts, .inl (E.2.1 1, 4, .inl f_firsts)), (m_tokens, .inl (E.2.1 1, 9, .inl f_tokens))]) C hT [20, 0, 1, 2, 3, 4, 5, 6, 7, 8, 9, 10, 11, 12, 13, 14, 15, 16, 17, 18, 19, 21] (gqk (by eq_refl)) (ndk (by decide +kernel)) rfl rfl dX12_turns_48 (⟨f_manys, f_reals, f_factsOf, f_possible, f_pairs, f_pile, f_knowing, f_newAt, f_firsts, rfl, hb_manys, hb_reals, hpg, hwf, (Or.inr (Or.inl ⟨by omega, can_TT h_2, show cN f_manys 0 = 0 by omega, rfl⟩)), KPA.rf⟩)
      · refine an2 hw ?_
        clear hw
        intro he_112 he_113 hw
        have h_111 := hw
        clear hw
        have he_112 := he_112.symm
        subst he_112
        subst he_113
        refine ww_eq (ws' := [(m_manys, .inl (E.2.1 1, 18, .inl f_manys)), (m_reals, .inl (E.2.1 1, 18, .inl f_reals)), (m_factsOf, .inl (E.2.1 1, 432, .inl f_factsOf)), (m_possible, .inl (E.2.1 1, 1728, .inl f_possible)), (m_pairs, .inl (E.2.1 1, 576, .inl f_pairs)), (m_pile, .inl (E.2.1 1, 34, .inl f_pile)), (m_caseMany, .inl (E.2.1 1, 4, .inl f_caseMany)), (m_happen, .inl (E.2.1 1, 4, .inl f_happen)), (m_hasIf, .inl (E.2.1 3, 16, .inl f_hasIf)), (m_becomes, .inl (E.2.1 1, 16, .inl f_becomes)), (m_goneOf, .inl (E.2.1 1, 16, .inl f_goneOf)), (m_heard, .inl (E.2.1 1, 64, .inl f_heard)), (m_actMany, .inl (E.2.1 1, 25, .inl f_actMany)), (m_actOf, .inl (E.2.1 1, 800, .inl f_actOf)), (m_whom, .inl (E.2.1 1, 800, .inl f_whom)), (m_afters, .inl (E.2.1 1, 9, .inl f_afters)), (m_afterOf, .inl (E.2.1 1, 18, .inl f_afterOf)), (m_knowing, .inl (E.2.1 1, 4, .inl f_knowing)), (m_newAt, .inl (E.2.1 1, 24, .inl f_newAt)), (m_firsts, .inl (E.2.1 1, 4, .inl f_firsts)), (hm, .inr (12, [.ref m_manys, .ref m_reals, .ref m_factsOf, .ref m_possible, .int (nI q_undos), .int (nI q_models), .ref m_tape, .int (nI q_taped), .int q_fault, .int q_wrong, .int q_wrongAt, .int q_spot, .int q_place, .int q_token, .int q_value, .ref m_ends, .ref m_letters, .ref m_actOf, .ref m_whom, .ref m_actMany, .ref m_tokens, .ref m_afters, .ref m_afterOf, .int q_counted, .ref m_pile, .ref m_caseMany, .ref m_happen, .ref m_hasIf, .ref m_becomes, .ref m_goneOf, .ref m_heard, .ref m_pairs, .ref m_heaps, .int q_rounds, .int q_heapMany, .ref m_led, .ref m_newAt, .ref m_knowing, .ref m_firsts, .int (nI q_people), .ref m_secrets, .ref m_tried, .ref m_lanes, .ref m_lengths, .ref m_cells])), (m_tokens, .inl (E.2.1 1, 9, .inl f_tokens))]) ?_ rfl rfl rfl
        refine ww_if_ne_f (tgt := 37) C dX12_turns_32 (by decide) (rfl) ?_
        refine ww_iconst (v := (-1)) C dX12_turns_35 rfl ?_
        exact ww_iret (u := [(hm, .inr (12, [.ref m_manys, .ref m_reals, .ref m_factsOf, .ref m_possible, .int (nI q_undos), .int (nI q_models), .ref m_tape, .int (nI q_taped), .int q_fault, .int q_wrong, .int q_wrongAt, .int q_spot, .int q_place, .int q_token, .int q_value, .ref m_ends, .ref m_letters, .ref m_actOf, .ref m_whom, .ref m_actMany, .ref m_tokens, .ref m_afters, .ref m_afterOf, .int q_counted, .ref m_pile, .ref m_caseMany, .ref m_happen, .ref m_hasIf, .ref m_becomes, .ref m_goneOf, .ref m_heard, .ref m_pairs, .ref m_heaps, .int q_rounds, .int q_heapMany, .ref m_led, .ref m_newAt, .ref m_knowing, .ref m_firsts, .int (nI q_people), .ref m_secrets, .ref m_tried, .ref m_lanes, .ref m_lengths, .ref m_cells])), (m_manys, .inl (E.2.1 1, 18, .inl f_manys)), (m_reals, .inl (E.2.1 1, 18, .inl f_reals)), (m_factsOf, .inl (E.2.1 1, 432, .inl f_factsOf)), (m_possible, .inl (E.2.1 1, 1728, .inl f_possible)), (m_pairs, .inl (E.2.1 1, 576, .inl f_pairs)), (m_pile, .inl (E.2.1 1, 34, .inl f_pile)), (m_caseMany, .inl (E.2.1 1, 4, .inl f_caseMany)), (m_happen, .inl (E.2.1 1, 4, .inl f_happen)), (m_hasIf, .inl (E.2.1 3, 16, .inl f_hasIf)), (m_becomes, .inl (E.2.1 1, 16, .inl f_becomes)), (m_goneOf, .inl (E.2.1 1, 16, .inl f_goneOf)), (m_heard, .inl (E.2.1 1, 64, .inl f_heard)), (m_actMany, .inl (E.2.1 1, 25, .inl f_actMany)), (m_actOf, .inl (E.2.1 1, 800, .inl f_actOf)), (m_whom, .inl (E.2.1 1, 800, .inl f_whom)), (m_afters, .inl (E.2.1 1, 9, .inl f_afters)), (m_afterOf, .inl (E.2.1 1, 18, .inl f_afterOf)), (m_knowing, .inl (E.2.1 1, 4, .inl f_knowing)), (m_newAt, .inl (E.2.1 1, 24, .inl f_newAt)), (m_firsts, .inl (E.2.1 1, 4, .inl f_firsts)), (m_tokens, .inl (E.2.1 1, 9, .inl f_tokens))]) C hT [20, 0, 1, 2, 3, 4, 5, 6, 7, 8, 9, 10, 11, 12, 13, 14, 15, 16, 17, 18, 19, 21] (gqk (by eq_refl)) (ndk (by decide +kernel)) rfl rfl dX12_turns_36 (⟨f_manys, f_reals, f_factsOf, f_possible, f_pairs, f_pile, f_knowing, f_newAt, f_firsts, rfl, hb_manys, hb_reals, hpg, hwf, (Or.inl ⟨Or.inl (by omega), rfl⟩), KPA.rf⟩)
  · refine an2 hw ?_
    clear hw
    intro he_6 he_7 hw
    have h_5 := hw
    clear hw
    have he_6 := he_6.symm
    subst he_6
    subst he_7
    refine ww_eq (ws' := [(m_manys, .inl (E.2.1 1, 18, .inl f_manys)), (m_reals, .inl (E.2.1 1, 18, .inl f_reals)), (m_factsOf, .inl (E.2.1 1, 432, .inl f_factsOf)), (m_possible, .inl (E.2.1 1, 1728, .inl f_possible)), (m_pairs, .inl (E.2.1 1, 576, .inl f_pairs)), (m_pile, .inl (E.2.1 1, 34, .inl f_pile)), (m_caseMany, .inl (E.2.1 1, 4, .inl f_caseMany)), (m_happen, .inl (E.2.1 1, 4, .inl f_happen)), (m_hasIf, .inl (E.2.1 3, 16, .inl f_hasIf)), (m_becomes, .inl (E.2.1 1, 16, .inl f_becomes)), (m_goneOf, .inl (E.2.1 1, 16, .inl f_goneOf)), (m_heard, .inl (E.2.1 1, 64, .inl f_heard)), (m_actMany, .inl (E.2.1 1, 25, .inl f_actMany)), (m_actOf, .inl (E.2.1 1, 800, .inl f_actOf)), (m_whom, .inl (E.2.1 1, 800, .inl f_whom)), (m_afters, .inl (E.2.1 1, 9, .inl f_afters)), (m_afterOf, .inl (E.2.1 1, 18, .inl f_afterOf)), (m_knowing, .inl (E.2.1 1, 4, .inl f_knowing)), (m_newAt, .inl (E.2.1 1, 24, .inl f_newAt)), (m_firsts, .inl (E.2.1 1, 4, .inl f_firsts)), (hm, .inr (12, [.ref m_manys, .ref m_reals, .ref m_factsOf, .ref m_possible, .int (nI q_undos), .int (nI q_models), .ref m_tape, .int (nI q_taped), .int q_fault, .int q_wrong, .int q_wrongAt, .int q_spot, .int q_place, .int q_token, .int q_value, .ref m_ends, .ref m_letters, .ref m_actOf, .ref m_whom, .ref m_actMany, .ref m_tokens, .ref m_afters, .ref m_afterOf, .int q_counted, .ref m_pile, .ref m_caseMany, .ref m_happen, .ref m_hasIf, .ref m_becomes, .ref m_goneOf, .ref m_heard, .ref m_pairs, .ref m_heaps, .int q_rounds, .int q_heapMany, .ref m_led, .ref m_newAt, .ref m_knowing, .ref m_firsts, .int (nI q_people), .ref m_secrets, .ref m_tried, .ref m_lanes, .ref m_lengths, .ref m_cells])), (m_tokens, .inl (E.2.1 1, 9, .inl f_tokens))]) ?_ rfl rfl rfl
    refine ww_if_eq_t (tgt := 35) C dX12_turns_6 (by decide) (rfl) ?_
    refine ww_iconst (v := (-1)) C dX12_turns_35 rfl ?_
    exact ww_iret (u := [(hm, .inr (12, [.ref m_manys, .ref m_reals, .ref m_factsOf, .ref m_possible, .int (nI q_undos), .int (nI q_models), .ref m_tape, .int (nI q_taped), .int q_fault, .int q_wrong, .int q_wrongAt, .int q_spot, .int q_place, .int q_token, .int q_value, .ref m_ends, .ref m_letters, .ref m_actOf, .ref m_whom, .ref m_actMany, .ref m_tokens, .ref m_afters, .ref m_afterOf, .int q_counted, .ref m_pile, .ref m_caseMany, .ref m_happen, .ref m_hasIf, .ref m_becomes, .ref m_goneOf, .ref m_heard, .ref m_pairs, .ref m_heaps, .int q_rounds, .int q_heapMany, .ref m_led, .ref m_newAt, .ref m_knowing, .ref m_firsts, .int (nI q_people), .ref m_secrets, .ref m_tried, .ref m_lanes, .ref m_lengths, .ref m_cells])), (m_manys, .inl (E.2.1 1, 18, .inl f_manys)), (m_reals, .inl (E.2.1 1, 18, .inl f_reals)), (m_factsOf, .inl (E.2.1 1, 432, .inl f_factsOf)), (m_possible, .inl (E.2.1 1, 1728, .inl f_possible)), (m_pairs, .inl (E.2.1 1, 576, .inl f_pairs)), (m_pile, .inl (E.2.1 1, 34, .inl f_pile)), (m_caseMany, .inl (E.2.1 1, 4, .inl f_caseMany)), (m_happen, .inl (E.2.1 1, 4, .inl f_happen)), (m_hasIf, .inl (E.2.1 3, 16, .inl f_hasIf)), (m_becomes, .inl (E.2.1 1, 16, .inl f_becomes)), (m_goneOf, .inl (E.2.1 1, 16, .inl f_goneOf)), (m_heard, .inl (E.2.1 1, 64, .inl f_heard)), (m_actMany, .inl (E.2.1 1, 25, .inl f_actMany)), (m_actOf, .inl (E.2.1 1, 800, .inl f_actOf)), (m_whom, .inl (E.2.1 1, 800, .inl f_whom)), (m_afters, .inl (E.2.1 1, 9, .inl f_afters)), (m_afterOf, .inl (E.2.1 1, 18, .inl f_afterOf)), (m_knowing, .inl (E.2.1 1, 4, .inl f_knowing)), (m_newAt, .inl (E.2.1 1, 24, .inl f_newAt)), (m_firsts, .inl (E.2.1 1, 4, .inl f_firsts)), (m_tokens, .inl (E.2.1 1, 9, .inl f_tokens))]) C hT [20, 0, 1, 2, 3, 4, 5, 6, 7, 8, 9, 10, 11, 12, 13, 14, 15, 16, 17, 18, 19, 21] (gqk (by eq_refl)) (ndk (by decide +kernel)) rfl rfl dX12_turns_36 (⟨f_manys, f_reals, f_factsOf, f_possible, f_pairs, f_pile, f_knowing, f_newAt, f_firsts, rfl, hb_manys, hb_reals, hpg, hwf, (Or.inl ⟨Or.inr (cann_TT h_5), rfl⟩), KPA.rf⟩)
end
section
/-! plans -/
def canL (m : AM) (e : EVl) : Bool := lyP m e (4 * m.2.1 + e.2.1) && decide (lyC m e ≤ 24)
def hidO (m : AM) (ev : Nat → EVl) (H : Option SVal) : Bool := match H with
  | none => true
  | some S => vWho m ev S m.2.1
def fstO (f : Nat → Option Nat) : Nat → Option Nat
  | 0 => none
  | n + 1 => match fstO f n with
    | some x => some x
    | none => f n
theorem fstO_s {f : Nat → Option Nat} {i : Nat} (h : fstO f i = none) : fstO f (i + 1) = f i := by
  show (match fstO f i with | some x => some x | none => f i) = f i
  rw [h]
theorem fstO_hit {f : Nat → Option Nat} {i x : Nat} (h : fstO f i = none) (hf : f i = some x) : ∀ d, fstO f (i + 1 + d) = some x
  | 0 => (fstO_s h).trans hf
  | d + 1 => by
    show (match fstO f (i + 1 + d) with | some x => some x | none => f (i + 1 + d)) = some x
    rw [fstO_hit h hf d]
theorem fstO_4 {f : Nat → Option Nat} {i x : Nat} (h : fstO f i = none) (hi : i < 4) (hf : f i = some x) : fstO f 4 = some x := by
  have h1 := fstO_hit h hf (3 - i)
  rw [show i + 1 + (3 - i) = 4 by omega] at h1
  exact h1
def plB (ev : Nat → EVl) (A : SVal) (H : Option SVal) : Nat → AM → Nat → Option Nat
  | 0, m, row => if (hidO m ev H && vWho m ev A m.2.1) = true then some row else none
  | L + 1, m, row => if hidO m ev H = true then fstO (fun i => if canL m (ev i) = true then plB ev A H L (aLay m (ev i)) (row * 10 + i) else none) 4 else none
/-- what one event makes of a row -/
def plE (ev : Nat → EVl) (A : SVal) (H : Option SVal) (L : Nat) (m : AM) (row : Nat) : Nat → Option Nat := fun i => if canL m (ev i) = true then plB ev A H L (aLay m (ev i)) (row * 10 + i) else none
section PL
variable {ev : Nat → EVl} {A : SVal} {H : Option SVal} {m : AM} {row L i x : Nat}
theorem pl_h0 (h : hidO m ev H = false) : plB ev A H L m row = none := by
  cases L with
  | zero => show (if (hidO m ev H && vWho m ev A m.2.1) = true then some row else none) = none; rw [h]; rfl
  | succ L => show (if hidO m ev H = true then _ else none) = none; rw [h]; rfl
theorem pl_01 (h : hidO m ev H = true) (h2 : vWho m ev A m.2.1 = true) (hL : L = 0) : plB ev A H L m row = some row := by
  subst hL
  show (if (hidO m ev H && vWho m ev A m.2.1) = true then some row else none) = some row
  rw [h, h2]; rfl
theorem pl_00 (h2 : vWho m ev A m.2.1 = false) (hL : L = 0) : plB ev A H L m row = none := by
  subst hL
  show (if (hidO m ev H && vWho m ev A m.2.1) = true then some row else none) = none
  rw [h2, Bool.and_false]; rfl
theorem pl_s (h : hidO m ev H = true) (hL : L = i + 1) : plB ev A H L m row = fstO (plE ev A H i m row) 4 := by
  subst hL
  show (if hidO m ev H = true then fstO _ 4 else none) = _
  rw [if_pos h]; rfl
theorem plE_no (h : canL m (ev i) = false) : plE ev A H L m row i = none := by unfold plE; rw [h]; rfl
theorem plE_y (h : canL m (ev i) = true) : plE ev A H L m row i = plB ev A H L (aLay m (ev i)) (row * 10 + i) := by unfold plE; rw [if_pos h]
theorem canL_y {n r cs rc Pp : Nat} {f g : Nat → Int32} {T : Nat → Option SVal} {fb fc fd cf : Nat → Int32} (hM : LYM n (lyP (am n r f g) (cs, rc, T, fb, fc, fd)) cf) (hr : r < n) (hrc : rc < 4) (h : (cN cf r).testBit rc = true) (hP : Pp = lyC (am n r f g) (cs, rc, T, fb, fc, fd)) (h24 : Pp ≤ 24) : canL (am n r f g) (cs, rc, T, fb, fc, fd) = true := by
  unfold canL
  show (lyP (am n r f g) (cs, rc, T, fb, fc, fd) (4 * r + rc) && _) = true
  rw [← hM r rc hr hrc, h, Bool.true_and, decide_eq_true_eq, ← hP]; exact h24
theorem canL_n {n r cs rc : Nat} {f g : Nat → Int32} {T : Nat → Option SVal} {fb fc fd cf : Nat → Int32} (hM : LYM n (lyP (am n r f g) (cs, rc, T, fb, fc, fd)) cf) (hrc : rc < 4) (h : r < n → (cN cf r).testBit rc = false) : canL (am n r f g) (cs, rc, T, fb, fc, fd) = false := by
  unfold canL
  show (lyP (am n r f g) (cs, rc, T, fb, fc, fd) (4 * r + rc) && _) = false
  by_cases q : r < n
  · rw [← hM r rc q hrc, h q, Bool.false_and]
  · rw [lyP_at hrc]
    show ((decide (r < n) && _) && _) = false
    rw [decide_eq_false q, Bool.false_and, Bool.false_and]
theorem canL_m {e : EVl} {Pp : Nat} (hP : Pp = lyC m e) (h : ¬ Pp ≤ 24) : canL m e = false := by
  unfold canL
  rw [decide_eq_false (show ¬ lyC m e ≤ 24 by rw [← hP]; exact h), Bool.and_false]
end PL
def NTD (T : Nat → Option SVal) (k : Int32) : Prop := 0 ≤ k.toInt ∧ k.toInt ≤ 7 ∧ (T (tN k)).isSome = true
/-- what plan answers -/
def PLA (m : AM) (ev : Nat → EVl) (T : Nat → Option SVal) (v0 v1 v2 v3 x : Int32) : Prop :=
  ((¬ NTD T v0 ∨ (v1 ≠ -4 ∧ ¬ NTD T v1) ∨ v2.toInt < 0 ∨ 3 < v2.toInt ∨ v3.toInt < 0 ∨ 1 < v3.toInt) ∧ x = -1) ∨
  ((NTD T v0 ∧ (v1 = -4 ∨ NTD T v1) ∧ 0 ≤ v2.toInt ∧ v2.toInt ≤ 3 ∧ 0 ≤ v3.toInt ∧ v3.toInt ≤ 1) ∧ m.1 = 0 ∧ x = -2) ∨
  ((NTD T v0 ∧ (v1 = -4 ∨ NTD T v1) ∧ 0 ≤ v2.toInt ∧ v2.toInt ≤ 3 ∧ 0 ≤ v3.toInt ∧ v3.toInt ≤ 1) ∧ m.1 ≠ 0 ∧ (((∀ l, l ≤ tN v2 → plB ev ((T (tN v0)).getD sv0) (if v1 = -4 then none else T (tN v1)) l m 1 = none) ∧ x = -4) ∨
    ∃ l row, l ≤ tN v2 ∧ plB ev ((T (tN v0)).getD sv0) (if v1 = -4 then none else T (tN v1)) l m 1 = some row ∧ (∀ k, k < l → plB ev ((T (tN v0)).getD sv0) (if v1 = -4 then none else T (tN v1)) k m 1 = none) ∧ x = if v3.toInt = 0 then nI l else nI row))
/-! rows of events as the reference goes through them -/
def dgt (row l : Nat) : Nat := row / 4 ^ l % 4
theorem dgt_lt {row l : Nat} : dgt row l < 4 := Nat.mod_lt _ (by decide)
theorem dg_tab : ∀ l, l < 3 → ∀ row, row < 64 → (nI row >>> (nI (2 * l) &&& 31)) &&& 3 = nI (dgt row l) := by decide +kernel
theorem dg_of {row l j : Nat} {x : Int32} (hl : l < 3) (hr : row < 64) (e1 : nI row >>> (nI (2 * l) &&& 31) = x) (e2 : x &&& 3 = nI j) (hj : j ≤ 3) : j = dgt row l := by
  have h := dg_tab l hl row hr
  rw [e1, e2] at h
  have h2 := congrArg Int32.toInt h
  have h3 := dgt_lt (row := row) (l := l)
  rw [nI_toInt (by omega), nI_toInt (by omega)] at h2
  omega
section GOB
variable (ev : Nat → EVl) (A : SVal) (H : Option SVal) (d : Nat → Nat)
def gob : Nat → AM → Bool
  | 0, m => hidO m ev H && vWho m ev A m.2.1
  | L + 1, m => hidO m ev H && (canL m (ev (d L)) && gob L (aLay m (ev (d L))))
def figR : Nat → Nat → Nat
  | 0, r => r
  | L + 1, r => figR L (r * 10 + d L)
end GOB
section GOBS
variable {ev : Nat → EVl} {A : SVal} {H : Option SVal} {d d' : Nat → Nat} {m m' : AM} {L r : Nat} {b : Bool}
theorem gob_cg : ∀ {L : Nat} {m : AM}, (∀ l, l < L → d l = d' l) → gob ev A H d L m = gob ev A H d' L m
  | 0, _, _ => rfl
  | L + 1, m, h => by
    show (hidO m ev H && (canL m (ev (d L)) && gob ev A H d L (aLay m (ev (d L))))) = (hidO m ev H && (canL m (ev (d' L)) && gob ev A H d' L (aLay m (ev (d' L)))))
    rw [h L (by omega), gob_cg (fun l hl => h l (by omega))]
theorem figR_cg : ∀ {L r : Nat}, (∀ l, l < L → d l = d' l) → figR d L r = figR d' L r
  | 0, _, _ => rfl
  | L + 1, r, h => by
    show figR d L (r * 10 + d L) = figR d' L (r * 10 + d' L)
    rw [h L (by omega), figR_cg (fun l hl => h l (by omega))]
theorem gob_h (h : hidO m ev H = false) : gob ev A H d L m = false := by
  cases L with
  | zero => show (hidO m ev H && _) = false; rw [h]; rfl
  | succ L => show (hidO m ev H && _) = false; rw [h]; rfl
theorem gob_s {e : Nat} (h : hidO m ev H = true) (he : e = d L) (hc : canL m (ev e) = true) (h2 : m' = aLay m (ev e)) : gob ev A H d (L + 1) m = gob ev A H d L m' := by
  show (hidO m ev H && (canL m (ev (d L)) && gob ev A H d L (aLay m (ev (d L))))) = _
  rw [← he, h, hc, ← h2]; rfl
theorem gob_c {e : Nat} (he : e = d L) (hc : canL m (ev e) = false) : gob ev A H d (L + 1) m = false := by
  show (hidO m ev H && (canL m (ev (d L)) && gob ev A H d L (aLay m (ev (d L))))) = false
  rw [← he, hc, Bool.false_and, Bool.and_false]
theorem gob_0 (h : hidO m ev H = true) (hv : vWho m ev A m.2.1 = b) : gob ev A H d 0 m = b := by
  show (hidO m ev H && vWho m ev A m.2.1) = b
  rw [h, hv, Bool.true_and]
end GOBS
/-! the first of a row of rows -/
theorem fstO_cg {f g : Nat → Option Nat} : ∀ {n : Nat}, (∀ i, i < n → f i = g i) → fstO f n = fstO g n
  | 0, _ => rfl
  | n + 1, h => by
    show (match fstO f n with | some x => some x | none => f n) = (match fstO g n with | some x => some x | none => g n)
    rw [fstO_cg (fun i hi => h i (by omega)), h n (by omega)]
theorem fstO_app {f : Nat → Option Nat} {a : Nat} : ∀ b : Nat, fstO f (a + b) = match fstO f a with
    | some x => some x
    | none => fstO (fun j => f (a + j)) b
  | 0 => by
    show fstO f a = match fstO f a with | some x => some x | none => none
    cases fstO f a <;> rfl
  | b + 1 => by
    show (match fstO f (a + b) with | some x => some x | none => f (a + b)) = match fstO f a with | some x => some x | none => (match fstO (fun j => f (a + j)) b with | some x => some x | none => f (a + b))
    rw [fstO_app b]
    cases fstO f a <;> rfl
theorem fstO_blk {G : Nat → Option Nat} {N : Nat} : ∀ K : Nat, fstO (fun i => fstO (fun j => G (i * N + j)) N) K = fstO G (K * N)
  | 0 => by rw [Nat.zero_mul]; rfl
  | K + 1 => by
    show (match fstO (fun i => fstO (fun j => G (i * N + j)) N) K with | some x => some x | none => fstO (fun j => G (K * N + j)) N) = _
    rw [Nat.succ_mul, fstO_app N, fstO_blk K]
theorem fstO_no {f : Nat → Option Nat} : ∀ {n : Nat}, (∀ i, i < n → f i = none) → fstO f n = none
  | 0, _ => rfl
  | n + 1, h => by rw [fstO_s (fstO_no (fun i hi => h i (by omega)))]; exact h n (by omega)
theorem dgt_top {L i j : Nat} (hi : i < 4) (hj : j < 4 ^ L) : dgt (i * 4 ^ L + j) L = i := by
  unfold dgt
  rw [Nat.mul_comm, Nat.mul_add_div (Nat.pow_pos (by decide)), Nat.div_eq_of_lt hj, Nat.add_zero]
  exact Nat.mod_eq_of_lt hi
theorem dgt_low {L l i j : Nat} (hl : l < L) : dgt (i * 4 ^ L + j) l = dgt j l := by
  unfold dgt
  obtain ⟨t, rfl⟩ : ∃ t, L = l + (t + 1) := ⟨L - l - 1, by omega⟩
  rw [Nat.pow_add, Nat.pow_succ, show i * (4 ^ l * (4 ^ t * 4)) + j = 4 ^ l * (i * 4 ^ t * 4) + j by rw [show i * (4 ^ l * (4 ^ t * 4)) = 4 ^ l * (i * 4 ^ t * 4) by rw [Nat.mul_left_comm]; congr 1; rw [Nat.mul_assoc]], Nat.mul_add_div (Nat.pow_pos (by decide)), Nat.add_comm, Nat.add_mul_mod_self_right]
/-- what one row makes of it -/
def rowO (ev : Nat → EVl) (A : SVal) (H : Option SVal) (L : Nat) (m : AM) (r : Nat) : Nat → Option Nat := fun row => if gob ev A H (dgt row) L m = true then some (figR (dgt row) L r) else none
theorem plB_row {ev : Nat → EVl} {A : SVal} {H : Option SVal} : ∀ (L : Nat) (m : AM) (r : Nat), plB ev A H L m r = fstO (rowO ev A H L m r) (4 ^ L)
  | 0, m, r => rfl
  | L + 1, m, r => by
    have h4 : 4 ^ (L + 1) = 4 * 4 ^ L := by rw [Nat.pow_succ, Nat.mul_comm]
    rw [h4, ← fstO_blk 4]
    show (if hidO m ev H = true then fstO (fun i => if canL m (ev i) = true then plB ev A H L (aLay m (ev i)) (r * 10 + i) else none) 4 else none) = _
    by_cases hh : hidO m ev H = true
    · rw [if_pos hh]
      refine fstO_cg (fun i hi => ?_)
      show (if canL m (ev i) = true then plB ev A H L (aLay m (ev i)) (r * 10 + i) else none) = fstO (fun j => rowO ev A H (L + 1) m r (i * 4 ^ L + j)) (4 ^ L)
      by_cases hc : canL m (ev i) = true
      · rw [if_pos hc, plB_row L]
        refine fstO_cg (fun j hj => ?_)
        unfold rowO
        rw [gob_s hh (dgt_top hi hj).symm hc rfl, gob_cg (d := dgt (i * 4 ^ L + j)) (d' := dgt j) (fun l hl => dgt_low hl)]
        show _ = if _ then some (figR (dgt (i * 4 ^ L + j)) L (r * 10 + dgt (i * 4 ^ L + j) L)) else none
        rw [dgt_top hi hj, figR_cg (d := dgt (i * 4 ^ L + j)) (d' := dgt j) (fun l hl => dgt_low hl)]
      · rw [if_neg hc]
        rw [Bool.not_eq_true] at hc
        refine (fstO_no (fun j hj => ?_)).symm
        unfold rowO
        rw [gob_c (dgt_top hi hj).symm hc]; rfl
    · rw [if_neg hh]
      rw [Bool.not_eq_true] at hh
      refine (fstO_no (fun i _ => fstO_no (fun j _ => ?_))).symm
      unfold rowO
      rw [gob_h hh]; rfl
theorem pow42 (m : Nat) : 2 ^ (2 * m) = 4 ^ m := Nat.pow_mul 2 2 m
section ROWS
variable {ev : Nat → EVl} {A : SVal} {H : Option SVal} {L r row : Nat} {m m' : AM}
theorem ro_n (h : fstO (rowO ev A H L m r) row = none) (em : m' = m) (hg : gob ev A H (dgt row) L m' = false) : fstO (rowO ev A H L m r) (row + 1) = none := by
  rw [fstO_s h]; unfold rowO; rw [← em, hg]; rfl
theorem ro_e (h : fstO (rowO ev A H L m r) row = none) (e : row = 2 ^ (2 * L)) : plB ev A H L m r = none := by rw [plB_row, ← pow42, ← e]; exact h
theorem ro_y {x : Nat} (h : fstO (rowO ev A H L m r) row = none) (em : m' = m) (hg : gob ev A H (dgt row) L m' = true) (hr : row < 2 ^ (2 * L)) (hx : figR (dgt row) L r = x) : plB ev A H L m r = some x := by
  rw [plB_row, ← pow42]
  have h1 : rowO ev A H L m r row = some x := by unfold rowO; rw [← em, if_pos hg, hx]
  have h2 := fstO_hit h h1 (2 ^ (2 * L) - row - 1)
  rw [show row + 1 + (2 ^ (2 * L) - row - 1) = 2 ^ (2 * L) by omega] at h2
  exact h2
end ROWS
/-! whether one event can be laid -/
section CANL
variable {m : AM} {e : EVl}
theorem canL_z (h : e.1 = 0) : canL m e = false := by
  unfold canL lyP
  show ((decide ((4 * m.2.1 + e.2.1) / 4 < m.1) && (decide ((4 * m.2.1 + e.2.1) % 4 < e.1) && _)) && _) = false
  rw [h, decide_eq_false (Nat.not_lt_zero _), Bool.false_and, Bool.and_false, Bool.false_and]
theorem canL_b (hr : m.2.1 < m.1) (hc : e.2.1 < e.1) (h4 : e.2.1 < 4) (h : canE m (e.2.2.1 e.2.1) m.2.1 = false) : canL m e = false := by
  unfold canL
  rw [ly_can hr hc h4 h, Bool.false_and]
theorem canL_f (h : ¬ lyC m e ≤ 24) : canL m e = false := by
  unfold canL
  rw [decide_eq_false h, Bool.and_false]
theorem canL_t (hr : m.2.1 < m.1) (hc : e.2.1 < e.1) (h4 : e.2.1 < 4) (h : canE m (e.2.2.1 e.2.1) m.2.1 = true) (h24 : lyC m e ≤ 24) : canL m e = true := by
  unfold canL
  rw [ly_can hr hc h4 h, decide_eq_true h24]; rfl
theorem canL_in (hr : m.2.1 < m.1) (h4 : e.2.1 < 4) (h : canL m e = true) : (aLay m e).2.1 < (aLay m e).1 := by
  unfold canL at h
  rw [Bool.and_eq_true] at h
  show (if lyP m e (4 * m.2.1 + e.2.1) = true then cb (lyP m e) (4 * m.2.1 + e.2.1) else 0) < cb (lyP m e) (4 * m.1)
  rw [if_pos h.1]
  exact cb_lt (by omega) h.1
end CANL
end
