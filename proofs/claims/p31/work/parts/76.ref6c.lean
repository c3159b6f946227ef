theorem dX12_trueAt_0 : decode cX12_trueAt 0 = .ok (.aload_n 0, 1) := by decide +kernel
theorem dX12_trueAt_1 : decode cX12_trueAt 1 = .ok (.getfield 7, 3) := by decide +kernel
theorem dX12_trueAt_4 : decode cX12_trueAt 4 = .ok (.iload_n 2, 1) := by decide +kernel
theorem dX12_trueAt_5 : decode cX12_trueAt 5 = .ok (.iaload, 1) := by decide +kernel
theorem dX12_trueAt_6 : decode cX12_trueAt 6 = .ok (.invokestatic 230, 3) := by decide +kernel
theorem wl_X12_230 : Cond.methodLink RX12 230 yX12_all ∈ TB := tbm (tq6 (List.mem_of_getElem? (i := 174) (by decide +kernel))) (by decide +kernel)
theorem wc_X12_all : Cond.code yX12_all cX12_all 1 (some .int) ∈ TB := tbm (tq6 (List.mem_of_getElem? (i := 176) (rfl))) (by decide +kernel)
theorem wt_X12_all : Cond.static yX12_all ∈ TB := tbm (tq6 (List.mem_of_getElem? (i := 175) (by decide +kernel))) (by decide +kernel)
theorem ms_X12_all : MS yX12_all cX12_all 1 (some .int) 1 := ⟨wc_X12_all, wn_X12, ⟨by decide +kernel, by decide +kernel, by decide +kernel⟩, wt_X12_all⟩
theorem dX12_trueAt_9 : decode cX12_trueAt 9 = .ok (.istore_n 3, 1) := by decide +kernel
theorem dX12_trueAt_10 : decode cX12_trueAt 10 = .ok (.iconst 0, 1) := by decide +kernel
theorem dX12_trueAt_11 : decode cX12_trueAt 11 = .ok (.istore 4, 2) := by decide +kernel
theorem dX12_trueAt_13 : decode cX12_trueAt 13 = .ok (.aload_n 0, 1) := by decide +kernel
theorem dX12_trueAt_14 : decode cX12_trueAt 14 = .ok (.getfield 37, 3) := by decide +kernel
theorem dX12_trueAt_17 : decode cX12_trueAt 17 = .ok (.iload_n 1, 1) := by decide +kernel
theorem dX12_trueAt_18 : decode cX12_trueAt 18 = .ok (.iaload, 1) := by decide +kernel
theorem dX12_trueAt_19 : decode cX12_trueAt 19 = .ok (.iconst 1, 1) := by decide +kernel
theorem dX12_trueAt_20 : decode cX12_trueAt 20 = .ok (.isub, 1) := by decide +kernel
theorem dX12_trueAt_21 : decode cX12_trueAt 21 = .ok (.istore 5, 2) := by decide +kernel
theorem dX12_trueAt_23 : decode cX12_trueAt 23 = .ok (.iload 5, 2) := by decide +kernel
theorem dX12_trueAt_25 : decode cX12_trueAt 25 = .ok (.ifCond .lt 228, 3) := by decide +kernel
theorem dX12_trueAt_253 : decode cX12_trueAt 253 = .ok (.aload_n 0, 1) := by decide +kernel
theorem dX12_trueAt_254 : decode cX12_trueAt 254 = .ok (.getfield 49, 3) := by decide +kernel
theorem dX12_trueAt_257 : decode cX12_trueAt 257 = .ok (.iconst 0, 1) := by decide +kernel
theorem dX12_trueAt_258 : decode cX12_trueAt 258 = .ok (.iaload, 1) := by decide +kernel
theorem dX12_trueAt_259 : decode cX12_trueAt 259 = .ok (.ireturn, 1) := by decide +kernel
theorem dX12_trueAt_28 : decode cX12_trueAt 28 = .ok (.aload_n 0, 1) := by decide +kernel
theorem dX12_trueAt_29 : decode cX12_trueAt 29 = .ok (.getfield 31, 3) := by decide +kernel
theorem dX12_trueAt_32 : decode cX12_trueAt 32 = .ok (.bipush 32, 2) := by decide +kernel
theorem dX12_trueAt_34 : decode cX12_trueAt 34 = .ok (.iload_n 1, 1) := by decide +kernel
theorem dX12_trueAt_35 : decode cX12_trueAt 35 = .ok (.imul, 1) := by decide +kernel
theorem dX12_trueAt_36 : decode cX12_trueAt 36 = .ok (.iload 5, 2) := by decide +kernel
theorem dX12_trueAt_38 : decode cX12_trueAt 38 = .ok (.iadd, 1) := by decide +kernel
theorem dX12_trueAt_39 : decode cX12_trueAt 39 = .ok (.iaload, 1) := by decide +kernel
theorem dX12_trueAt_40 : decode cX12_trueAt 40 = .ok (.istore 6, 2) := by decide +kernel
theorem dX12_trueAt_42 : decode cX12_trueAt 42 = .ok (.iload_n 3, 1) := by decide +kernel
theorem dX12_trueAt_43 : decode cX12_trueAt 43 = .ok (.istore 7, 2) := by decide +kernel
theorem dX12_trueAt_45 : decode cX12_trueAt 45 = .ok (.iload 6, 2) := by decide +kernel
theorem dX12_trueAt_47 : decode cX12_trueAt 47 = .ok (.iconst 4, 1) := by decide +kernel
theorem dX12_trueAt_48 : decode cX12_trueAt 48 = .ok (.if_icmp .ge 54, 3) := by decide +kernel
theorem dX12_trueAt_102 : decode cX12_trueAt 102 = .ok (.iload 6, 2) := by decide +kernel
theorem dX12_trueAt_104 : decode cX12_trueAt 104 = .ok (.iconst 5, 1) := by decide +kernel
theorem dX12_trueAt_105 : decode cX12_trueAt 105 = .ok (.if_icmp .ne 21, 3) := by decide +kernel
theorem dX12_trueAt_126 : decode cX12_trueAt 126 = .ok (.iload 6, 2) := by decide +kernel
theorem dX12_trueAt_128 : decode cX12_trueAt 128 = .ok (.bipush 6, 2) := by decide +kernel
theorem dX12_trueAt_130 : decode cX12_trueAt 130 = .ok (.if_icmp .ne 27, 3) := by decide +kernel
theorem dX12_trueAt_157 : decode cX12_trueAt 157 = .ok (.iload 6, 2) := by decide +kernel
theorem dX12_trueAt_159 : decode cX12_trueAt 159 = .ok (.bipush 7, 2) := by decide +kernel
theorem dX12_trueAt_161 : decode cX12_trueAt 161 = .ok (.if_icmp .ne 27, 3) := by decide +kernel
theorem dX12_trueAt_188 : decode cX12_trueAt 188 = .ok (.iload 6, 2) := by decide +kernel
theorem dX12_trueAt_190 : decode cX12_trueAt 190 = .ok (.bipush 8, 2) := by decide +kernel
theorem dX12_trueAt_192 : decode cX12_trueAt 192 = .ok (.if_icmp .lt 33, 3) := by decide +kernel
theorem dX12_trueAt_225 : decode cX12_trueAt 225 = .ok (.iload 4, 2) := by decide +kernel
theorem dX12_trueAt_227 : decode cX12_trueAt 227 = .ok (.iload 6, 2) := by decide +kernel
theorem dX12_trueAt_229 : decode cX12_trueAt 229 = .ok (.invokestatic 215, 3) := by decide +kernel
theorem dX12_trueAt_232 : decode cX12_trueAt 232 = .ok (.isub, 1) := by decide +kernel
theorem dX12_trueAt_233 : decode cX12_trueAt 233 = .ok (.istore 4, 2) := by decide +kernel
theorem dX12_trueAt_235 : decode cX12_trueAt 235 = .ok (.aload_n 0, 1) := by decide +kernel
theorem dX12_trueAt_236 : decode cX12_trueAt 236 = .ok (.getfield 49, 3) := by decide +kernel
theorem dX12_trueAt_239 : decode cX12_trueAt 239 = .ok (.iload 4, 2) := by decide +kernel
theorem dX12_trueAt_241 : decode cX12_trueAt 241 = .ok (.iload 7, 2) := by decide +kernel
theorem dX12_trueAt_243 : decode cX12_trueAt 243 = .ok (.iastore, 1) := by decide +kernel
theorem dX12_trueAt_244 : decode cX12_trueAt 244 = .ok (.iinc 4 1, 3) := by decide +kernel
theorem dX12_trueAt_247 : decode cX12_trueAt 247 = .ok (.iinc 5 (-1), 3) := by decide +kernel
theorem dX12_trueAt_250 : decode cX12_trueAt 250 = .ok (.goto (-227), 3) := by decide +kernel
theorem dX12_trueAt_195 : decode cX12_trueAt 195 = .ok (.aload_n 0, 1) := by decide +kernel
theorem dX12_trueAt_196 : decode cX12_trueAt 196 = .ok (.iload_n 2, 1) := by decide +kernel
theorem dX12_trueAt_197 : decode cX12_trueAt 197 = .ok (.iload 6, 2) := by decide +kernel
theorem dX12_trueAt_199 : decode cX12_trueAt 199 = .ok (.aload_n 0, 1) := by decide +kernel
theorem dX12_trueAt_200 : decode cX12_trueAt 200 = .ok (.getfield 34, 3) := by decide +kernel
theorem dX12_trueAt_203 : decode cX12_trueAt 203 = .ok (.bipush 32, 2) := by decide +kernel
theorem dX12_trueAt_205 : decode cX12_trueAt 205 = .ok (.iload_n 1, 1) := by decide +kernel
theorem dX12_trueAt_206 : decode cX12_trueAt 206 = .ok (.imul, 1) := by decide +kernel
theorem dX12_trueAt_207 : decode cX12_trueAt 207 = .ok (.iload 5, 2) := by decide +kernel
theorem dX12_trueAt_209 : decode cX12_trueAt 209 = .ok (.iadd, 1) := by decide +kernel
theorem dX12_trueAt_210 : decode cX12_trueAt 210 = .ok (.iaload, 1) := by decide +kernel
theorem dX12_trueAt_211 : decode cX12_trueAt 211 = .ok (.aload_n 0, 1) := by decide +kernel
theorem dX12_trueAt_212 : decode cX12_trueAt 212 = .ok (.getfield 49, 3) := by decide +kernel
theorem dX12_trueAt_215 : decode cX12_trueAt 215 = .ok (.iload 4, 2) := by decide +kernel
theorem dX12_trueAt_217 : decode cX12_trueAt 217 = .ok (.iconst 1, 1) := by decide +kernel
theorem dX12_trueAt_218 : decode cX12_trueAt 218 = .ok (.isub, 1) := by decide +kernel
theorem dX12_trueAt_219 : decode cX12_trueAt 219 = .ok (.iaload, 1) := by decide +kernel
theorem dX12_trueAt_220 : decode cX12_trueAt 220 = .ok (.invokevirtual 233, 3) := by decide +kernel
theorem wl_X12_233 : Cond.methodLink RX12 233 yX12_knownBy ∈ TB := tbm (tq6 (List.mem_of_getElem? (i := 177) (by decide +kernel))) (by decide +kernel)
theorem wc_X12_knownBy : Cond.code yX12_knownBy cX12_knownBy 10 (some .int) ∈ TB := tbm (tq6 (List.mem_of_getElem? (i := 180) (rfl))) (by decide +kernel)
theorem wi_X12_knownBy : Cond.instanceMethod yX12_knownBy ∈ TB := tbm (tq6 (List.mem_of_getElem? (i := 179) (by decide +kernel))) (by decide +kernel)
theorem ws_X12_knownBy : Cond.selects RX12 yX12_knownBy yX12_knownBy ∈ TB := tbm (tq0 (List.mem_of_getElem? (i := 63) (by decide +kernel))) (by decide +kernel)
theorem mi_X12_knownBy : MI yX12_knownBy cX12_knownBy 10 (some .int) 4 := ⟨wc_X12_knownBy, wn_X12, ⟨by decide +kernel, by decide +kernel, by decide +kernel⟩, wi_X12_knownBy, ws_X12_knownBy⟩
theorem dX12_trueAt_223 : decode cX12_trueAt 223 = .ok (.istore 7, 2) := by decide +kernel
theorem dX12_trueAt_164 : decode cX12_trueAt 164 = .ok (.aload_n 0, 1) := by decide +kernel
theorem dX12_trueAt_165 : decode cX12_trueAt 165 = .ok (.getfield 49, 3) := by decide +kernel
theorem dX12_trueAt_168 : decode cX12_trueAt 168 = .ok (.iload 4, 2) := by decide +kernel
theorem dX12_trueAt_170 : decode cX12_trueAt 170 = .ok (.iconst 1, 1) := by decide +kernel
theorem dX12_trueAt_171 : decode cX12_trueAt 171 = .ok (.isub, 1) := by decide +kernel
theorem dX12_trueAt_172 : decode cX12_trueAt 172 = .ok (.iaload, 1) := by decide +kernel
theorem dX12_trueAt_173 : decode cX12_trueAt 173 = .ok (.aload_n 0, 1) := by decide +kernel
theorem dX12_trueAt_174 : decode cX12_trueAt 174 = .ok (.getfield 49, 3) := by decide +kernel
theorem dX12_trueAt_177 : decode cX12_trueAt 177 = .ok (.iload 4, 2) := by decide +kernel
theorem dX12_trueAt_179 : decode cX12_trueAt 179 = .ok (.iconst 2, 1) := by decide +kernel
theorem dX12_trueAt_180 : decode cX12_trueAt 180 = .ok (.isub, 1) := by decide +kernel
theorem dX12_trueAt_181 : decode cX12_trueAt 181 = .ok (.iaload, 1) := by decide +kernel
theorem dX12_trueAt_182 : decode cX12_trueAt 182 = .ok (.ior, 1) := by decide +kernel
theorem dX12_trueAt_183 : decode cX12_trueAt 183 = .ok (.istore 7, 2) := by decide +kernel
theorem dX12_trueAt_185 : decode cX12_trueAt 185 = .ok (.goto 40, 3) := by decide +kernel
theorem dX12_trueAt_133 : decode cX12_trueAt 133 = .ok (.aload_n 0, 1) := by decide +kernel
theorem dX12_trueAt_134 : decode cX12_trueAt 134 = .ok (.getfield 49, 3) := by decide +kernel
theorem dX12_trueAt_137 : decode cX12_trueAt 137 = .ok (.iload 4, 2) := by decide +kernel
theorem dX12_trueAt_139 : decode cX12_trueAt 139 = .ok (.iconst 1, 1) := by decide +kernel
theorem dX12_trueAt_140 : decode cX12_trueAt 140 = .ok (.isub, 1) := by decide +kernel
theorem dX12_trueAt_141 : decode cX12_trueAt 141 = .ok (.iaload, 1) := by decide +kernel
theorem dX12_trueAt_142 : decode cX12_trueAt 142 = .ok (.aload_n 0, 1) := by decide +kernel
theorem dX12_trueAt_143 : decode cX12_trueAt 143 = .ok (.getfield 49, 3) := by decide +kernel
theorem dX12_trueAt_146 : decode cX12_trueAt 146 = .ok (.iload 4, 2) := by decide +kernel
theorem dX12_trueAt_148 : decode cX12_trueAt 148 = .ok (.iconst 2, 1) := by decide +kernel
theorem dX12_trueAt_149 : decode cX12_trueAt 149 = .ok (.isub, 1) := by decide +kernel
theorem dX12_trueAt_150 : decode cX12_trueAt 150 = .ok (.iaload, 1) := by decide +kernel
theorem dX12_trueAt_151 : decode cX12_trueAt 151 = .ok (.iand, 1) := by decide +kernel
theorem dX12_trueAt_152 : decode cX12_trueAt 152 = .ok (.istore 7, 2) := by decide +kernel
theorem dX12_trueAt_154 : decode cX12_trueAt 154 = .ok (.goto 71, 3) := by decide +kernel
theorem dX12_trueAt_108 : decode cX12_trueAt 108 = .ok (.iload_n 3, 1) := by decide +kernel
theorem dX12_trueAt_109 : decode cX12_trueAt 109 = .ok (.aload_n 0, 1) := by decide +kernel
theorem dX12_trueAt_110 : decode cX12_trueAt 110 = .ok (.getfield 49, 3) := by decide +kernel
theorem dX12_trueAt_113 : decode cX12_trueAt 113 = .ok (.iload 4, 2) := by decide +kernel
theorem dX12_trueAt_115 : decode cX12_trueAt 115 = .ok (.iconst 1, 1) := by decide +kernel
theorem dX12_trueAt_116 : decode cX12_trueAt 116 = .ok (.isub, 1) := by decide +kernel
theorem dX12_trueAt_117 : decode cX12_trueAt 117 = .ok (.iaload, 1) := by decide +kernel
theorem dX12_trueAt_118 : decode cX12_trueAt 118 = .ok (.iconst (-1), 1) := by decide +kernel
theorem dX12_trueAt_119 : decode cX12_trueAt 119 = .ok (.ixor, 1) := by decide +kernel
theorem dX12_trueAt_120 : decode cX12_trueAt 120 = .ok (.iand, 1) := by decide +kernel
theorem dX12_trueAt_121 : decode cX12_trueAt 121 = .ok (.istore 7, 2) := by decide +kernel
theorem dX12_trueAt_123 : decode cX12_trueAt 123 = .ok (.goto 102, 3) := by decide +kernel
theorem dX12_trueAt_51 : decode cX12_trueAt 51 = .ok (.iconst 0, 1) := by decide +kernel
theorem dX12_trueAt_52 : decode cX12_trueAt 52 = .ok (.istore 7, 2) := by decide +kernel
theorem dX12_trueAt_54 : decode cX12_trueAt 54 = .ok (.iconst 0, 1) := by decide +kernel
theorem dX12_trueAt_55 : decode cX12_trueAt 55 = .ok (.istore 8, 2) := by decide +kernel
theorem dX12_trueAt_57 : decode cX12_trueAt 57 = .ok (.iload 8, 2) := by decide +kernel
theorem dX12_trueAt_59 : decode cX12_trueAt 59 = .ok (.aload_n 0, 1) := by decide +kernel
theorem dX12_trueAt_60 : decode cX12_trueAt 60 = .ok (.getfield 7, 3) := by decide +kernel
theorem dX12_trueAt_63 : decode cX12_trueAt 63 = .ok (.iload_n 2, 1) := by decide +kernel
theorem dX12_trueAt_64 : decode cX12_trueAt 64 = .ok (.iaload, 1) := by decide +kernel
theorem dX12_trueAt_65 : decode cX12_trueAt 65 = .ok (.if_icmp .ge 34, 3) := by decide +kernel
theorem dX12_trueAt_99 : decode cX12_trueAt 99 = .ok (.goto 126, 3) := by decide +kernel
theorem dX12_trueAt_68 : decode cX12_trueAt 68 = .ok (.iload 7, 2) := by decide +kernel
theorem dX12_trueAt_70 : decode cX12_trueAt 70 = .ok (.aload_n 0, 1) := by decide +kernel
theorem dX12_trueAt_71 : decode cX12_trueAt 71 = .ok (.getfield 16, 3) := by decide +kernel
theorem dX12_trueAt_74 : decode cX12_trueAt 74 = .ok (.bipush 24, 2) := by decide +kernel
theorem dX12_trueAt_76 : decode cX12_trueAt 76 = .ok (.iload_n 2, 1) := by decide +kernel
theorem dX12_trueAt_77 : decode cX12_trueAt 77 = .ok (.imul, 1) := by decide +kernel
theorem dX12_trueAt_78 : decode cX12_trueAt 78 = .ok (.iload 8, 2) := by decide +kernel
theorem dX12_trueAt_80 : decode cX12_trueAt 80 = .ok (.iadd, 1) := by decide +kernel
theorem dX12_trueAt_81 : decode cX12_trueAt 81 = .ok (.iaload, 1) := by decide +kernel
theorem dX12_trueAt_82 : decode cX12_trueAt 82 = .ok (.iload 6, 2) := by decide +kernel
theorem dX12_trueAt_84 : decode cX12_trueAt 84 = .ok (.ishr, 1) := by decide +kernel
theorem dX12_trueAt_85 : decode cX12_trueAt 85 = .ok (.iconst 1, 1) := by decide +kernel
theorem dX12_trueAt_86 : decode cX12_trueAt 86 = .ok (.iand, 1) := by decide +kernel
theorem dX12_trueAt_87 : decode cX12_trueAt 87 = .ok (.iload 8, 2) := by decide +kernel
theorem dX12_trueAt_89 : decode cX12_trueAt 89 = .ok (.ishl, 1) := by decide +kernel
theorem dX12_trueAt_90 : decode cX12_trueAt 90 = .ok (.ior, 1) := by decide +kernel
theorem dX12_trueAt_91 : decode cX12_trueAt 91 = .ok (.istore 7, 2) := by decide +kernel
theorem dX12_trueAt_93 : decode cX12_trueAt 93 = .ok (.iinc 8 1, 3) := by decide +kernel
theorem dX12_trueAt_96 : decode cX12_trueAt 96 = .ok (.goto (-39), 3) := by decide +kernel
set_option maxRecDepth 100000 in
set_option maxHeartbeats 4000000 in
theorem r_trueAt (l : Launch) (E : EV) (ro : va_W) (hm : Nat) (sl : Nat) (pg : Nat) (m_manys : Nat) (m_reals : Nat) (m_factsOf : Nat) (m_possible : Nat) (q_undos : Nat) (q_models : Nat) (m_tape : Nat) (q_taped : Nat) (q_fault : Int32) (q_wrong : Int32) (q_wrongAt : Int32) (q_spot : Int32) (q_place : Int32) (q_token : Int32) (q_value : Int32) (m_ends : Nat) (m_letters : Nat) (m_actOf : Nat) (m_whom : Nat) (m_actMany : Nat) (m_tokens : Nat) (m_afters : Nat) (m_afterOf : Nat) (q_counted : Int32) (m_pile : Nat) (m_caseMany : Nat) (m_happen : Nat) (m_hasIf : Nat) (m_becomes : Nat) (m_goneOf : Nat) (m_heard : Nat) (m_pairs : Nat) (m_heaps : Nat) (q_rounds : Int32) (q_heapMany : Int32) (m_led : Nat) (m_newAt : Nat) (m_knowing : Nat) (m_firsts : Nat) (q_people : Nat) (m_secrets : Nat) (m_tried : Nat) (m_lanes : Nat) (m_lengths : Nat) (m_cells : Nat) (f_manys : Nat → Int32) (f_possible : Nat → Int32) (f_factsOf : Nat → Int32) (f_actMany : Nat → Int32) (f_actOf : Nat → Int32) (f_whom : Nat → Int32) (f_pile : Nat → Int32) (hb_manys : NB 18 24 f_manys) (hb_actMany : NB 25 32 f_actMany) (hsv : SV f_actOf f_actMany) (hsl : sl < 24) (hpg : pg < 18) : CT l yX12_trueAt (Cond.code yX12_trueAt cX12_trueAt 9 (some .int) :: TB) ({ frames := 3, cells := 0, slots := 0, locals := 79 }) E ro [.ref hm, .int (nI sl), .int (nI pg)] [(hm, .inr (12, [.ref m_manys, .ref m_reals, .ref m_factsOf, .ref m_possible, .int (nI q_undos), .int (nI q_models), .ref m_tape, .int (nI q_taped), .int q_fault, .int q_wrong, .int q_wrongAt, .int q_spot, .int q_place, .int q_token, .int q_value, .ref m_ends, .ref m_letters, .ref m_actOf, .ref m_whom, .ref m_actMany, .ref m_tokens, .ref m_afters, .ref m_afterOf, .int q_counted, .ref m_pile, .ref m_caseMany, .ref m_happen, .ref m_hasIf, .ref m_becomes, .ref m_goneOf, .ref m_heard, .ref m_pairs, .ref m_heaps, .int q_rounds, .int q_heapMany, .ref m_led, .ref m_newAt, .ref m_knowing, .ref m_firsts, .int (nI q_people), .ref m_secrets, .ref m_tried, .ref m_lanes, .ref m_lengths, .ref m_cells])), (m_manys, .inl (E.2.1 1, 18, .inl f_manys)), (m_possible, .inl (E.2.1 1, 1728, .inl f_possible)), (m_factsOf, .inl (E.2.1 1, 432, .inl f_factsOf)), (m_actMany, .inl (E.2.1 1, 25, .inl f_actMany)), (m_actOf, .inl (E.2.1 1, 800, .inl f_actOf)), (m_whom, .inl (E.2.1 1, 800, .inl f_whom)), (m_pile, .inl (E.2.1 1, 34, .inl f_pile))] (Qi E (fun (rz : Int32) uz => (∃ (f_pilez : Nat → Int32), uz = [(hm, .inr (12, [.ref m_manys, .ref m_reals, .ref m_factsOf, .ref m_possible, .int (nI q_undos), .int (nI q_models), .ref m_tape, .int (nI q_taped), .int q_fault, .int q_wrong, .int q_wrongAt, .int q_spot, .int q_place, .int q_token, .int q_value, .ref m_ends, .ref m_letters, .ref m_actOf, .ref m_whom, .ref m_actMany, .ref m_tokens, .ref m_afters, .ref m_afterOf, .int q_counted, .ref m_pile, .ref m_caseMany, .ref m_happen, .ref m_hasIf, .ref m_becomes, .ref m_goneOf, .ref m_heard, .ref m_pairs, .ref m_heaps, .int q_rounds, .int q_heapMany, .ref m_led, .ref m_newAt, .ref m_knowing, .ref m_firsts, .int (nI q_people), .ref m_secrets, .ref m_tried, .ref m_lanes, .ref m_lengths, .ref m_cells])), (m_manys, .inl (E.2.1 1, 18, .inl f_manys)), (m_possible, .inl (E.2.1 1, 1728, .inl f_possible)), (m_factsOf, .inl (E.2.1 1, 432, .inl f_factsOf)), (m_actMany, .inl (E.2.1 1, 25, .inl f_actMany)), (m_actOf, .inl (E.2.1 1, 800, .inl f_actOf)), (m_whom, .inl (E.2.1 1, 800, .inl f_whom)), (m_pile, .inl (E.2.1 1, 34, .inl f_pilez))]))) 0 0 := by
  refine ct_of rfl rfl ?_
  intro X C hT hin hro
  show WW X 9 E 0 [(0, .ref hm), (1, .int (nI sl)), (2, .int (nI pg))] [] [(hm, .inr (12, [.ref m_manys, .ref m_reals, .ref m_factsOf, .ref m_possible, .int (nI q_undos), .int (nI q_models), .ref m_tape, .int (nI q_taped), .int q_fault, .int q_wrong, .int q_wrongAt, .int q_spot, .int q_place, .int q_token, .int q_value, .ref m_ends, .ref m_letters, .ref m_actOf, .ref m_whom, .ref m_actMany, .ref m_tokens, .ref m_afters, .ref m_afterOf, .int q_counted, .ref m_pile, .ref m_caseMany, .ref m_happen, .ref m_hasIf, .ref m_becomes, .ref m_goneOf, .ref m_heard, .ref m_pairs, .ref m_heaps, .int q_rounds, .int q_heapMany, .ref m_led, .ref m_newAt, .ref m_knowing, .ref m_firsts, .int (nI q_people), .ref m_secrets, .ref m_tried, .ref m_lanes, .ref m_lengths, .ref m_cells])), (m_manys, .inl (E.2.1 1, 18, .inl f_manys)), (m_possible, .inl (E.2.1 1, 1728, .inl f_possible)), (m_factsOf, .inl (E.2.1 1, 432, .inl f_factsOf)), (m_actMany, .inl (E.2.1 1, 25, .inl f_actMany)), (m_actOf, .inl (E.2.1 1, 800, .inl f_actOf)), (m_whom, .inl (E.2.1 1, 800, .inl f_whom)), (m_pile, .inl (E.2.1 1, 34, .inl f_pile))] 0 0
  have hmn0 := (hb_manys 0 (by omega)).2
  have hwr := hsv sl (by omega)
  have hwn := hwr.1
  have hmn := (hb_manys pg (by omega)).2
  refine ww_aload_n C dX12_trueAt_0 0 rfl rfl ?_
  refine ww_get C fg_X12_7 0 rfl rfl dX12_trueAt_1 ?_
  refine ww_iload_n C dX12_trueAt_4 2 rfl rfl ?_
  have hbx_1 := (hb_manys pg (by omega)).2
  refine ww_iald (v := (nI (cN f_manys pg))) C 1 rfl (vp_in_nI (by omega) (by omega)) (ldn (by omega) (hb_manys pg (by omega)).1) dX12_trueAt_5 ?_
  refine ww_ci (wr := [(hm, .inr (12, [.ref m_manys, .ref m_reals, .ref m_factsOf, .ref m_possible, .int (nI q_undos), .int (nI q_models), .ref m_tape, .int (nI q_taped), .int q_fault, .int q_wrong, .int q_wrongAt, .int q_spot, .int q_place, .int q_token, .int q_value, .ref m_ends, .ref m_letters, .ref m_actOf, .ref m_whom, .ref m_actMany, .ref m_tokens, .ref m_afters, .ref m_afterOf, .int q_counted, .ref m_pile, .ref m_caseMany, .ref m_happen, .ref m_hasIf, .ref m_becomes, .ref m_goneOf, .ref m_heard, .ref m_pairs, .ref m_heaps, .int q_rounds, .int q_heapMany, .ref m_led, .ref m_newAt, .ref m_knowing, .ref m_firsts, .int (nI q_people), .ref m_secrets, .ref m_tried, .ref m_lanes, .ref m_lengths, .ref m_cells])), (m_manys, .inl (E.2.1 1, 18, .inl f_manys)), (m_possible, .inl (E.2.1 1, 1728, .inl f_possible)), (m_factsOf, .inl (E.2.1 1, 432, .inl f_factsOf)), (m_actMany, .inl (E.2.1 1, 25, .inl f_actMany)), (m_actOf, .inl (E.2.1 1, 800, .inl f_actOf)), (m_whom, .inl (E.2.1 1, 800, .inl f_whom)), (m_pile, .inl (E.2.1 1, 34, .inl f_pile))]) (k' := 0) (n' := 0) C (run_S (As := [.int (nI (cN f_manys pg))]) (rest := []) C (r_all X.2.1 E ro (cN f_manys pg) (by omega)) ms_X12_all wl_X12_230 rfl rfl rfl rfl dX12_trueAt_6) (roK hro) [] [0, 1, 2, 3, 4, 5, 6, 7] rfl rfl rfl rfl (fun r_2 uz hw => ?_)
  obtain ⟨rfl, h_3⟩ := hw
  refine ww_eq (ws' := [(hm, .inr (12, [.ref m_manys, .ref m_reals, .ref m_factsOf, .ref m_possible, .int (nI q_undos), .int (nI q_models), .ref m_tape, .int (nI q_taped), .int q_fault, .int q_wrong, .int q_wrongAt, .int q_spot, .int q_place, .int q_token, .int q_value, .ref m_ends, .ref m_letters, .ref m_actOf, .ref m_whom, .ref m_actMany, .ref m_tokens, .ref m_afters, .ref m_afterOf, .int q_counted, .ref m_pile, .ref m_caseMany, .ref m_happen, .ref m_hasIf, .ref m_becomes, .ref m_goneOf, .ref m_heard, .ref m_pairs, .ref m_heaps, .int q_rounds, .int q_heapMany, .ref m_led, .ref m_newAt, .ref m_knowing, .ref m_firsts, .int (nI q_people), .ref m_secrets, .ref m_tried, .ref m_lanes, .ref m_lengths, .ref m_cells])), (m_manys, .inl (E.2.1 1, 18, .inl f_manys)), (m_possible, .inl (E.2.1 1, 1728, .inl f_possible)), (m_factsOf, .inl (E.2.1 1, 432, .inl f_factsOf)), (m_actMany, .inl (E.2.1 1, 25, .inl f_actMany)), (m_actOf, .inl (E.2.1 1, 800, .inl f_actOf)), (m_whom, .inl (E.2.1 1, 800, .inl f_whom)), (m_pile, .inl (E.2.1 1, 34, .inl f_pile))]) ?_ rfl rfl rfl
  refine ww_istore_n (lv' := [(3, .int r_2), (0, .ref hm), (1, .int (nI sl)), (2, .int (nI pg))]) C dX12_trueAt_9 rfl rfl rfl ?_
  refine ww_iconst (v := 0) C dX12_trueAt_10 rfl ?_
  refine ww_istore (lv' := [(4, .int 0), (3, .int r_2), (0, .ref hm), (1, .int (nI sl)), (2, .int (nI pg))]) C dX12_trueAt_11 rfl rfl ?_
  refine ww_aload_n C dX12_trueAt_13 2 rfl rfl ?_
  refine ww_get C fg_X12_37 0 rfl rfl dX12_trueAt_14 ?_
  refine ww_iload_n C dX12_trueAt_17 3 rfl rfl ?_
  have hbx_4 := (hb_actMany sl (by omega)).2
  refine ww_iald (v := (nI (cN f_actMany sl))) C 4 rfl (vp_in_nI (by omega) (by omega)) (ldn (by omega) (hb_actMany sl (by omega)).1) dX12_trueAt_18 ?_
  refine ww_iconst (v := 1) C dX12_trueAt_19 rfl ?_
  obtain ⟨x_5, ex_5⟩ : ∃ z : Int32, (nI (cN f_actMany sl)) - (1 : Int32) = z := ⟨_, rfl⟩
  have zx_5 : x_5.toInt = ((cN f_actMany sl : Nat) : Int) - 1 := by rw [← ex_5]; exact i_sub (nI_toInt (n := cN f_actMany sl) (by omega)) rfl (by omega) (by omega)
  refine ww_isub (v := x_5) C dX12_trueAt_20 ex_5 ?_
  refine ww_istore (lv' := [(5, .int x_5), (4, .int 0), (3, .int r_2), (0, .ref hm), (1, .int (nI sl)), (2, .int (nI pg))]) C dX12_trueAt_21 rfl rfl ?_
  have loop_23 : ∀ (fu : Nat) (xi : Int32) (ii : Nat) (tt : Nat) (g1 : Nat → Int32), (xi.toInt = (ii : Int) - 1) → (ii ≤ cN f_actMany sl) → ((tt : Int) = opr (slot f_actOf sl) ii ∨ ii = 0) → ii < fu → WW X 9 E 23 [(5, .int xi), (4, .int (nI tt)), (3, .int r_2), (0, .ref hm), (1, .int (nI sl)), (2, .int (nI pg))] [] [(hm, .inr (12, [.ref m_manys, .ref m_reals, .ref m_factsOf, .ref m_possible, .int (nI q_undos), .int (nI q_models), .ref m_tape, .int (nI q_taped), .int q_fault, .int q_wrong, .int q_wrongAt, .int q_spot, .int q_place, .int q_token, .int q_value, .ref m_ends, .ref m_letters, .ref m_actOf, .ref m_whom, .ref m_actMany, .ref m_tokens, .ref m_afters, .ref m_afterOf, .int q_counted, .ref m_pile, .ref m_caseMany, .ref m_happen, .ref m_hasIf, .ref m_becomes, .ref m_goneOf, .ref m_heard, .ref m_pairs, .ref m_heaps, .int q_rounds, .int q_heapMany, .ref m_led, .ref m_newAt, .ref m_knowing, .ref m_firsts, .int (nI q_people), .ref m_secrets, .ref m_tried, .ref m_lanes, .ref m_lengths, .ref m_cells])), (m_manys, .inl (E.2.1 1, 18, .inl f_manys)), (m_possible, .inl (E.2.1 1, 1728, .inl f_possible)), (m_factsOf, .inl (E.2.1 1, 432, .inl f_factsOf)), (m_actMany, .inl (E.2.1 1, 25, .inl f_actMany)), (m_actOf, .inl (E.2.1 1, 800, .inl f_actOf)), (m_whom, .inl (E.2.1 1, 800, .inl f_whom)), (m_pile, .inl (E.2.1 1, 34, .inl g1))] 0 0 := by
    intro fu
    induction fu with
    | zero => intro xi ii tt g1 hxi hii htt hmeas; exact absurd hmeas (Nat.not_lt_zero _)
    | succ fu ih_23 =>
      intro xi ii tt g1 hxi hii htt hmeas
      refine ww_iload C dX12_trueAt_23 0 rfl ?_
      refine ww_if_lt (tgt := 253) C dX12_trueAt_25 (by decide) (fun c_6 => ?_) (fun c_6 => ?_)
      · have zc_6 : ((ii : Int) - 1) < 0 := i_lt hxi rfl c_6
        refine ww_aload_n C dX12_trueAt_253 3 rfl rfl ?_
        refine ww_get C fg_X12_49 0 rfl rfl dX12_trueAt_254 ?_
        refine ww_iconst (v := 0) C dX12_trueAt_257 rfl ?_
        obtain ⟨x_7, ex_7⟩ : ∃ z : Int32, g1 0 = z := ⟨_, rfl⟩
        refine ww_iald (v := x_7) C 7 rfl (vin rfl) ex_7 dX12_trueAt_258 ?_
        exact ww_iret (u := [(hm, .inr (12, [.ref m_manys, .ref m_reals, .ref m_factsOf, .ref m_possible, .int (nI q_undos), .int (nI q_models), .ref m_tape, .int (nI q_taped), .int q_fault, .int q_wrong, .int q_wrongAt, .int q_spot, .int q_place, .int q_token, .int q_value, .ref m_ends, .ref m_letters, .ref m_actOf, .ref m_whom, .ref m_actMany, .ref m_tokens, .ref m_afters, .ref m_afterOf, .int q_counted, .ref m_pile, .ref m_caseMany, .ref m_happen, .ref m_hasIf, .ref m_becomes, .ref m_goneOf, .ref m_heard, .ref m_pairs, .ref m_heaps, .int q_rounds, .int q_heapMany, .ref m_led, .ref m_newAt, .ref m_knowing, .ref m_firsts, .int (nI q_people), .ref m_secrets, .ref m_tried, .ref m_lanes, .ref m_lengths, .ref m_cells])), (m_manys, .inl (E.2.1 1, 18, .inl f_manys)), (m_possible, .inl (E.2.1 1, 1728, .inl f_possible)), (m_factsOf, .inl (E.2.1 1, 432, .inl f_factsOf)), (m_actMany, .inl (E.2.1 1, 25, .inl f_actMany)), (m_actOf, .inl (E.2.1 1, 800, .inl f_actOf)), (m_whom, .inl (E.2.1 1, 800, .inl f_whom)), (m_pile, .inl (E.2.1 1, 34, .inl g1))]) C hT [0, 1, 2, 3, 4, 5, 6, 7] rfl rfl rfl rfl dX12_trueAt_259 (⟨g1, rfl⟩)
      · have zc_6 : ((ii : Int) - 1) ≥ 0 := i_nlt hxi rfl c_6
        obtain ⟨j_8, hj_8, rfl⟩ := i_nat (x := xi) (N := 31) (by omega) (by omega)
        have hzj_8 := nI_toInt (n := j_8) (by omega)
        refine ww_aload_n C dX12_trueAt_28 3 rfl rfl ?_
        refine ww_get C fg_X12_31 0 rfl rfl dX12_trueAt_29 ?_
        refine ww_bipush (v := 32) C dX12_trueAt_32 rfl ?_
        refine ww_iload_n C dX12_trueAt_34 4 rfl rfl ?_
        refine ww_imul (v := (nI (32 * sl))) C dX12_trueAt_35 (pk_mul 32 sl) ?_
        refine ww_iload C dX12_trueAt_36 0 rfl ?_
        refine ww_iadd (v := (nI ((32 * sl) + j_8))) C dX12_trueAt_38 (nI_add (32 * sl) j_8) ?_
        obtain ⟨x_9, ex_9⟩ : ∃ z : Int32, f_actOf ((32 * sl) + j_8) = z := ⟨_, rfl⟩
        refine ww_iald (v := x_9) C 5 rfl (vp_in_nI (by omega) (by omega)) (ldn (by omega) ex_9) dX12_trueAt_39 ?_
        refine ww_istore (lv' := [(6, .int x_9), (5, .int (nI j_8)), (4, .int (nI tt)), (3, .int r_2), (0, .ref hm), (1, .int (nI sl)), (2, .int (nI pg))]) C dX12_trueAt_40 rfl rfl ?_
        have hxj_8 : slot f_actOf sl j_8 = x_9 := by assumption
        have hxrj_8 := hwr.2.1.1 j_8 (by omega)
        have hoj_8 := opr_s (slot f_actOf sl) j_8
        rw [hxj_8] at hoj_8 hxrj_8
        have h1j_8 := hwr.2.1.2 j_8 (by omega)
        have h2j_8 := opr_le hwr (i := j_8 + 1) (by omega) (by omega)
        have h3j_8 := opr_le hwr (i := j_8) (by omega) (by omega)
        have h4j_8 : ii = j_8 + 1 := by omega
        rw [h4j_8] at htt
        have hwij_8 := wR_in x_9
        have hw4j_8 : x_9.toInt ≤ 4 → wR x_9 = 0 := fun h => wR_a0 h
        have hw6j_8 : x_9.toInt = 6 ∨ x_9.toInt = 7 → wR x_9 = 2 := fun h => wR_a2 h
        have hw1j_8 : 4 < x_9.toInt ∧ x_9.toInt ≠ 6 ∧ x_9.toInt ≠ 7 → wR x_9 = 1 := fun h => wR_a1 h
        refine ww_iload_n C dX12_trueAt_42 3 rfl rfl ?_
        refine ww_istore (lv' := [(7, .int r_2), (6, .int x_9), (5, .int (nI j_8)), (4, .int (nI tt)), (3, .int r_2), (0, .ref hm), (1, .int (nI sl)), (2, .int (nI pg))]) C dX12_trueAt_43 rfl rfl ?_
        refine ww_iload C dX12_trueAt_45 1 rfl ?_
        refine ww_iconst (v := 4) C dX12_trueAt_47 rfl ?_
        refine ww_icmp_ge (tgt := 102) C dX12_trueAt_48 (by decide) (fun c_10 => ?_) (fun c_10 => ?_)
        · have zc_10 : x_9.toInt ≥ 4 := i_le rfl rfl c_10
          refine ww_iload C dX12_trueAt_102 1 rfl ?_
          refine ww_iconst (v := 5) C dX12_trueAt_104 rfl ?_
          refine ww_icmp_ne (tgt := 126) C dX12_trueAt_105 (by decide) (fun c_11 => ?_) (fun c_11 => ?_)
          · have zc_11 : x_9.toInt ≠ 5 := i_ne rfl rfl c_11
            refine ww_iload C dX12_trueAt_126 1 rfl ?_
            refine ww_bipush (v := 6) C dX12_trueAt_128 rfl ?_
            refine ww_icmp_ne (tgt := 157) C dX12_trueAt_130 (by decide) (fun c_12 => ?_) (fun c_12 => ?_)
            · have zc_12 : x_9.toInt ≠ 6 := i_ne rfl rfl c_12
              refine ww_iload C dX12_trueAt_157 1 rfl ?_
              refine ww_bipush (v := 7) C dX12_trueAt_159 rfl ?_
              refine ww_icmp_ne (tgt := 188) C dX12_trueAt_161 (by decide) (fun c_13 => ?_) (fun c_13 => ?_)
              · have zc_13 : x_9.toInt ≠ 7 := i_ne rfl rfl c_13
                refine ww_iload C dX12_trueAt_188 1 rfl ?_
                refine ww_bipush (v := 8) C dX12_trueAt_190 rfl ?_
                refine ww_icmp_lt (tgt := 225) C dX12_trueAt_192 (by decide) (fun c_14 => ?_) (fun c_14 => ?_)
                · have zc_14 : x_9.toInt < 8 := i_lt rfl rfl c_14
                  refine ww_iload C dX12_trueAt_225 3 rfl ?_
                  refine ww_iload C dX12_trueAt_227 1 rfl ?_
                  refine ww_ci (wr := [(hm, .inr (12, [.ref m_manys, .ref m_reals, .ref m_factsOf, .ref m_possible, .int (nI q_undos), .int (nI q_models), .ref m_tape, .int (nI q_taped), .int q_fault, .int q_wrong, .int q_wrongAt, .int q_spot, .int q_place, .int q_token, .int q_value, .ref m_ends, .ref m_letters, .ref m_actOf, .ref m_whom, .ref m_actMany, .ref m_tokens, .ref m_afters, .ref m_afterOf, .int q_counted, .ref m_pile, .ref m_caseMany, .ref m_happen, .ref m_hasIf, .ref m_becomes, .ref m_goneOf, .ref m_heard, .ref m_pairs, .ref m_heaps, .int q_rounds, .int q_heapMany, .ref m_led, .ref m_newAt, .ref m_knowing, .ref m_firsts, .int (nI q_people), .ref m_secrets, .ref m_tried, .ref m_lanes, .ref m_lengths, .ref m_cells])), (m_manys, .inl (E.2.1 1, 18, .inl f_manys)), (m_possible, .inl (E.2.1 1, 1728, .inl f_possible)), (m_factsOf, .inl (E.2.1 1, 432, .inl f_factsOf)), (m_actMany, .inl (E.2.1 1, 25, .inl f_actMany)), (m_actOf, .inl (E.2.1 1, 800, .inl f_actOf)), (m_whom, .inl (E.2.1 1, 800, .inl f_whom)), (m_pile, .inl (E.2.1 1, 34, .inl g1))]) (k' := 0) (n' := 0) C (run_S (As := [.int x_9]) (rest := [.int (nI tt)]) C (r_wantsOf X.2.1 E ro x_9 x_9.toInt rfl) ms_X12_wantsOf wl_X12_215 rfl rfl rfl rfl dX12_trueAt_229) (roK hro) [] [0, 1, 2, 3, 4, 5, 6, 7] rfl rfl rfl rfl (fun r_15 uz hw => ?_)
                  rcases hw with ⟨rfl, rfl, h_16⟩ | ⟨rfl, rfl, h_17⟩ | ⟨rfl, rfl, h_18⟩
                  · refine ww_eq (ws' := [(hm, .inr (12, [.ref m_manys, .ref m_reals, .ref m_factsOf, .ref m_possible, .int (nI q_undos), .int (nI q_models), .ref m_tape, .int (nI q_taped), .int q_fault, .int q_wrong, .int q_wrongAt, .int q_spot, .int q_place, .int q_token, .int q_value, .ref m_ends, .ref m_letters, .ref m_actOf, .ref m_whom, .ref m_actMany, .ref m_tokens, .ref m_afters, .ref m_afterOf, .int q_counted, .ref m_pile, .ref m_caseMany, .ref m_happen, .ref m_hasIf, .ref m_becomes, .ref m_goneOf, .ref m_heard, .ref m_pairs, .ref m_heaps, .int q_rounds, .int q_heapMany, .ref m_led, .ref m_newAt, .ref m_knowing, .ref m_firsts, .int (nI q_people), .ref m_secrets, .ref m_tried, .ref m_lanes, .ref m_lengths, .ref m_cells])), (m_manys, .inl (E.2.1 1, 18, .inl f_manys)), (m_possible, .inl (E.2.1 1, 1728, .inl f_possible)), (m_factsOf, .inl (E.2.1 1, 432, .inl f_factsOf)), (m_actMany, .inl (E.2.1 1, 25, .inl f_actMany)), (m_actOf, .inl (E.2.1 1, 800, .inl f_actOf)), (m_whom, .inl (E.2.1 1, 800, .inl f_whom)), (m_pile, .inl (E.2.1 1, 34, .inl g1))]) ?_ rfl rfl rfl
                    refine ww_isub (v := (nI (tt - 0))) C dX12_trueAt_232 (pk_sub (a := tt) (b := 0) (by omega)) ?_
                    refine ww_istore (lv' := [(4, .int (nI (tt - 0))), (7, .int r_2), (6, .int x_9), (5, .int (nI j_8)), (3, .int r_2), (0, .ref hm), (1, .int (nI sl)), (2, .int (nI pg))]) C dX12_trueAt_233 rfl rfl ?_
                    refine ww_aload_n C dX12_trueAt_235 5 rfl rfl ?_
                    refine ww_get C fg_X12_49 0 rfl rfl dX12_trueAt_236 ?_
                    refine ww_iload C dX12_trueAt_239 0 rfl ?_
                    refine ww_iload C dX12_trueAt_241 1 rfl ?_
                    obtain ⟨f_19, ef_19⟩ : ∃ z : Nat → Int32, upd g1 (tt - 0) r_2 = z := ⟨_, rfl⟩
                    refine ww_iast (ws' := [(hm, .inr (12, [.ref m_manys, .ref m_reals, .ref m_factsOf, .ref m_possible, .int (nI q_undos), .int (nI q_models), .ref m_tape, .int (nI q_taped), .int q_fault, .int q_wrong, .int q_wrongAt, .int q_spot, .int q_place, .int q_token, .int q_value, .ref m_ends, .ref m_letters, .ref m_actOf, .ref m_whom, .ref m_actMany, .ref m_tokens, .ref m_afters, .ref m_afterOf, .int q_counted, .ref m_pile, .ref m_caseMany, .ref m_happen, .ref m_hasIf, .ref m_becomes, .ref m_goneOf, .ref m_heard, .ref m_pairs, .ref m_heaps, .int q_rounds, .int q_heapMany, .ref m_led, .ref m_newAt, .ref m_knowing, .ref m_firsts, .int (nI q_people), .ref m_secrets, .ref m_tried, .ref m_lanes, .ref m_lengths, .ref m_cells])), (m_manys, .inl (E.2.1 1, 18, .inl f_manys)), (m_possible, .inl (E.2.1 1, 1728, .inl f_possible)), (m_factsOf, .inl (E.2.1 1, 432, .inl f_factsOf)), (m_actMany, .inl (E.2.1 1, 25, .inl f_actMany)), (m_actOf, .inl (E.2.1 1, 800, .inl f_actOf)), (m_whom, .inl (E.2.1 1, 800, .inl f_whom)), (m_pile, .inl (E.2.1 1, 34, .inl f_19))]) C 7 rfl (vp_in_nI (by omega) (by omega)) (ldn2 (by omega) ef_19) rfl dX12_trueAt_243 ?_
                    refine ww_iinc (j := 0) (v := (nI ((tt - 0) + 1))) (lv' := [(4, .int (nI ((tt - 0) + 1))), (7, .int r_2), (6, .int x_9), (5, .int (nI j_8)), (3, .int r_2), (0, .ref hm), (1, .int (nI sl)), (2, .int (nI pg))]) C dX12_trueAt_244 rfl (nI_add (tt - 0) 1) rfl rfl ?_
                    obtain ⟨x_20, ex_20⟩ : ∃ z : Int32, (nI j_8) + Int32.ofInt (-1) = z := ⟨_, rfl⟩
                    have zx_20 : x_20.toInt = ((j_8 : Nat) : Int) - 1 := by rw [← ex_20]; exact i_dec (c := 1) (nI_toInt (n := j_8) (by omega)) rfl (by omega) (by omega)
                    refine ww_iinc (j := 3) (v := x_20) (lv' := [(5, .int x_20), (4, .int (nI ((tt - 0) + 1))), (7, .int r_2), (6, .int x_9), (3, .int r_2), (0, .ref hm), (1, .int (nI sl)), (2, .int (nI pg))]) C dX12_trueAt_247 rfl ex_20 rfl rfl ?_
                    refine ww_goto (tgt := 23) C dX12_trueAt_250 (by decide) ?_
                    exact ww_lv [0, 1, 4, 5, 6, 7] rfl (ww_sub [0, 1, 2, 3, 4, 5, 6, 7] rfl rfl (ih_23 x_20 j_8 ((tt - 0) + 1) f_19 (by omega) (by omega) (by omega) (by omega)))
                  · refine ww_eq (ws' := [(hm, .inr (12, [.ref m_manys, .ref m_reals, .ref m_factsOf, .ref m_possible, .int (nI q_undos), .int (nI q_models), .ref m_tape, .int (nI q_taped), .int q_fault, .int q_wrong, .int q_wrongAt, .int q_spot, .int q_place, .int q_token, .int q_value, .ref m_ends, .ref m_letters, .ref m_actOf, .ref m_whom, .ref m_actMany, .ref m_tokens, .ref m_afters, .ref m_afterOf, .int q_counted, .ref m_pile, .ref m_caseMany, .ref m_happen, .ref m_hasIf, .ref m_becomes, .ref m_goneOf, .ref m_heard, .ref m_pairs, .ref m_heaps, .int q_rounds, .int q_heapMany, .ref m_led, .ref m_newAt, .ref m_knowing, .ref m_firsts, .int (nI q_people), .ref m_secrets, .ref m_tried, .ref m_lanes, .ref m_lengths, .ref m_cells])), (m_manys, .inl (E.2.1 1, 18, .inl f_manys)), (m_possible, .inl (E.2.1 1, 1728, .inl f_possible)), (m_factsOf, .inl (E.2.1 1, 432, .inl f_factsOf)), (m_actMany, .inl (E.2.1 1, 25, .inl f_actMany)), (m_actOf, .inl (E.2.1 1, 800, .inl f_actOf)), (m_whom, .inl (E.2.1 1, 800, .inl f_whom)), (m_pile, .inl (E.2.1 1, 34, .inl g1))]) ?_ rfl rfl rfl
                    refine ww_isub (v := (nI (tt - 2))) C dX12_trueAt_232 (pk_sub (a := tt) (b := 2) (by omega)) ?_
                    refine ww_istore (lv' := [(4, .int (nI (tt - 2))), (7, .int r_2), (6, .int x_9), (5, .int (nI j_8)), (3, .int r_2), (0, .ref hm), (1, .int (nI sl)), (2, .int (nI pg))]) C dX12_trueAt_233 rfl rfl ?_
                    refine ww_aload_n C dX12_trueAt_235 5 rfl rfl ?_
                    refine ww_get C fg_X12_49 0 rfl rfl dX12_trueAt_236 ?_
                    refine ww_iload C dX12_trueAt_239 0 rfl ?_
                    refine ww_iload C dX12_trueAt_241 1 rfl ?_
                    obtain ⟨f_21, ef_21⟩ : ∃ z : Nat → Int32, upd g1 (tt - 2) r_2 = z := ⟨_, rfl⟩
                    refine ww_iast (ws' := [(hm, .inr (12, [.ref m_manys, .ref m_reals, .ref m_factsOf, .ref m_possible, .int (nI q_undos), .int (nI q_models), .ref m_tape, .int (nI q_taped), .int q_fault, .int q_wrong, .int q_wrongAt, .int q_spot, .int q_place, .int q_token, .int q_value, .ref m_ends, .ref m_letters, .ref m_actOf, .ref m_whom, .ref m_actMany, .ref m_tokens, .ref m_afters, .ref m_afterOf, .int q_counted, .ref m_pile, .ref m_caseMany, .ref m_happen, .ref m_hasIf, .ref m_becomes, .ref m_goneOf, .ref m_heard, .ref m_pairs, .ref m_heaps, .int q_rounds, .int q_heapMany, .ref m_led, .ref m_newAt, .ref m_knowing, .ref m_firsts, .int (nI q_people), .ref m_secrets, .ref m_tried, .ref m_lanes, .ref m_lengths, .ref m_cells])), (m_manys, .inl (E.2.1 1, 18, .inl f_manys)), (m_possible, .inl (E.2.1 1, 1728, .inl f_possible)), (m_factsOf, .inl (E.2.1 1, 432, .inl f_factsOf)), (m_actMany, .inl (E.2.1 1, 25, .inl f_actMany)), (m_actOf, .inl (E.2.1 1, 800, .inl f_actOf)), (m_whom, .inl (E.2.1 1, 800, .inl f_whom)), (m_pile, .inl (E.2.1 1, 34, .inl f_21))]) C 7 rfl (vp_in_nI (by omega) (by omega)) (ldn2 (by omega) ef_21) rfl dX12_trueAt_243 ?_
                    refine ww_iinc (j := 0) (v := (nI ((tt - 2) + 1))) (lv' := [(4, .int (nI ((tt - 2) + 1))), (7, .int r_2), (6, .int x_9), (5, .int (nI j_8)), (3, .int r_2), (0, .ref hm), (1, .int (nI sl)), (2, .int (nI pg))]) C dX12_trueAt_244 rfl (nI_add (tt - 2) 1) rfl rfl ?_
                    obtain ⟨x_22, ex_22⟩ : ∃ z : Int32, (nI j_8) + Int32.ofInt (-1) = z := ⟨_, rfl⟩
                    have zx_22 : x_22.toInt = ((j_8 : Nat) : Int) - 1 := by rw [← ex_22]; exact i_dec (c := 1) (nI_toInt (n := j_8) (by omega)) rfl (by omega) (by omega)
                    refine ww_iinc (j := 3) (v := x_22) (lv' := [(5, .int x_22), (4, .int (nI ((tt - 2) + 1))), (7, .int r_2), (6, .int x_9), (3, .int r_2), (0, .ref hm), (1, .int (nI sl)), (2, .int (nI pg))]) C dX12_trueAt_247 rfl ex_22 rfl rfl ?_
                    refine ww_goto (tgt := 23) C dX12_trueAt_250 (by decide) ?_
                    exact ww_lv [0, 1, 4, 5, 6, 7] rfl (ww_sub [0, 1, 2, 3, 4, 5, 6, 7] rfl rfl (ih_23 x_22 j_8 ((tt - 2) + 1) f_21 (by omega) (by omega) (by omega) (by omega)))
                  · refine ww_eq (ws' := [(hm, .inr (12, [.ref m_manys, .ref m_reals, .ref m_factsOf, .ref m_possible, .int (nI q_undos), .int (nI q_models), .ref m_tape, .int (nI q_taped), .int q_fault, .int q_wrong, .int q_wrongAt, .int q_spot, .int q_place, .int q_token, .int q_value, .ref m_ends, .ref m_letters, .ref m_actOf, .ref m_whom, .ref m_actMany, .ref m_tokens, .ref m_afters, .ref m_afterOf, .int q_counted, .ref m_pile, .ref m_caseMany, .ref m_happen, .ref m_hasIf, .ref m_becomes, .ref m_goneOf, .ref m_heard, .ref m_pairs, .ref m_heaps, .int q_rounds, .int q_heapMany, .ref m_led, .ref m_newAt, .ref m_knowing, .ref m_firsts, .int (nI q_people), .ref m_secrets, .ref m_tried, .ref m_lanes, .ref m_lengths, .ref m_cells])), (m_manys, .inl (E.2.1 1, 18, .inl f_manys)), (m_possible, .inl (E.2.1 1, 1728, .inl f_possible)), (m_factsOf, .inl (E.2.1 1, 432, .inl f_factsOf)), (m_actMany, .inl (E.2.1 1, 25, .inl f_actMany)), (m_actOf, .inl (E.2.1 1, 800, .inl f_actOf)), (m_whom, .inl (E.2.1 1, 800, .inl f_whom)), (m_pile, .inl (E.2.1 1, 34, .inl g1))]) ?_ rfl rfl rfl
                    refine ww_isub (v := (nI (tt - 1))) C dX12_trueAt_232 (pk_sub (a := tt) (b := 1) (by omega)) ?_
                    refine ww_istore (lv' := [(4, .int (nI (tt - 1))), (7, .int r_2), (6, .int x_9), (5, .int (nI j_8)), (3, .int r_2), (0, .ref hm), (1, .int (nI sl)), (2, .int (nI pg))]) C dX12_trueAt_233 rfl rfl ?_
                    refine ww_aload_n C dX12_trueAt_235 5 rfl rfl ?_
                    refine ww_get C fg_X12_49 0 rfl rfl dX12_trueAt_236 ?_
                    refine ww_iload C dX12_trueAt_239 0 rfl ?_
                    refine ww_iload C dX12_trueAt_241 1 rfl ?_
                    obtain ⟨f_23, ef_23⟩ : ∃ z : Nat → Int32, upd g1 (tt - 1) r_2 = z := ⟨_, rfl⟩
                    refine ww_iast (ws' := [(hm, .inr (12, [.ref m_manys, .ref m_reals, .ref m_factsOf, .ref m_possible, .int (nI q_undos), .int (nI q_models), .ref m_tape, .int (nI q_taped), .int q_fault, .int q_wrong, .int q_wrongAt, .int q_spot, .int q_place, .int q_token, .int q_value, .ref m_ends, .ref m_letters, .ref m_actOf, .ref m_whom, .ref m_actMany, .ref m_tokens, .ref m_afters, .ref m_afterOf, .int q_counted, .ref m_pile, .ref m_caseMany, .ref m_happen, .ref m_hasIf, .ref m_becomes, .ref m_goneOf, .ref m_heard, .ref m_pairs, .ref m_heaps, .int q_rounds, .int q_heapMany, .ref m_led, .ref m_newAt, .ref m_knowing, .ref m_firsts, .int (nI q_people), .ref m_secrets, .ref m_tried, .ref m_lanes, .ref m_lengths, .ref m_cells])), (m_manys, .inl (E.2.1 1, 18, .inl f_manys)), (m_possible, .inl (E.2.1 1, 1728, .inl f_possible)), (m_factsOf, .inl (E.2.1 1, 432, .inl f_factsOf)), (m_actMany, .inl (E.2.1 1, 25, .inl f_actMany)), (m_actOf, .inl (E.2.1 1, 800, .inl f_actOf)), (m_whom, .inl (E.2.1 1, 800, .inl f_whom)), (m_pile, .inl (E.2.1 1, 34, .inl f_23))]) C 7 rfl (vp_in_nI (by omega) (by omega)) (ldn2 (by omega) ef_23) rfl dX12_trueAt_243 ?_
                    refine ww_iinc (j := 0) (v := (nI ((tt - 1) + 1))) (lv' := [(4, .int (nI ((tt - 1) + 1))), (7, .int r_2), (6, .int x_9), (5, .int (nI j_8)), (3, .int r_2), (0, .ref hm), (1, .int (nI sl)), (2, .int (nI pg))]) C dX12_trueAt_244 rfl (nI_add (tt - 1) 1) rfl rfl ?_
                    obtain ⟨x_24, ex_24⟩ : ∃ z : Int32, (nI j_8) + Int32.ofInt (-1) = z := ⟨_, rfl⟩
                    have zx_24 : x_24.toInt = ((j_8 : Nat) : Int) - 1 := by rw [← ex_24]; exact i_dec (c := 1) (nI_toInt (n := j_8) (by omega)) rfl (by omega) (by omega)
                    refine ww_iinc (j := 3) (v := x_24) (lv' := [(5, .int x_24), (4, .int (nI ((tt - 1) + 1))), (7, .int r_2), (6, .int x_9), (3, .int r_2), (0, .ref hm), (1, .int (nI sl)), (2, .int (nI pg))]) C dX12_trueAt_247 rfl ex_24 rfl rfl ?_
                    refine ww_goto (tgt := 23) C dX12_trueAt_250 (by decide) ?_
                    exact ww_lv [0, 1, 4, 5, 6, 7] rfl (ww_sub [0, 1, 2, 3, 4, 5, 6, 7] rfl rfl (ih_23 x_24 j_8 ((tt - 1) + 1) f_23 (by omega) (by omega) (by omega) (by omega)))
                · have zc_14 : x_9.toInt ≥ 8 := i_nlt rfl rfl c_14
                  refine ww_aload_n C dX12_trueAt_195 5 rfl rfl ?_
                  refine ww_iload_n C dX12_trueAt_196 7 rfl rfl ?_
                  refine ww_iload C dX12_trueAt_197 1 rfl ?_
                  refine ww_aload_n C dX12_trueAt_199 5 rfl rfl ?_
                  refine ww_get C fg_X12_34 0 rfl rfl dX12_trueAt_200 ?_
                  refine ww_bipush (v := 32) C dX12_trueAt_203 rfl ?_
                  refine ww_iload_n C dX12_trueAt_205 6 rfl rfl ?_
                  refine ww_imul (v := (nI (32 * sl))) C dX12_trueAt_206 (pk_mul 32 sl) ?_
                  refine ww_iload C dX12_trueAt_207 2 rfl ?_
                  refine ww_iadd (v := (nI ((32 * sl) + j_8))) C dX12_trueAt_209 (nI_add (32 * sl) j_8) ?_
                  obtain ⟨x_25, ex_25⟩ : ∃ z : Int32, f_whom ((32 * sl) + j_8) = z := ⟨_, rfl⟩
                  refine ww_iald (v := x_25) C 6 rfl (vp_in_nI (by omega) (by omega)) (ldn (by omega) ex_25) dX12_trueAt_210 ?_
                  refine ww_aload_n C dX12_trueAt_211 5 rfl rfl ?_
                  refine ww_get C fg_X12_49 0 rfl rfl dX12_trueAt_212 ?_
                  refine ww_iload C dX12_trueAt_215 3 rfl ?_
                  refine ww_iconst (v := 1) C dX12_trueAt_217 rfl ?_
                  refine ww_isub (v := (nI (tt - 1))) C dX12_trueAt_218 (pk_sub (a := tt) (b := 1) (by omega)) ?_
                  obtain ⟨x_26, ex_26⟩ : ∃ z : Int32, g1 (tt - 1) = z := ⟨_, rfl⟩
                  refine ww_iald (v := x_26) C 7 rfl (vp_in_nI (by omega) (by omega)) (ldn (by omega) ex_26) dX12_trueAt_219 ?_
                  refine ww_ci (wr := [(m_factsOf, .inl (E.2.1 1, 432, .inl f_factsOf)), (m_actMany, .inl (E.2.1 1, 25, .inl f_actMany)), (m_actOf, .inl (E.2.1 1, 800, .inl f_actOf)), (m_whom, .inl (E.2.1 1, 800, .inl f_whom)), (m_pile, .inl (E.2.1 1, 34, .inl g1))]) (k' := 0) (n' := 0) C (run_V (As := [.int (nI pg), .int x_9, .int x_25, .int x_26]) (rest := []) C (r_knownBy X.2.1 E ro hm pg x_9 x_25 x_26 m_manys m_reals m_factsOf m_possible q_undos q_models m_tape q_taped q_fault q_wrong q_wrongAt q_spot q_place q_token q_value m_ends m_letters m_actOf m_whom m_actMany m_tokens m_afters m_afterOf q_counted m_pile m_caseMany m_happen m_hasIf m_becomes m_goneOf m_heard m_pairs m_heaps q_rounds q_heapMany m_led m_newAt m_knowing m_firsts q_people m_secrets m_tried m_lanes m_lengths m_cells f_manys f_possible hb_manys (by omega)) mi_X12_knownBy wl_X12_233 rfl 0 12 rfl rfl rfl rfl rfl dX12_trueAt_220) (roK hro) [0, 1, 2] [3, 4, 5, 6, 7] rfl rfl rfl rfl (fun r_27 uz hw => ?_)
                  obtain rfl := hw
                  refine ww_eq (ws' := [(m_factsOf, .inl (E.2.1 1, 432, .inl f_factsOf)), (m_actMany, .inl (E.2.1 1, 25, .inl f_actMany)), (m_actOf, .inl (E.2.1 1, 800, .inl f_actOf)), (m_whom, .inl (E.2.1 1, 800, .inl f_whom)), (m_pile, .inl (E.2.1 1, 34, .inl g1)), (hm, .inr (12, [.ref m_manys, .ref m_reals, .ref m_factsOf, .ref m_possible, .int (nI q_undos), .int (nI q_models), .ref m_tape, .int (nI q_taped), .int q_fault, .int q_wrong, .int q_wrongAt, .int q_spot, .int q_place, .int q_token, .int q_value, .ref m_ends, .ref m_letters, .ref m_actOf, .ref m_whom, .ref m_actMany, .ref m_tokens, .ref m_afters, .ref m_afterOf, .int q_counted, .ref m_pile, .ref m_caseMany, .ref m_happen, .ref m_hasIf, .ref m_becomes, .ref m_goneOf, .ref m_heard, .ref m_pairs, .ref m_heaps, .int q_rounds, .int q_heapMany, .ref m_led, .ref m_newAt, .ref m_knowing, .ref m_firsts, .int (nI q_people), .ref m_secrets, .ref m_tried, .ref m_lanes, .ref m_lengths, .ref m_cells])), (m_manys, .inl (E.2.1 1, 18, .inl f_manys)), (m_possible, .inl (E.2.1 1, 1728, .inl f_possible))]) ?_ rfl rfl rfl
                  refine ww_istore (lv' := [(7, .int r_27), (6, .int x_9), (5, .int (nI j_8)), (4, .int (nI tt)), (3, .int r_2), (0, .ref hm), (1, .int (nI sl)), (2, .int (nI pg))]) C dX12_trueAt_223 rfl rfl ?_
                  refine ww_iload C dX12_trueAt_225 3 rfl ?_
                  refine ww_iload C dX12_trueAt_227 1 rfl ?_
                  refine ww_ci (wr := [(m_factsOf, .inl (E.2.1 1, 432, .inl f_factsOf)), (m_actMany, .inl (E.2.1 1, 25, .inl f_actMany)), (m_actOf, .inl (E.2.1 1, 800, .inl f_actOf)), (m_whom, .inl (E.2.1 1, 800, .inl f_whom)), (m_pile, .inl (E.2.1 1, 34, .inl g1)), (hm, .inr (12, [.ref m_manys, .ref m_reals, .ref m_factsOf, .ref m_possible, .int (nI q_undos), .int (nI q_models), .ref m_tape, .int (nI q_taped), .int q_fault, .int q_wrong, .int q_wrongAt, .int q_spot, .int q_place, .int q_token, .int q_value, .ref m_ends, .ref m_letters, .ref m_actOf, .ref m_whom, .ref m_actMany, .ref m_tokens, .ref m_afters, .ref m_afterOf, .int q_counted, .ref m_pile, .ref m_caseMany, .ref m_happen, .ref m_hasIf, .ref m_becomes, .ref m_goneOf, .ref m_heard, .ref m_pairs, .ref m_heaps, .int q_rounds, .int q_heapMany, .ref m_led, .ref m_newAt, .ref m_knowing, .ref m_firsts, .int (nI q_people), .ref m_secrets, .ref m_tried, .ref m_lanes, .ref m_lengths, .ref m_cells])), (m_manys, .inl (E.2.1 1, 18, .inl f_manys)), (m_possible, .inl (E.2.1 1, 1728, .inl f_possible))]) (k' := 0) (n' := 0) C (run_S (As := [.int x_9]) (rest := [.int (nI tt)]) C (r_wantsOf X.2.1 E ro x_9 x_9.toInt rfl) ms_X12_wantsOf wl_X12_215 rfl rfl rfl rfl dX12_trueAt_229) (roK hro) [] [0, 1, 2, 3, 4, 5, 6, 7] rfl rfl rfl rfl (fun r_28 uz hw => ?_)
                  rcases hw with ⟨rfl, rfl, h_29⟩ | ⟨rfl, rfl, h_30⟩ | ⟨rfl, rfl, h_31⟩
                  · omega
                  · omega
                  · refine ww_eq (ws' := [(m_factsOf, .inl (E.2.1 1, 432, .inl f_factsOf)), (m_actMany, .inl (E.2.1 1, 25, .inl f_actMany)), (m_actOf, .inl (E.2.1 1, 800, .inl f_actOf)), (m_whom, .inl (E.2.1 1, 800, .inl f_whom)), (m_pile, .inl (E.2.1 1, 34, .inl g1)), (hm, .inr (12, [.ref m_manys, .ref m_reals, .ref m_factsOf, .ref m_possible, .int (nI q_undos), .int (nI q_models), .ref m_tape, .int (nI q_taped), .int q_fault, .int q_wrong, .int q_wrongAt, .int q_spot, .int q_place, .int q_token, .int q_value, .ref m_ends, .ref m_letters, .ref m_actOf, .ref m_whom, .ref m_actMany, .ref m_tokens, .ref m_afters, .ref m_afterOf, .int q_counted, .ref m_pile, .ref m_caseMany, .ref m_happen, .ref m_hasIf, .ref m_becomes, .ref m_goneOf, .ref m_heard, .ref m_pairs, .ref m_heaps, .int q_rounds, .int q_heapMany, .ref m_led, .ref m_newAt, .ref m_knowing, .ref m_firsts, .int (nI q_people), .ref m_secrets, .ref m_tried, .ref m_lanes, .ref m_lengths, .ref m_cells])), (m_manys, .inl (E.2.1 1, 18, .inl f_manys)), (m_possible, .inl (E.2.1 1, 1728, .inl f_possible))]) ?_ rfl rfl rfl
                    refine ww_isub (v := (nI (tt - 1))) C dX12_trueAt_232 (pk_sub (a := tt) (b := 1) (by omega)) ?_
                    refine ww_istore (lv' := [(4, .int (nI (tt - 1))), (7, .int r_27), (6, .int x_9), (5, .int (nI j_8)), (3, .int r_2), (0, .ref hm), (1, .int (nI sl)), (2, .int (nI pg))]) C dX12_trueAt_233 rfl rfl ?_
                    refine ww_aload_n C dX12_trueAt_235 5 rfl rfl ?_
                    refine ww_get C fg_X12_49 5 rfl rfl dX12_trueAt_236 ?_
                    refine ww_iload C dX12_trueAt_239 0 rfl ?_
                    refine ww_iload C dX12_trueAt_241 1 rfl ?_
                    obtain ⟨f_32, ef_32⟩ : ∃ z : Nat → Int32, upd g1 (tt - 1) r_27 = z := ⟨_, rfl⟩
                    refine ww_iast (ws' := [(m_factsOf, .inl (E.2.1 1, 432, .inl f_factsOf)), (m_actMany, .inl (E.2.1 1, 25, .inl f_actMany)), (m_actOf, .inl (E.2.1 1, 800, .inl f_actOf)), (m_whom, .inl (E.2.1 1, 800, .inl f_whom)), (m_pile, .inl (E.2.1 1, 34, .inl f_32)), (hm, .inr (12, [.ref m_manys, .ref m_reals, .ref m_factsOf, .ref m_possible, .int (nI q_undos), .int (nI q_models), .ref m_tape, .int (nI q_taped), .int q_fault, .int q_wrong, .int q_wrongAt, .int q_spot, .int q_place, .int q_token, .int q_value, .ref m_ends, .ref m_letters, .ref m_actOf, .ref m_whom, .ref m_actMany, .ref m_tokens, .ref m_afters, .ref m_afterOf, .int q_counted, .ref m_pile, .ref m_caseMany, .ref m_happen, .ref m_hasIf, .ref m_becomes, .ref m_goneOf, .ref m_heard, .ref m_pairs, .ref m_heaps, .int q_rounds, .int q_heapMany, .ref m_led, .ref m_newAt, .ref m_knowing, .ref m_firsts, .int (nI q_people), .ref m_secrets, .ref m_tried, .ref m_lanes, .ref m_lengths, .ref m_cells])), (m_manys, .inl (E.2.1 1, 18, .inl f_manys)), (m_possible, .inl (E.2.1 1, 1728, .inl f_possible))]) C 4 rfl (vp_in_nI (by omega) (by omega)) (ldn2 (by omega) ef_32) rfl dX12_trueAt_243 ?_
                    refine ww_iinc (j := 0) (v := (nI ((tt - 1) + 1))) (lv' := [(4, .int (nI ((tt - 1) + 1))), (7, .int r_27), (6, .int x_9), (5, .int (nI j_8)), (3, .int r_2), (0, .ref hm), (1, .int (nI sl)), (2, .int (nI pg))]) C dX12_trueAt_244 rfl (nI_add (tt - 1) 1) rfl rfl ?_
                    obtain ⟨x_33, ex_33⟩ : ∃ z : Int32, (nI j_8) + Int32.ofInt (-1) = z := ⟨_, rfl⟩
                    have zx_33 : x_33.toInt = ((j_8 : Nat) : Int) - 1 := by rw [← ex_33]; exact i_dec (c := 1) (nI_toInt (n := j_8) (by omega)) rfl (by omega) (by omega)
                    refine ww_iinc (j := 3) (v := x_33) (lv' := [(5, .int x_33), (4, .int (nI ((tt - 1) + 1))), (7, .int r_27), (6, .int x_9), (3, .int r_2), (0, .ref hm), (1, .int (nI sl)), (2, .int (nI pg))]) C dX12_trueAt_247 rfl ex_33 rfl rfl ?_
                    refine ww_goto (tgt := 23) C dX12_trueAt_250 (by decide) ?_
                    exact ww_lv [0, 1, 4, 5, 6, 7] rfl (ww_sub [5, 6, 7, 0, 1, 2, 3, 4] rfl rfl (ih_23 x_33 j_8 ((tt - 1) + 1) f_32 (by omega) (by omega) (by omega) (by omega)))
              · have zc_13 : x_9.toInt = 7 := i_eq rfl rfl c_13
                refine ww_aload_n C dX12_trueAt_164 5 rfl rfl ?_
                refine ww_get C fg_X12_49 0 rfl rfl dX12_trueAt_165 ?_
                refine ww_iload C dX12_trueAt_168 3 rfl ?_
                refine ww_iconst (v := 1) C dX12_trueAt_170 rfl ?_
                refine ww_isub (v := (nI (tt - 1))) C dX12_trueAt_171 (pk_sub (a := tt) (b := 1) (by omega)) ?_
                obtain ⟨x_34, ex_34⟩ : ∃ z : Int32, g1 (tt - 1) = z := ⟨_, rfl⟩
                refine ww_iald (v := x_34) C 7 rfl (vp_in_nI (by omega) (by omega)) (ldn (by omega) ex_34) dX12_trueAt_172 ?_
                refine ww_aload_n C dX12_trueAt_173 5 rfl rfl ?_
                refine ww_get C fg_X12_49 0 rfl rfl dX12_trueAt_174 ?_
                refine ww_iload C dX12_trueAt_177 3 rfl ?_
                refine ww_iconst (v := 2) C dX12_trueAt_179 rfl ?_
                refine ww_isub (v := (nI (tt - 2))) C dX12_trueAt_180 (pk_sub (a := tt) (b := 2) (by omega)) ?_
                obtain ⟨x_35, ex_35⟩ : ∃ z : Int32, g1 (tt - 2) = z := ⟨_, rfl⟩
                refine ww_iald (v := x_35) C 7 rfl (vp_in_nI (by omega) (by omega)) (ldn (by omega) ex_35) dX12_trueAt_181 ?_
                obtain ⟨x_36, ex_36⟩ : ∃ z : Int32, x_34 ||| x_35 = z := ⟨_, rfl⟩
                refine ww_ior (v := x_36) C dX12_trueAt_182 ex_36 ?_
                refine ww_istore (lv' := [(7, .int x_36), (6, .int x_9), (5, .int (nI j_8)), (4, .int (nI tt)), (3, .int r_2), (0, .ref hm), (1, .int (nI sl)), (2, .int (nI pg))]) C dX12_trueAt_183 rfl rfl ?_
                refine ww_goto (tgt := 225) C dX12_trueAt_185 (by decide) ?_
                refine ww_iload C dX12_trueAt_225 3 rfl ?_
                refine ww_iload C dX12_trueAt_227 1 rfl ?_
                refine ww_ci (wr := [(hm, .inr (12, [.ref m_manys, .ref m_reals, .ref m_factsOf, .ref m_possible, .int (nI q_undos), .int (nI q_models), .ref m_tape, .int (nI q_taped), .int q_fault, .int q_wrong, .int q_wrongAt, .int q_spot, .int q_place, .int q_token, .int q_value, .ref m_ends, .ref m_letters, .ref m_actOf, .ref m_whom, .ref m_actMany, .ref m_tokens, .ref m_afters, .ref m_afterOf, .int q_counted, .ref m_pile, .ref m_caseMany, .ref m_happen, .ref m_hasIf, .ref m_becomes, .ref m_goneOf, .ref m_heard, .ref m_pairs, .ref m_heaps, .int q_rounds, .int q_heapMany, .ref m_led, .ref m_newAt, .ref m_knowing, .ref m_firsts, .int (nI q_people), .ref m_secrets, .ref m_tried, .ref m_lanes, .ref m_lengths, .ref m_cells])), (m_manys, .inl (E.2.1 1, 18, .inl f_manys)), (m_possible, .inl (E.2.1 1, 1728, .inl f_possible)), (m_factsOf, .inl (E.2.1 1, 432, .inl f_factsOf)), (m_actMany, .inl (E.2.1 1, 25, .inl f_actMany)), (m_actOf, .inl (E.2.1 1, 800, .inl f_actOf)), (m_whom, .inl (E.2.1 1, 800, .inl f_whom)), (m_pile, .inl (E.2.1 1, 34, .inl g1))]) (k' := 0) (n' := 0) C (run_S (As := [.int x_9]) (rest := [.int (nI tt)]) C (r_wantsOf X.2.1 E ro x_9 x_9.toInt rfl) ms_X12_wantsOf wl_X12_215 rfl rfl rfl rfl dX12_trueAt_229) (roK hro) [] [0, 1, 2, 3, 4, 5, 6, 7] rfl rfl rfl rfl (fun r_37 uz hw => ?_)
                rcases hw with ⟨rfl, rfl, h_38⟩ | ⟨rfl, rfl, h_39⟩ | ⟨rfl, rfl, h_40⟩
                · omega
                · refine ww_eq (ws' := [(hm, .inr (12, [.ref m_manys, .ref m_reals, .ref m_factsOf, .ref m_possible, .int (nI q_undos), .int (nI q_models), .ref m_tape, .int (nI q_taped), .int q_fault, .int q_wrong, .int q_wrongAt, .int q_spot, .int q_place, .int q_token, .int q_value, .ref m_ends, .ref m_letters, .ref m_actOf, .ref m_whom, .ref m_actMany, .ref m_tokens, .ref m_afters, .ref m_afterOf, .int q_counted, .ref m_pile, .ref m_caseMany, .ref m_happen, .ref m_hasIf, .ref m_becomes, .ref m_goneOf, .ref m_heard, .ref m_pairs, .ref m_heaps, .int q_rounds, .int q_heapMany, .ref m_led, .ref m_newAt, .ref m_knowing, .ref m_firsts, .int (nI q_people), .ref m_secrets, .ref m_tried, .ref m_lanes, .ref m_lengths, .ref m_cells])), (m_manys, .inl (E.2.1 1, 18, .inl f_manys)), (m_possible, .inl (E.2.1 1, 1728, .inl f_possible)), (m_factsOf, .inl (E.2.1 1, 432, .inl f_factsOf)), (m_actMany, .inl (E.2.1 1, 25, .inl f_actMany)), (m_actOf, .inl (E.2.1 1, 800, .inl f_actOf)), (m_whom, .inl (E.2.1 1, 800, .inl f_whom)), (m_pile, .inl (E.2.1 1, 34, .inl g1))]) ?_ rfl rfl rfl
                  refine ww_isub (v := (nI (tt - 2))) C dX12_trueAt_232 (pk_sub (a := tt) (b := 2) (by omega)) ?_
                  refine ww_istore (lv' := [(4, .int (nI (tt - 2))), (7, .int x_36), (6, .int x_9), (5, .int (nI j_8)), (3, .int r_2), (0, .ref hm), (1, .int (nI sl)), (2, .int (nI pg))]) C dX12_trueAt_233 rfl rfl ?_
                  refine ww_aload_n C dX12_trueAt_235 5 rfl rfl ?_
                  refine ww_get C fg_X12_49 0 rfl rfl dX12_trueAt_236 ?_
                  refine ww_iload C dX12_trueAt_239 0 rfl ?_
                  refine ww_iload C dX12_trueAt_241 1 rfl ?_
                  obtain ⟨f_41, ef_41⟩ : ∃ z : Nat → Int32, upd g1 (tt - 2) x_36 = z := ⟨_, rfl⟩
                  refine ww_iast (ws' := [(hm, .inr (12, [.ref m_manys, .ref m_reals, .ref m_factsOf, .ref m_possible, .int (nI q_undos), .int (nI q_models), .ref m_tape, .int (nI q_taped), .int q_fault, .int q_wrong, .int q_wrongAt, .int q_spot, .int q_place, .int q_token, .int q_value, .ref m_ends, .ref m_letters, .ref m_actOf, .ref m_whom, .ref m_actMany, .ref m_tokens, .ref m_afters, .ref m_afterOf, .int q_counted, .ref m_pile, .ref m_caseMany, .ref m_happen, .ref m_hasIf, .ref m_becomes, .ref m_goneOf, .ref m_heard, .ref m_pairs, .ref m_heaps, .int q_rounds, .int q_heapMany, .ref m_led, .ref m_newAt, .ref m_knowing, .ref m_firsts, .int (nI q_people), .ref m_secrets, .ref m_tried, .ref m_lanes, .ref m_lengths, .ref m_cells])), (m_manys, .inl (E.2.1 1, 18, .inl f_manys)), (m_possible, .inl (E.2.1 1, 1728, .inl f_possible)), (m_factsOf, .inl (E.2.1 1, 432, .inl f_factsOf)), (m_actMany, .inl (E.2.1 1, 25, .inl f_actMany)), (m_actOf, .inl (E.2.1 1, 800, .inl f_actOf)), (m_whom, .inl (E.2.1 1, 800, .inl f_whom)), (m_pile, .inl (E.2.1 1, 34, .inl f_41))]) C 7 rfl (vp_in_nI (by omega) (by omega)) (ldn2 (by omega) ef_41) rfl dX12_trueAt_243 ?_
                  refine ww_iinc (j := 0) (v := (nI ((tt - 2) + 1))) (lv' := [(4, .int (nI ((tt - 2) + 1))), (7, .int x_36), (6, .int x_9), (5, .int (nI j_8)), (3, .int r_2), (0, .ref hm), (1, .int (nI sl)), (2, .int (nI pg))]) C dX12_trueAt_244 rfl (nI_add (tt - 2) 1) rfl rfl ?_
                  obtain ⟨x_42, ex_42⟩ : ∃ z : Int32, (nI j_8) + Int32.ofInt (-1) = z := ⟨_, rfl⟩
                  have zx_42 : x_42.toInt = ((j_8 : Nat) : Int) - 1 := by rw [← ex_42]; exact i_dec (c := 1) (nI_toInt (n := j_8) (by omega)) rfl (by omega) (by omega)
                  refine ww_iinc (j := 3) (v := x_42) (lv' := [(5, .int x_42), (4, .int (nI ((tt - 2) + 1))), (7, .int x_36), (6, .int x_9), (3, .int r_2), (0, .ref hm), (1, .int (nI sl)), (2, .int (nI pg))]) C dX12_trueAt_247 rfl ex_42 rfl rfl ?_
                  refine ww_goto (tgt := 23) C dX12_trueAt_250 (by decide) ?_
                  exact ww_lv [0, 1, 4, 5, 6, 7] rfl (ww_sub [0, 1, 2, 3, 4, 5, 6, 7] rfl rfl (ih_23 x_42 j_8 ((tt - 2) + 1) f_41 (by omega) (by omega) (by omega) (by omega)))
                · refine ww_eq (ws' := [(hm, .inr (12, [.ref m_manys, .ref m_reals, .ref m_factsOf, .ref m_possible, .int (nI q_undos), .int (nI q_models), .ref m_tape, .int (nI q_taped), .int q_fault, .int q_wrong, .int q_wrongAt, .int q_spot, .int q_place, .int q_token, .int q_value, .ref m_ends, .ref m_letters, .ref m_actOf, .ref m_whom, .ref m_actMany, .ref m_tokens, .ref m_afters, .ref m_afterOf, .int q_counted, .ref m_pile, .ref m_caseMany, .ref m_happen, .ref m_hasIf, .ref m_becomes, .ref m_goneOf, .ref m_heard, .ref m_pairs, .ref m_heaps, .int q_rounds, .int q_heapMany, .ref m_led, .ref m_newAt, .ref m_knowing, .ref m_firsts, .int (nI q_people), .ref m_secrets, .ref m_tried, .ref m_lanes, .ref m_lengths, .ref m_cells])), (m_manys, .inl (E.2.1 1, 18, .inl f_manys)), (m_possible, .inl (E.2.1 1, 1728, .inl f_possible)), (m_factsOf, .inl (E.2.1 1, 432, .inl f_factsOf)), (m_actMany, .inl (E.2.1 1, 25, .inl f_actMany)), (m_actOf, .inl (E.2.1 1, 800, .inl f_actOf)), (m_whom, .inl (E.2.1 1, 800, .inl f_whom)), (m_pile, .inl (E.2.1 1, 34, .inl g1))]) ?_ rfl rfl rfl
                  refine ww_isub (v := (nI (tt - 1))) C dX12_trueAt_232 (pk_sub (a := tt) (b := 1) (by omega)) ?_
                  refine ww_istore (lv' := [(4, .int (nI (tt - 1))), (7, .int x_36), (6, .int x_9), (5, .int (nI j_8)), (3, .int r_2), (0, .ref hm), (1, .int (nI sl)), (2, .int (nI pg))]) C dX12_trueAt_233 rfl rfl ?_
                  refine ww_aload_n C dX12_trueAt_235 5 rfl rfl ?_
                  refine ww_get C fg_X12_49 0 rfl rfl dX12_trueAt_236 ?_
                  refine ww_iload C dX12_trueAt_239 0 rfl ?_
                  refine ww_iload C dX12_trueAt_241 1 rfl ?_
                  obtain ⟨f_43, ef_43⟩ : ∃ z : Nat → Int32, upd g1 (tt - 1) x_36 = z := ⟨_, rfl⟩
                  refine ww_iast (ws' := [(hm, .inr (12, [.ref m_manys, .ref m_reals, .ref m_factsOf, .ref m_possible, .int (nI q_undos), .int (nI q_models), .ref m_tape, .int (nI q_taped), .int q_fault, .int q_wrong, .int q_wrongAt, .int q_spot, .int q_place, .int q_token, .int q_value, .ref m_ends, .ref m_letters, .ref m_actOf, .ref m_whom, .ref m_actMany, .ref m_tokens, .ref m_afters, .ref m_afterOf, .int q_counted, .ref m_pile, .ref m_caseMany, .ref m_happen, .ref m_hasIf, .ref m_becomes, .ref m_goneOf, .ref m_heard, .ref m_pairs, .ref m_heaps, .int q_rounds, .int q_heapMany, .ref m_led, .ref m_newAt, .ref m_knowing, .ref m_firsts, .int (nI q_people), .ref m_secrets, .ref m_tried, .ref m_lanes, .ref m_lengths, .ref m_cells])), (m_manys, .inl (E.2.1 1, 18, .inl f_manys)), (m_possible, .inl (E.2.1 1, 1728, .inl f_possible)), (m_factsOf, .inl (E.2.1 1, 432, .inl f_factsOf)), (m_actMany, .inl (E.2.1 1, 25, .inl f_actMany)), (m_actOf, .inl (E.2.1 1, 800, .inl f_actOf)), (m_whom, .inl (E.2.1 1, 800, .inl f_whom)), (m_pile, .inl (E.2.1 1, 34, .inl f_43))]) C 7 rfl (vp_in_nI (by omega) (by omega)) (ldn2 (by omega) ef_43) rfl dX12_trueAt_243 ?_
                  refine ww_iinc (j := 0) (v := (nI ((tt - 1) + 1))) (lv' := [(4, .int (nI ((tt - 1) + 1))), (7, .int x_36), (6, .int x_9), (5, .int (nI j_8)), (3, .int r_2), (0, .ref hm), (1, .int (nI sl)), (2, .int (nI pg))]) C dX12_trueAt_244 rfl (nI_add (tt - 1) 1) rfl rfl ?_
                  obtain ⟨x_44, ex_44⟩ : ∃ z : Int32, (nI j_8) + Int32.ofInt (-1) = z := ⟨_, rfl⟩
                  have zx_44 : x_44.toInt = ((j_8 : Nat) : Int) - 1 := by rw [← ex_44]; exact i_dec (c := 1) (nI_toInt (n := j_8) (by omega)) rfl (by omega) (by omega)
                  refine ww_iinc (j := 3) (v := x_44) (lv' := [(5, .int x_44), (4, .int (nI ((tt - 1) + 1))), (7, .int x_36), (6, .int x_9), (3, .int r_2), (0, .ref hm), (1, .int (nI sl)), (2, .int (nI pg))]) C dX12_trueAt_247 rfl ex_44 rfl rfl ?_
                  refine ww_goto (tgt := 23) C dX12_trueAt_250 (by decide) ?_
                  exact ww_lv [0, 1, 4, 5, 6, 7] rfl (ww_sub [0, 1, 2, 3, 4, 5, 6, 7] rfl rfl (ih_23 x_44 j_8 ((tt - 1) + 1) f_43 (by omega) (by omega) (by omega) (by omega)))
            · have zc_12 : x_9.toInt = 6 := i_eq rfl rfl c_12
              refine ww_aload_n C dX12_trueAt_133 5 rfl rfl ?_
              refine ww_get C fg_X12_49 0 rfl rfl dX12_trueAt_134 ?_
              refine ww_iload C dX12_trueAt_137 3 rfl ?_
              refine ww_iconst (v := 1) C dX12_trueAt_139 rfl ?_
              refine ww_isub (v := (nI (tt - 1))) C dX12_trueAt_140 (pk_sub (a := tt) (b := 1) (by omega)) ?_
              obtain ⟨x_45, ex_45⟩ : ∃ z : Int32, g1 (tt - 1) = z := ⟨_, rfl⟩
              refine ww_iald (v := x_45) C 7 rfl (vp_in_nI (by omega) (by omega)) (ldn (by omega) ex_45) dX12_trueAt_141 ?_
              refine ww_aload_n C dX12_trueAt_142 5 rfl rfl ?_
              refine ww_get C fg_X12_49 0 rfl rfl dX12_trueAt_143 ?_
              refine ww_iload C dX12_trueAt_146 3 rfl ?_
              refine ww_iconst (v := 2) C dX12_trueAt_148 rfl ?_
              refine ww_isub (v := (nI (tt - 2))) C dX12_trueAt_149 (pk_sub (a := tt) (b := 2) (by omega)) ?_
              obtain ⟨x_46, ex_46⟩ : ∃ z : Int32, g1 (tt - 2) = z := ⟨_, rfl⟩
              refine ww_iald (v := x_46) C 7 rfl (vp_in_nI (by omega) (by omega)) (ldn (by omega) ex_46) dX12_trueAt_150 ?_
              obtain ⟨x_47, ex_47⟩ : ∃ z : Int32, x_45 &&& x_46 = z := ⟨_, rfl⟩
              refine ww_iand (v := x_47) C dX12_trueAt_151 ex_47 ?_
              refine ww_istore (lv' := [(7, .int x_47), (6, .int x_9), (5, .int (nI j_8)), (4, .int (nI tt)), (3, .int r_2), (0, .ref hm), (1, .int (nI sl)), (2, .int (nI pg))]) C dX12_trueAt_152 rfl rfl ?_
              refine ww_goto (tgt := 225) C dX12_trueAt_154 (by decide) ?_
              refine ww_iload C dX12_trueAt_225 3 rfl ?_
              refine ww_iload C dX12_trueAt_227 1 rfl ?_
              refine ww_ci (wr := [(hm, .inr (12, [.ref m_manys, .ref m_reals, .ref m_factsOf, .ref m_possible, .int (nI q_undos), .int (nI q_models), .ref m_tape, .int (nI q_taped), .int q_fault, .int q_wrong, .int q_wrongAt, .int q_spot, .int q_place, .int q_token, .int q_value, .ref m_ends, .ref m_letters, .ref m_actOf, .ref m_whom, .ref m_actMany, .ref m_tokens, .ref m_afters, .ref m_afterOf, .int q_counted, .ref m_pile, .ref m_caseMany, .ref m_happen, .ref m_hasIf, .ref m_becomes, .ref m_goneOf, .ref m_heard, .ref m_pairs, .ref m_heaps, .int q_rounds, .int q_heapMany, .ref m_led, .ref m_newAt, .ref m_knowing, .ref m_firsts, .int (nI q_people), .ref m_secrets, .ref m_tried, .ref m_lanes, .ref m_lengths, .ref m_cells])), (m_manys, .inl (E.2.1 1, 18, .inl f_manys)), (m_possible, .inl (E.2.1 1, 1728, .inl f_possible)), (m_factsOf, .inl (E.2.1 1, 432, .inl f_factsOf)), (m_actMany, .inl (E.2.1 1, 25, .inl f_actMany)), (m_actOf, .inl (E.2.1 1, 800, .inl f_actOf)), (m_whom, .inl (E.2.1 1, 800, .inl f_whom)), (m_pile, .inl (E.2.1 1, 34, .inl g1))]) (k' := 0) (n' := 0) C (run_S (As := [.int x_9]) (rest := [.int (nI tt)]) C (r_wantsOf X.2.1 E ro x_9 x_9.toInt rfl) ms_X12_wantsOf wl_X12_215 rfl rfl rfl rfl dX12_trueAt_229) (roK hro) [] [0, 1, 2, 3, 4, 5, 6, 7] rfl rfl rfl rfl (fun r_48 uz hw => ?_)
              rcases hw with ⟨rfl, rfl, h_49⟩ | ⟨rfl, rfl, h_50⟩ | ⟨rfl, rfl, h_51⟩
              · omega
              · refine ww_eq (ws' := [(hm, .inr (12, [.ref m_manys, .ref m_reals, .ref m_factsOf, .ref m_possible, .int (nI q_undos), .int (nI q_models), .ref m_tape, .int (nI q_taped), .int q_fault, .int q_wrong, .int q_wrongAt, .int q_spot, .int q_place, .int q_token, .int q_value, .ref m_ends, .ref m_letters, .ref m_actOf, .ref m_whom, .ref m_actMany, .ref m_tokens, .ref m_afters, .ref m_afterOf, .int q_counted, .ref m_pile, .ref m_caseMany, .ref m_happen, .ref m_hasIf, .ref m_becomes, .ref m_goneOf, .ref m_heard, .ref m_pairs, .ref m_heaps, .int q_rounds, .int q_heapMany, .ref m_led, .ref m_newAt, .ref m_knowing, .ref m_firsts, .int (nI q_people), .ref m_secrets, .ref m_tried, .ref m_lanes, .ref m_lengths, .ref m_cells])), (m_manys, .inl (E.2.1 1, 18, .inl f_manys)), (m_possible, .inl (E.2.1 1, 1728, .inl f_possible)), (m_factsOf, .inl (E.2.1 1, 432, .inl f_factsOf)), (m_actMany, .inl (E.2.1 1, 25, .inl f_actMany)), (m_actOf, .inl (E.2.1 1, 800, .inl f_actOf)), (m_whom, .inl (E.2.1 1, 800, .inl f_whom)), (m_pile, .inl (E.2.1 1, 34, .inl g1))]) ?_ rfl rfl rfl
                refine ww_isub (v := (nI (tt - 2))) C dX12_trueAt_232 (pk_sub (a := tt) (b := 2) (by omega)) ?_
                refine ww_istore (lv' := [(4, .int (nI (tt - 2))), (7, .int x_47), (6, .int x_9), (5, .int (nI j_8)), (3, .int r_2), (0, .ref hm), (1, .int (nI sl)), (2, .int (nI pg))]) C dX12_trueAt_233 rfl rfl ?_
                refine ww_aload_n C dX12_trueAt_235 5 rfl rfl ?_
                refine ww_get C fg_X12_49 0 rfl rfl dX12_trueAt_236 ?_
                refine ww_iload C dX12_trueAt_239 0 rfl ?_
                refine ww_iload C dX12_trueAt_241 1 rfl ?_
                obtain ⟨f_52, ef_52⟩ : ∃ z : Nat → Int32, upd g1 (tt - 2) x_47 = z := ⟨_, rfl⟩
                refine ww_iast (ws' := [(hm, .inr (12, [.ref m_manys, .ref m_reals, .ref m_factsOf, .ref m_possible, .int (nI q_undos), .int (nI q_models), .ref m_tape, .int (nI q_taped), .int q_fault, .int q_wrong, .int q_wrongAt, .int q_spot, .int q_place, .int q_token, .int q_value, .ref m_ends, .ref m_letters, .ref m_actOf, .ref m_whom, .ref m_actMany, .ref m_tokens, .ref m_afters, .ref m_afterOf, .int q_counted, .ref m_pile, .ref m_caseMany, .ref m_happen, .ref m_hasIf, .ref m_becomes, .ref m_goneOf, .ref m_heard, .ref m_pairs, .ref m_heaps, .int q_rounds, .int q_heapMany, .ref m_led, .ref m_newAt, .ref m_knowing, .ref m_firsts, .int (nI q_people), .ref m_secrets, .ref m_tried, .ref m_lanes, .ref m_lengths, .ref m_cells])), (m_manys, .inl (E.2.1 1, 18, .inl f_manys)), (m_possible, .inl (E.2.1 1, 1728, .inl f_possible)), (m_factsOf, .inl (E.2.1 1, 432, .inl f_factsOf)), (m_actMany, .inl (E.2.1 1, 25, .inl f_actMany)), (m_actOf, .inl (E.2.1 1, 800, .inl f_actOf)), (m_whom, .inl (E.2.1 1, 800, .inl f_whom)), (m_pile, .inl (E.2.1 1, 34, .inl f_52))]) C 7 rfl (vp_in_nI (by omega) (by omega)) (ldn2 (by omega) ef_52) rfl dX12_trueAt_243 ?_
                refine ww_iinc (j := 0) (v := (nI ((tt - 2) + 1))) (lv' := [(4, .int (nI ((tt - 2) + 1))), (7, .int x_47), (6, .int x_9), (5, .int (nI j_8)), (3, .int r_2), (0, .ref hm), (1, .int (nI sl)), (2, .int (nI pg))]) C dX12_trueAt_244 rfl (nI_add (tt - 2) 1) rfl rfl ?_
                obtain ⟨x_53, ex_53⟩ : ∃ z : Int32, (nI j_8) + Int32.ofInt (-1) = z := ⟨_, rfl⟩
                have zx_53 : x_53.toInt = ((j_8 : Nat) : Int) - 1 := by rw [← ex_53]; exact i_dec (c := 1) (nI_toInt (n := j_8) (by omega)) rfl (by omega) (by omega)
                refine ww_iinc (j := 3) (v := x_53) (lv' := [(5, .int x_53), (4, .int (nI ((tt - 2) + 1))), (7, .int x_47), (6, .int x_9), (3, .int r_2), (0, .ref hm), (1, .int (nI sl)), (2, .int (nI pg))]) C dX12_trueAt_247 rfl ex_53 rfl rfl ?_
                refine ww_goto (tgt := 23) C dX12_trueAt_250 (by decide) ?_
                exact ww_lv [0, 1, 4, 5, 6, 7] rfl (ww_sub [0, 1, 2, 3, 4, 5, 6, 7] rfl rfl (ih_23 x_53 j_8 ((tt - 2) + 1) f_52 (by omega) (by omega) (by omega) (by omega)))
              · refine ww_eq (ws' := [(hm, .inr (12, [.ref m_manys, .ref m_reals, .ref m_factsOf, .ref m_possible, .int (nI q_undos), .int (nI q_models), .ref m_tape, .int (nI q_taped), .int q_fault, .int q_wrong, .int q_wrongAt, .int q_spot, .int q_place, .int q_token, .int q_value, .ref m_ends, .ref m_letters, .ref m_actOf, .ref m_whom, .ref m_actMany, .ref m_tokens, .ref m_afters, .ref m_afterOf, .int q_counted, .ref m_pile, .ref m_caseMany, .ref m_happen, .ref m_hasIf, .ref m_becomes, .ref m_goneOf, .ref m_heard, .ref m_pairs, .ref m_heaps, .int q_rounds, .int q_heapMany, .ref m_led, .ref m_newAt, .ref m_knowing, .ref m_firsts, .int (nI q_people), .ref m_secrets, .ref m_tried, .ref m_lanes, .ref m_lengths, .ref m_cells])), (m_manys, .inl (E.2.1 1, 18, .inl f_manys)), (m_possible, .inl (E.2.1 1, 1728, .inl f_possible)), (m_factsOf, .inl (E.2.1 1, 432, .inl f_factsOf)), (m_actMany, .inl (E.2.1 1, 25, .inl f_actMany)), (m_actOf, .inl (E.2.1 1, 800, .inl f_actOf)), (m_whom, .inl (E.2.1 1, 800, .inl f_whom)), (m_pile, .inl (E.2.1 1, 34, .inl g1))]) ?_ rfl rfl rfl
                refine ww_isub (v := (nI (tt - 1))) C dX12_trueAt_232 (pk_sub (a := tt) (b := 1) (by omega)) ?_
                refine ww_istore (lv' := [(4, .int (nI (tt - 1))), (7, .int x_47), (6, .int x_9), (5, .int (nI j_8)), (3, .int r_2), (0, .ref hm), (1, .int (nI sl)), (2, .int (nI pg))]) C dX12_trueAt_233 rfl rfl ?_
                refine ww_aload_n C dX12_trueAt_235 5 rfl rfl ?_
                refine ww_get C fg_X12_49 0 rfl rfl dX12_trueAt_236 ?_
                refine ww_iload C dX12_trueAt_239 0 rfl ?_
                refine ww_iload C dX12_trueAt_241 1 rfl ?_
                obtain ⟨f_54, ef_54⟩ : ∃ z : Nat → Int32, upd g1 (tt - 1) x_47 = z := ⟨_, rfl⟩
                refine ww_iast (ws' := [(hm, .inr (12, [.ref m_manys, .ref m_reals, .ref m_factsOf, .ref m_possible, .int (nI q_undos), .int (nI q_models), .ref m_tape, .int (nI q_taped), .int q_fault, .int q_wrong, .int q_wrongAt, .int q_spot, .int q_place, .int q_token, .int q_value, .ref m_ends, .ref m_letters, .ref m_actOf, .ref m_whom, .ref m_actMany, .ref m_tokens, .ref m_afters, .ref m_afterOf, .int q_counted, .ref m_pile, .ref m_caseMany, .ref m_happen, .ref m_hasIf, .ref m_becomes, .ref m_goneOf, .ref m_heard, .ref m_pairs, .ref m_heaps, .int q_rounds, .int q_heapMany, .ref m_led, .ref m_newAt, .ref m_knowing, .ref m_firsts, .int (nI q_people), .ref m_secrets, .ref m_tried, .ref m_lanes, .ref m_lengths, .ref m_cells])), (m_manys, .inl (E.2.1 1, 18, .inl f_manys)), (m_possible, .inl (E.2.1 1, 1728, .inl f_possible)), (m_factsOf, .inl (E.2.1 1, 432, .inl f_factsOf)), (m_actMany, .inl (E.2.1 1, 25, .inl f_actMany)), (m_actOf, .inl (E.2.1 1, 800, .inl f_actOf)), (m_whom, .inl (E.2.1 1, 800, .inl f_whom)), (m_pile, .inl (E.2.1 1, 34, .inl f_54))]) C 7 rfl (vp_in_nI (by omega) (by omega)) (ldn2 (by omega) ef_54) rfl dX12_trueAt_243 ?_
                refine ww_iinc (j := 0) (v := (nI ((tt - 1) + 1))) (lv' := [(4, .int (nI ((tt - 1) + 1))), (7, .int x_47), (6, .int x_9), (5, .int (nI j_8)), (3, .int r_2), (0, .ref hm), (1, .int (nI sl)), (2, .int (nI pg))]) C dX12_trueAt_244 rfl (nI_add (tt - 1) 1) rfl rfl ?_
                obtain ⟨x_55, ex_55⟩ : ∃ z : Int32, (nI j_8) + Int32.ofInt (-1) = z := ⟨_, rfl⟩
                have zx_55 : x_55.toInt = ((j_8 : Nat) : Int) - 1 := by rw [← ex_55]; exact i_dec (c := 1) (nI_toInt (n := j_8) (by omega)) rfl (by omega) (by omega)
                refine ww_iinc (j := 3) (v := x_55) (lv' := [(5, .int x_55), (4, .int (nI ((tt - 1) + 1))), (7, .int x_47), (6, .int x_9), (3, .int r_2), (0, .ref hm), (1, .int (nI sl)), (2, .int (nI pg))]) C dX12_trueAt_247 rfl ex_55 rfl rfl ?_
                refine ww_goto (tgt := 23) C dX12_trueAt_250 (by decide) ?_
                exact ww_lv [0, 1, 4, 5, 6, 7] rfl (ww_sub [0, 1, 2, 3, 4, 5, 6, 7] rfl rfl (ih_23 x_55 j_8 ((tt - 1) + 1) f_54 (by omega) (by omega) (by omega) (by omega)))
          · have zc_11 : x_9.toInt = 5 := i_eq rfl rfl c_11
            refine ww_iload_n C dX12_trueAt_108 4 rfl rfl ?_
            refine ww_aload_n C dX12_trueAt_109 5 rfl rfl ?_
            refine ww_get C fg_X12_49 0 rfl rfl dX12_trueAt_110 ?_
            refine ww_iload C dX12_trueAt_113 3 rfl ?_
            refine ww_iconst (v := 1) C dX12_trueAt_115 rfl ?_
            refine ww_isub (v := (nI (tt - 1))) C dX12_trueAt_116 (pk_sub (a := tt) (b := 1) (by omega)) ?_
            obtain ⟨x_56, ex_56⟩ : ∃ z : Int32, g1 (tt - 1) = z := ⟨_, rfl⟩
            refine ww_iald (v := x_56) C 7 rfl (vp_in_nI (by omega) (by omega)) (ldn (by omega) ex_56) dX12_trueAt_117 ?_
            refine ww_iconst (v := (-1)) C dX12_trueAt_118 rfl ?_
            obtain ⟨x_57, ex_57⟩ : ∃ z : Int32, x_56 ^^^ ((-1) : Int32) = z := ⟨_, rfl⟩
            refine ww_ixor (v := x_57) C dX12_trueAt_119 ex_57 ?_
            obtain ⟨x_58, ex_58⟩ : ∃ z : Int32, r_2 &&& x_57 = z := ⟨_, rfl⟩
            refine ww_iand (v := x_58) C dX12_trueAt_120 ex_58 ?_
            refine ww_istore (lv' := [(7, .int x_58), (6, .int x_9), (5, .int (nI j_8)), (4, .int (nI tt)), (3, .int r_2), (0, .ref hm), (1, .int (nI sl)), (2, .int (nI pg))]) C dX12_trueAt_121 rfl rfl ?_
            refine ww_goto (tgt := 225) C dX12_trueAt_123 (by decide) ?_
            refine ww_iload C dX12_trueAt_225 3 rfl ?_
            refine ww_iload C dX12_trueAt_227 1 rfl ?_
            refine ww_ci (wr := [(hm, .inr (12, [.ref m_manys, .ref m_reals, .ref m_factsOf, .ref m_possible, .int (nI q_undos), .int (nI q_models), .ref m_tape, .int (nI q_taped), .int q_fault, .int q_wrong, .int q_wrongAt, .int q_spot, .int q_place, .int q_token, .int q_value, .ref m_ends, .ref m_letters, .ref m_actOf, .ref m_whom, .ref m_actMany, .ref m_tokens, .ref m_afters, .ref m_afterOf, .int q_counted, .ref m_pile, .ref m_caseMany, .ref m_happen, .ref m_hasIf, .ref m_becomes, .ref m_goneOf, .ref m_heard, .ref m_pairs, .ref m_heaps, .int q_rounds, .int q_heapMany, .ref m_led, .ref m_newAt, .ref m_knowing, .ref m_firsts, .int (nI q_people), .ref m_secrets, .ref m_tried, .ref m_lanes, .ref m_lengths, .ref m_cells])), (m_manys, .inl (E.2.1 1, 18, .inl f_manys)), (m_possible, .inl (E.2.1 1, 1728, .inl f_possible)), (m_factsOf, .inl (E.2.1 1, 432, .inl f_factsOf)), (m_actMany, .inl (E.2.1 1, 25, .inl f_actMany)), (m_actOf, .inl (E.2.1 1, 800, .inl f_actOf)), (m_whom, .inl (E.2.1 1, 800, .inl f_whom)), (m_pile, .inl (E.2.1 1, 34, .inl g1))]) (k' := 0) (n' := 0) C (run_S (As := [.int x_9]) (rest := [.int (nI tt)]) C (r_wantsOf X.2.1 E ro x_9 x_9.toInt rfl) ms_X12_wantsOf wl_X12_215 rfl rfl rfl rfl dX12_trueAt_229) (roK hro) [] [0, 1, 2, 3, 4, 5, 6, 7] rfl rfl rfl rfl (fun r_59 uz hw => ?_)
            rcases hw with ⟨rfl, rfl, h_60⟩ | ⟨rfl, rfl, h_61⟩ | ⟨rfl, rfl, h_62⟩
            · omega
            · omega
            · refine ww_eq (ws' := [(hm, .inr (12, [.ref m_manys, .ref m_reals, .ref m_factsOf, .ref m_possible, .int (nI q_undos), .int (nI q_models), .ref m_tape, .int (nI q_taped), .int q_fault, .int q_wrong, .int q_wrongAt, .int q_spot, .int q_place, .int q_token, .int q_value, .ref m_ends, .ref m_letters, .ref m_actOf, .ref m_whom, .ref m_actMany, .ref m_tokens, .ref m_afters, .ref m_afterOf, .int q_counted, .ref m_pile, .ref m_caseMany, .ref m_happen, .ref m_hasIf, .ref m_becomes, .ref m_goneOf, .ref m_heard, .ref m_pairs, .ref m_heaps, .int q_rounds, .int q_heapMany, .ref m_led, .ref m_newAt, .ref m_knowing, .ref m_firsts, .int (nI q_people), .ref m_secrets, .ref m_tried, .ref m_lanes, .ref m_lengths, .ref m_cells])), (m_manys, .inl (E.2.1 1, 18, .inl f_manys)), (m_possible, .inl (E.2.1 1, 1728, .inl f_possible)), (m_factsOf, .inl (E.2.1 1, 432, .inl f_factsOf)), (m_actMany, .inl (E.2.1 1, 25, .inl f_actMany)), (m_actOf, .inl (E.2.1 1, 800, .inl f_actOf)), (m_whom, .inl (E.2.1 1, 800, .inl f_whom)), (m_pile, .inl (E.2.1 1, 34, .inl g1))]) ?_ rfl rfl rfl
              refine ww_isub (v := (nI (tt - 1))) C dX12_trueAt_232 (pk_sub (a := tt) (b := 1) (by omega)) ?_
              refine ww_istore (lv' := [(4, .int (nI (tt - 1))), (7, .int x_58), (6, .int x_9), (5, .int (nI j_8)), (3, .int r_2), (0, .ref hm), (1, .int (nI sl)), (2, .int (nI pg))]) C dX12_trueAt_233 rfl rfl ?_
              refine ww_aload_n C dX12_trueAt_235 5 rfl rfl ?_
              refine ww_get C fg_X12_49 0 rfl rfl dX12_trueAt_236 ?_
              refine ww_iload C dX12_trueAt_239 0 rfl ?_
              refine ww_iload C dX12_trueAt_241 1 rfl ?_
              obtain ⟨f_63, ef_63⟩ : ∃ z : Nat → Int32, upd g1 (tt - 1) x_58 = z := ⟨_, rfl⟩
              refine ww_iast (ws' := [(hm, .inr (12, [.ref m_manys, .ref m_reals, .ref m_factsOf, .ref m_possible, .int (nI q_undos), .int (nI q_models), .ref m_tape, .int (nI q_taped), .int q_fault, .int q_wrong, .int q_wrongAt, .int q_spot, .int q_place, .int q_token, .int q_value, .ref m_ends, .ref m_letters, .ref m_actOf, .ref m_whom, .ref m_actMany, .ref m_tokens, .ref m_afters, .ref m_afterOf, .int q_counted, .ref m_pile, .ref m_caseMany, .ref m_happen, .ref m_hasIf, .ref m_becomes, .ref m_goneOf, .ref m_heard, .ref m_pairs, .ref m_heaps, .int q_rounds, .int q_heapMany, .ref m_led, .ref m_newAt, .ref m_knowing, .ref m_firsts, .int (nI q_people), .ref m_secrets, .ref m_tried, .ref m_lanes, .ref m_lengths, .ref m_cells])), (m_manys, .inl (E.2.1 1, 18, .inl f_manys)), (m_possible, .inl (E.2.1 1, 1728, .inl f_possible)), (m_factsOf, .inl (E.2.1 1, 432, .inl f_factsOf)), (m_actMany, .inl (E.2.1 1, 25, .inl f_actMany)), (m_actOf, .inl (E.2.1 1, 800, .inl f_actOf)), (m_whom, .inl (E.2.1 1, 800, .inl f_whom)), (m_pile, .inl (E.2.1 1, 34, .inl f_63))]) C 7 rfl (vp_in_nI (by omega) (by omega)) (ldn2 (by omega) ef_63) rfl dX12_trueAt_243 ?_
              refine ww_iinc (j := 0) (v := (nI ((tt - 1) + 1))) (lv' := [(4, .int (nI ((tt - 1) + 1))), (7, .int x_58), (6, .int x_9), (5, .int (nI j_8)), (3, .int r_2), (0, .ref hm), (1, .int (nI sl)), (2, .int (nI pg))]) C dX12_trueAt_244 rfl (nI_add (tt - 1) 1) rfl rfl ?_
              obtain ⟨x_64, ex_64⟩ : ∃ z : Int32, (nI j_8) + Int32.ofInt (-1) = z := ⟨_, rfl⟩
              have zx_64 : x_64.toInt = ((j_8 : Nat) : Int) - 1 := by rw [← ex_64]; exact i_dec (c := 1) (nI_toInt (n := j_8) (by omega)) rfl (by omega) (by omega)
              refine ww_iinc (j := 3) (v := x_64) (lv' := [(5, .int x_64), (4, .int (nI ((tt - 1) + 1))), (7, .int x_58), (6, .int x_9), (3, .int r_2), (0, .ref hm), (1, .int (nI sl)), (2, .int (nI pg))]) C dX12_trueAt_247 rfl ex_64 rfl rfl ?_
              refine ww_goto (tgt := 23) C dX12_trueAt_250 (by decide) ?_
              exact ww_lv [0, 1, 4, 5, 6, 7] rfl (ww_sub [0, 1, 2, 3, 4, 5, 6, 7] rfl rfl (ih_23 x_64 j_8 ((tt - 1) + 1) f_63 (by omega) (by omega) (by omega) (by omega)))
        · have zc_10 : x_9.toInt < 4 := i_nle rfl rfl c_10
          refine ww_iconst (v := 0) C dX12_trueAt_51 rfl ?_
          refine ww_istore (lv' := [(7, .int 0), (6, .int x_9), (5, .int (nI j_8)), (4, .int (nI tt)), (3, .int r_2), (0, .ref hm), (1, .int (nI sl)), (2, .int (nI pg))]) C dX12_trueAt_52 rfl rfl ?_
          refine ww_iconst (v := 0) C dX12_trueAt_54 rfl ?_
          refine ww_istore (lv' := [(8, .int 0), (7, .int 0), (6, .int x_9), (5, .int (nI j_8)), (4, .int (nI tt)), (3, .int r_2), (0, .ref hm), (1, .int (nI sl)), (2, .int (nI pg))]) C dX12_trueAt_55 rfl rfl ?_
          have loop_57 : ∀ (fu : Nat) (i1 : Nat) (ac : Int32), (i1 ≤ cN f_manys pg) → cN f_manys pg - i1 < fu → WW X 9 E 57 [(8, .int (nI i1)), (7, .int ac), (6, .int x_9), (5, .int (nI j_8)), (4, .int (nI tt)), (3, .int r_2), (0, .ref hm), (1, .int (nI sl)), (2, .int (nI pg))] [] [(hm, .inr (12, [.ref m_manys, .ref m_reals, .ref m_factsOf, .ref m_possible, .int (nI q_undos), .int (nI q_models), .ref m_tape, .int (nI q_taped), .int q_fault, .int q_wrong, .int q_wrongAt, .int q_spot, .int q_place, .int q_token, .int q_value, .ref m_ends, .ref m_letters, .ref m_actOf, .ref m_whom, .ref m_actMany, .ref m_tokens, .ref m_afters, .ref m_afterOf, .int q_counted, .ref m_pile, .ref m_caseMany, .ref m_happen, .ref m_hasIf, .ref m_becomes, .ref m_goneOf, .ref m_heard, .ref m_pairs, .ref m_heaps, .int q_rounds, .int q_heapMany, .ref m_led, .ref m_newAt, .ref m_knowing, .ref m_firsts, .int (nI q_people), .ref m_secrets, .ref m_tried, .ref m_lanes, .ref m_lengths, .ref m_cells])), (m_manys, .inl (E.2.1 1, 18, .inl f_manys)), (m_possible, .inl (E.2.1 1, 1728, .inl f_possible)), (m_factsOf, .inl (E.2.1 1, 432, .inl f_factsOf)), (m_actMany, .inl (E.2.1 1, 25, .inl f_actMany)), (m_actOf, .inl (E.2.1 1, 800, .inl f_actOf)), (m_whom, .inl (E.2.1 1, 800, .inl f_whom)), (m_pile, .inl (E.2.1 1, 34, .inl g1))] 0 0 := by
            intro fu
            induction fu with
            | zero => intro i1 ac hi1 hmeas; exact absurd hmeas (Nat.not_lt_zero _)
            | succ fu ih_57 =>
              intro i1 ac hi1 hmeas
              refine ww_iload C dX12_trueAt_57 0 rfl ?_
              refine ww_aload_n C dX12_trueAt_59 6 rfl rfl ?_
              refine ww_get C fg_X12_7 0 rfl rfl dX12_trueAt_60 ?_
              refine ww_iload_n C dX12_trueAt_63 8 rfl rfl ?_
              have hbx_65 := (hb_manys pg (by omega)).2
              refine ww_iald (v := (nI (cN f_manys pg))) C 1 rfl (vp_in_nI (by omega) (by omega)) (ldn (by omega) (hb_manys pg (by omega)).1) dX12_trueAt_64 ?_
              refine ww_icmp_ge (tgt := 99) C dX12_trueAt_65 (by decide) (fun c_66 => ?_) (fun c_66 => ?_)
              · have zc_66 : ((i1 : Nat) : Int) ≥ ((cN f_manys pg : Nat) : Int) := i_le (nI_toInt (n := cN f_manys pg) (by omega)) (nI_toInt (n := i1) (by omega)) c_66
                refine ww_goto (tgt := 225) C dX12_trueAt_99 (by decide) ?_
                refine ww_iload C dX12_trueAt_225 4 rfl ?_
                refine ww_iload C dX12_trueAt_227 2 rfl ?_
                refine ww_ci (wr := [(hm, .inr (12, [.ref m_manys, .ref m_reals, .ref m_factsOf, .ref m_possible, .int (nI q_undos), .int (nI q_models), .ref m_tape, .int (nI q_taped), .int q_fault, .int q_wrong, .int q_wrongAt, .int q_spot, .int q_place, .int q_token, .int q_value, .ref m_ends, .ref m_letters, .ref m_actOf, .ref m_whom, .ref m_actMany, .ref m_tokens, .ref m_afters, .ref m_afterOf, .int q_counted, .ref m_pile, .ref m_caseMany, .ref m_happen, .ref m_hasIf, .ref m_becomes, .ref m_goneOf, .ref m_heard, .ref m_pairs, .ref m_heaps, .int q_rounds, .int q_heapMany, .ref m_led, .ref m_newAt, .ref m_knowing, .ref m_firsts, .int (nI q_people), .ref m_secrets, .ref m_tried, .ref m_lanes, .ref m_lengths, .ref m_cells])), (m_manys, .inl (E.2.1 1, 18, .inl f_manys)), (m_possible, .inl (E.2.1 1, 1728, .inl f_possible)), (m_factsOf, .inl (E.2.1 1, 432, .inl f_factsOf)), (m_actMany, .inl (E.2.1 1, 25, .inl f_actMany)), (m_actOf, .inl (E.2.1 1, 800, .inl f_actOf)), (m_whom, .inl (E.2.1 1, 800, .inl f_whom)), (m_pile, .inl (E.2.1 1, 34, .inl g1))]) (k' := 0) (n' := 0) C (run_S (As := [.int x_9]) (rest := [.int (nI tt)]) C (r_wantsOf X.2.1 E ro x_9 x_9.toInt rfl) ms_X12_wantsOf wl_X12_215 rfl rfl rfl rfl dX12_trueAt_229) (roK hro) [] [0, 1, 2, 3, 4, 5, 6, 7] rfl rfl rfl rfl (fun r_67 uz hw => ?_)
                rcases hw with ⟨rfl, rfl, h_68⟩ | ⟨rfl, rfl, h_69⟩ | ⟨rfl, rfl, h_70⟩
                · refine ww_eq (ws' := [(hm, .inr (12, [.ref m_manys, .ref m_reals, .ref m_factsOf, .ref m_possible, .int (nI q_undos), .int (nI q_models), .ref m_tape, .int (nI q_taped), .int q_fault, .int q_wrong, .int q_wrongAt, .int q_spot, .int q_place, .int q_token, .int q_value, .ref m_ends, .ref m_letters, .ref m_actOf, .ref m_whom, .ref m_actMany, .ref m_tokens, .ref m_afters, .ref m_afterOf, .int q_counted, .ref m_pile, .ref m_caseMany, .ref m_happen, .ref m_hasIf, .ref m_becomes, .ref m_goneOf, .ref m_heard, .ref m_pairs, .ref m_heaps, .int q_rounds, .int q_heapMany, .ref m_led, .ref m_newAt, .ref m_knowing, .ref m_firsts, .int (nI q_people), .ref m_secrets, .ref m_tried, .ref m_lanes, .ref m_lengths, .ref m_cells])), (m_manys, .inl (E.2.1 1, 18, .inl f_manys)), (m_possible, .inl (E.2.1 1, 1728, .inl f_possible)), (m_factsOf, .inl (E.2.1 1, 432, .inl f_factsOf)), (m_actMany, .inl (E.2.1 1, 25, .inl f_actMany)), (m_actOf, .inl (E.2.1 1, 800, .inl f_actOf)), (m_whom, .inl (E.2.1 1, 800, .inl f_whom)), (m_pile, .inl (E.2.1 1, 34, .inl g1))]) ?_ rfl rfl rfl
                  refine ww_isub (v := (nI (tt - 0))) C dX12_trueAt_232 (pk_sub (a := tt) (b := 0) (by omega)) ?_
                  refine ww_istore (lv' := [(4, .int (nI (tt - 0))), (8, .int (nI i1)), (7, .int ac), (6, .int x_9), (5, .int (nI j_8)), (3, .int r_2), (0, .ref hm), (1, .int (nI sl)), (2, .int (nI pg))]) C dX12_trueAt_233 rfl rfl ?_
                  refine ww_aload_n C dX12_trueAt_235 6 rfl rfl ?_
                  refine ww_get C fg_X12_49 0 rfl rfl dX12_trueAt_236 ?_
                  refine ww_iload C dX12_trueAt_239 0 rfl ?_
                  refine ww_iload C dX12_trueAt_241 2 rfl ?_
                  obtain ⟨f_71, ef_71⟩ : ∃ z : Nat → Int32, upd g1 (tt - 0) ac = z := ⟨_, rfl⟩
                  refine ww_iast (ws' := [(hm, .inr (12, [.ref m_manys, .ref m_reals, .ref m_factsOf, .ref m_possible, .int (nI q_undos), .int (nI q_models), .ref m_tape, .int (nI q_taped), .int q_fault, .int q_wrong, .int q_wrongAt, .int q_spot, .int q_place, .int q_token, .int q_value, .ref m_ends, .ref m_letters, .ref m_actOf, .ref m_whom, .ref m_actMany, .ref m_tokens, .ref m_afters, .ref m_afterOf, .int q_counted, .ref m_pile, .ref m_caseMany, .ref m_happen, .ref m_hasIf, .ref m_becomes, .ref m_goneOf, .ref m_heard, .ref m_pairs, .ref m_heaps, .int q_rounds, .int q_heapMany, .ref m_led, .ref m_newAt, .ref m_knowing, .ref m_firsts, .int (nI q_people), .ref m_secrets, .ref m_tried, .ref m_lanes, .ref m_lengths, .ref m_cells])), (m_manys, .inl (E.2.1 1, 18, .inl f_manys)), (m_possible, .inl (E.2.1 1, 1728, .inl f_possible)), (m_factsOf, .inl (E.2.1 1, 432, .inl f_factsOf)), (m_actMany, .inl (E.2.1 1, 25, .inl f_actMany)), (m_actOf, .inl (E.2.1 1, 800, .inl f_actOf)), (m_whom, .inl (E.2.1 1, 800, .inl f_whom)), (m_pile, .inl (E.2.1 1, 34, .inl f_71))]) C 7 rfl (vp_in_nI (by omega) (by omega)) (ldn2 (by omega) ef_71) rfl dX12_trueAt_243 ?_
                  refine ww_iinc (j := 0) (v := (nI ((tt - 0) + 1))) (lv' := [(4, .int (nI ((tt - 0) + 1))), (8, .int (nI i1)), (7, .int ac), (6, .int x_9), (5, .int (nI j_8)), (3, .int r_2), (0, .ref hm), (1, .int (nI sl)), (2, .int (nI pg))]) C dX12_trueAt_244 rfl (nI_add (tt - 0) 1) rfl rfl ?_
                  obtain ⟨x_72, ex_72⟩ : ∃ z : Int32, (nI j_8) + Int32.ofInt (-1) = z := ⟨_, rfl⟩
                  have zx_72 : x_72.toInt = ((j_8 : Nat) : Int) - 1 := by rw [← ex_72]; exact i_dec (c := 1) (nI_toInt (n := j_8) (by omega)) rfl (by omega) (by omega)
                  refine ww_iinc (j := 4) (v := x_72) (lv' := [(5, .int x_72), (4, .int (nI ((tt - 0) + 1))), (8, .int (nI i1)), (7, .int ac), (6, .int x_9), (3, .int r_2), (0, .ref hm), (1, .int (nI sl)), (2, .int (nI pg))]) C dX12_trueAt_247 rfl ex_72 rfl rfl ?_
                  refine ww_goto (tgt := 23) C dX12_trueAt_250 (by decide) ?_
                  exact ww_lv [0, 1, 5, 6, 7, 8] rfl (ww_sub [0, 1, 2, 3, 4, 5, 6, 7] rfl rfl (ih_23 x_72 j_8 ((tt - 0) + 1) f_71 (by omega) (by omega) (by omega) (by omega)))
                · omega
                · omega
              · have zc_66 : ((i1 : Nat) : Int) < ((cN f_manys pg : Nat) : Int) := i_nle (nI_toInt (n := cN f_manys pg) (by omega)) (nI_toInt (n := i1) (by omega)) c_66
                refine ww_iload C dX12_trueAt_68 1 rfl ?_
                refine ww_aload_n C dX12_trueAt_70 6 rfl rfl ?_
                refine ww_get C fg_X12_16 0 rfl rfl dX12_trueAt_71 ?_
                refine ww_bipush (v := 24) C dX12_trueAt_74 rfl ?_
                refine ww_iload_n C dX12_trueAt_76 8 rfl rfl ?_
                refine ww_imul (v := (nI (24 * pg))) C dX12_trueAt_77 (pk_mul 24 pg) ?_
                refine ww_iload C dX12_trueAt_78 0 rfl ?_
                refine ww_iadd (v := (nI ((24 * pg) + i1))) C dX12_trueAt_80 (nI_add (24 * pg) i1) ?_
                obtain ⟨x_73, ex_73⟩ : ∃ z : Int32, f_factsOf ((24 * pg) + i1) = z := ⟨_, rfl⟩
                refine ww_iald (v := x_73) C 3 rfl (vp_in_nI (by omega) (by omega)) (ldn (by omega) ex_73) dX12_trueAt_81 ?_
                refine ww_iload C dX12_trueAt_82 2 rfl ?_
                obtain ⟨x_74, ex_74⟩ : ∃ z : Int32, x_73 >>> (x_9 &&& 31) = z := ⟨_, rfl⟩
                refine ww_ishr (v := x_74) C dX12_trueAt_84 ex_74 ?_
                refine ww_iconst (v := 1) C dX12_trueAt_85 rfl ?_
                obtain ⟨j_75, hj_75, ej_75⟩ := pk_andE x_74 (m := 1) 1 rfl
                refine ww_iand (v := (nI j_75)) C dX12_trueAt_86 ej_75 ?_
                refine ww_iload C dX12_trueAt_87 0 rfl ?_
                obtain ⟨x_76, ex_76⟩ : ∃ z : Int32, (nI j_75) <<< ((nI i1) &&& 31) = z := ⟨_, rfl⟩
                refine ww_ishl (v := x_76) C dX12_trueAt_89 ex_76 ?_
                obtain ⟨x_77, ex_77⟩ : ∃ z : Int32, ac ||| x_76 = z := ⟨_, rfl⟩
                refine ww_ior (v := x_77) C dX12_trueAt_90 ex_77 ?_
                refine ww_istore (lv' := [(7, .int x_77), (8, .int (nI i1)), (6, .int x_9), (5, .int (nI j_8)), (4, .int (nI tt)), (3, .int r_2), (0, .ref hm), (1, .int (nI sl)), (2, .int (nI pg))]) C dX12_trueAt_91 rfl rfl ?_
                refine ww_iinc (j := 1) (v := (nI (i1 + 1))) (lv' := [(8, .int (nI (i1 + 1))), (7, .int x_77), (6, .int x_9), (5, .int (nI j_8)), (4, .int (nI tt)), (3, .int r_2), (0, .ref hm), (1, .int (nI sl)), (2, .int (nI pg))]) C dX12_trueAt_93 rfl (nI_add i1 1) rfl rfl ?_
                refine ww_goto (tgt := 57) C dX12_trueAt_96 (by decide) ?_
                exact ww_lv [0, 1, 2, 3, 4, 5, 6, 7, 8] rfl (ww_sub [0, 1, 2, 3, 4, 5, 6, 7] rfl rfl (ih_57 (i1 + 1) x_77 (by omega) (by omega)))
          exact ww_lv [0, 1, 2, 3, 4, 5, 6, 7, 8] rfl (ww_sub [0, 1, 2, 3, 4, 5, 6, 7] rfl rfl (loop_57 _ 0 0 (by omega) (Nat.lt_succ_self _)))
  exact ww_lv [0, 1, 2, 3, 4, 5] rfl (ww_sub [0, 1, 2, 3, 4, 5, 6, 7] rfl rfl (loop_23 _ x_5 (cN f_actMany sl) 0 f_pile (by omega) (by omega) (by have := hwr.2.2; omega) (Nat.lt_succ_self _)))
