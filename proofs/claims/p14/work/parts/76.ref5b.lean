section
theorem dX12_say_0 : decode cX12_say 0 = .ok (.iload_n 1, 1) := dl_27 (by decide +kernel)
theorem dX12_say_1 : decode cX12_say 1 = .ok (.i2l, 1) := dl_133 (by decide +kernel)
theorem dX12_say_2 : decode cX12_say 2 = .ok (.lconst 0, 1) := dl_9 (by decide +kernel)
theorem dX12_say_3 : decode cX12_say 3 = .ok (.ldc2_w 207, 3) := dl_20 (by decide +kernel)
theorem wv_X12_207 : Cond.constantLong RX12 207 7 ∈ TB := tbm (tq6 (List.mem_of_getElem? (i := 52) (by decide +kernel))) (by decide +kernel)
theorem dX12_say_6 : decode cX12_say 6 = .ok (.invokestatic 115, 3) := dl_184 (by decide +kernel)
theorem dX12_say_9 : decode cX12_say 9 = .ok (.ifCond .ne 5, 3) := dl_154 (by decide +kernel)
theorem dX12_say_14 : decode cX12_say 14 = .ok (.aload_n 0, 1) := dl_42 (by decide +kernel)
theorem dX12_say_15 : decode cX12_say 15 = .ok (.iconst 0, 1) := dl_3 (by decide +kernel)
theorem dX12_say_16 : decode cX12_say 16 = .ok (.putfield 157, 3) := dl_181 (by decide +kernel)
theorem dX12_say_19 : decode cX12_say 19 = .ok (.aload_n 0, 1) := dl_42 (by decide +kernel)
theorem dX12_say_20 : decode cX12_say 20 = .ok (.iconst 0, 1) := dl_3 (by decide +kernel)
theorem dX12_say_21 : decode cX12_say 21 = .ok (.putfield 166, 3) := dl_181 (by decide +kernel)
theorem dX12_say_24 : decode cX12_say 24 = .ok (.aload_n 0, 1) := dl_42 (by decide +kernel)
theorem dX12_say_25 : decode cX12_say 25 = .ok (.iconst 0, 1) := dl_3 (by decide +kernel)
theorem dX12_say_26 : decode cX12_say 26 = .ok (.putfield 191, 3) := dl_181 (by decide +kernel)
theorem dX12_say_29 : decode cX12_say 29 = .ok (.aload_n 0, 1) := dl_42 (by decide +kernel)
theorem dX12_say_30 : decode cX12_say 30 = .ok (.getfield 37, 3) := dl_180 (by decide +kernel)
theorem dX12_say_33 : decode cX12_say 33 = .ok (.bipush 24, 2) := dl_16 (by decide +kernel)
theorem dX12_say_35 : decode cX12_say 35 = .ok (.iconst 0, 1) := dl_3 (by decide +kernel)
theorem dX12_say_36 : decode cX12_say 36 = .ok (.iastore, 1) := dl_79 (by decide +kernel)
theorem dX12_say_37 : decode cX12_say 37 = .ok (.aload_n 0, 1) := dl_42 (by decide +kernel)
theorem dX12_say_38 : decode cX12_say 38 = .ok (.getfield 43, 3) := dl_180 (by decide +kernel)
theorem dX12_say_41 : decode cX12_say 41 = .ok (.bipush 8, 2) := dl_16 (by decide +kernel)
theorem dX12_say_43 : decode cX12_say 43 = .ok (.iconst 0, 1) := dl_3 (by decide +kernel)
theorem dX12_say_44 : decode cX12_say 44 = .ok (.iastore, 1) := dl_79 (by decide +kernel)
theorem dX12_say_45 : decode cX12_say 45 = .ok (.aload_n 0, 1) := dl_42 (by decide +kernel)
theorem dX12_say_46 : decode cX12_say 46 = .ok (.invokevirtual 201, 3) := dl_182 (by decide +kernel)
theorem dX12_say_49 : decode cX12_say 49 = .ok (.aload_n 0, 1) := dl_42 (by decide +kernel)
theorem dX12_say_50 : decode cX12_say 50 = .ok (.invokevirtual 209, 3) := dl_182 (by decide +kernel)
theorem wl_X12_209 : Cond.methodLink RX12 209 yX12_readAfters ∈ TB := tbm (tq6 (List.mem_of_getElem? (i := 69) (by decide +kernel))) (by decide +kernel)
theorem wc_X12_readAfters : Cond.code yX12_readAfters cX12_readAfters 1 none ∈ TB := tbm (tq6 (List.mem_of_getElem? (i := 72) (rfl))) (by decide +kernel)
theorem wi_X12_readAfters : Cond.instanceMethod yX12_readAfters ∈ TB := tbm (tq6 (List.mem_of_getElem? (i := 71) (by decide +kernel))) (by decide +kernel)
theorem ws_X12_readAfters : Cond.selects RX12 yX12_readAfters yX12_readAfters ∈ TB := tbm (tq0 (List.mem_of_getElem? (i := 46) (by decide +kernel))) (by decide +kernel)
theorem mi_X12_readAfters : MI yX12_readAfters cX12_readAfters 1 none 0 := ⟨wc_X12_readAfters, wn_X12, ⟨by decide +kernel, by decide +kernel, by decide +kernel⟩, wi_X12_readAfters, ws_X12_readAfters⟩
theorem dX12_say_53 : decode cX12_say 53 = .ok (.iconst 1, 1) := dl_4 (by decide +kernel)
theorem dX12_say_54 : decode cX12_say 54 = .ok (.istore_n 2, 1) := dl_61 (by decide +kernel)
theorem dX12_say_55 : decode cX12_say 55 = .ok (.aload_n 0, 1) := dl_42 (by decide +kernel)
theorem dX12_say_56 : decode cX12_say 56 = .ok (.getfield 157, 3) := dl_180 (by decide +kernel)
theorem dX12_say_59 : decode cX12_say 59 = .ok (.ifCond .ne 51, 3) := dl_154 (by decide +kernel)
theorem dX12_say_110 : decode cX12_say 110 = .ok (.aload_n 0, 1) := dl_42 (by decide +kernel)
theorem dX12_say_111 : decode cX12_say 111 = .ok (.getfield 157, 3) := dl_180 (by decide +kernel)
theorem dX12_say_114 : decode cX12_say 114 = .ok (.ifCond .ne 15, 3) := dl_154 (by decide +kernel)
theorem dX12_say_117 : decode cX12_say 117 = .ok (.aload_n 0, 1) := dl_42 (by decide +kernel)
theorem dX12_say_118 : decode cX12_say 118 = .ok (.getfield 175, 3) := dl_180 (by decide +kernel)
theorem dX12_say_121 : decode cX12_say 121 = .ok (.ifCond .eq 8, 3) := dl_153 (by decide +kernel)
theorem dX12_say_129 : decode cX12_say 129 = .ok (.aload_n 0, 1) := dl_42 (by decide +kernel)
theorem dX12_say_130 : decode cX12_say 130 = .ok (.iconst 0, 1) := dl_3 (by decide +kernel)
theorem dX12_say_131 : decode cX12_say 131 = .ok (.putfield 154, 3) := dl_181 (by decide +kernel)
theorem dX12_say_134 : decode cX12_say 134 = .ok (.aload_n 0, 1) := dl_42 (by decide +kernel)
theorem dX12_say_135 : decode cX12_say 135 = .ok (.aload_n 0, 1) := dl_42 (by decide +kernel)
theorem dX12_say_136 : decode cX12_say 136 = .ok (.getfield 157, 3) := dl_180 (by decide +kernel)
theorem dX12_say_139 : decode cX12_say 139 = .ok (.putfield 218, 3) := dl_181 (by decide +kernel)
theorem wf_X12_218 : Cond.fieldLink RX12 218 RX12 "fault" "I" ∈ TB := tbm (tq5 (List.mem_of_getElem? (i := 86) (by decide +kernel))) (by decide +kernel)
theorem fp_X12_218 : FP RX12 218 12 8 .int false := ⟨RX12, TX12, 45, tyX12, uw_X12, wf_X12_218, rfl, by decide, rfl, tyX12_ok, nmX12, rfl, by decide +kernel⟩
theorem dX12_say_142 : decode cX12_say 142 = .ok (.aload_n 0, 1) := dl_42 (by decide +kernel)
theorem dX12_say_143 : decode cX12_say 143 = .ok (.getfield 157, 3) := dl_180 (by decide +kernel)
theorem dX12_say_146 : decode cX12_say 146 = .ok (.ifCond .le 11, 3) := dl_158 (by decide +kernel)
theorem dX12_say_157 : decode cX12_say 157 = .ok (.aload_n 0, 1) := dl_42 (by decide +kernel)
theorem dX12_say_158 : decode cX12_say 158 = .ok (.bipush 24, 2) := dl_16 (by decide +kernel)
theorem dX12_say_160 : decode cX12_say 160 = .ok (.iload_n 1, 1) := dl_27 (by decide +kernel)
theorem dX12_say_161 : decode cX12_say 161 = .ok (.invokevirtual 221, 3) := dl_182 (by decide +kernel)
theorem wl_X12_221 : Cond.methodLink RX12 221 yX12_copyActs ∈ TB := tbm (tq6 (List.mem_of_getElem? (i := 93) (by decide +kernel))) (by decide +kernel)
theorem wc_X12_copyActs : Cond.code yX12_copyActs cX12_copyActs 4 none ∈ TB := tbm (tq6 (List.mem_of_getElem? (i := 96) (rfl))) (by decide +kernel)
theorem wi_X12_copyActs : Cond.instanceMethod yX12_copyActs ∈ TB := tbm (tq6 (List.mem_of_getElem? (i := 95) (by decide +kernel))) (by decide +kernel)
theorem ws_X12_copyActs : Cond.selects RX12 yX12_copyActs yX12_copyActs ∈ TB := tbm (tq0 (List.mem_of_getElem? (i := 51) (by decide +kernel))) (by decide +kernel)
theorem mi_X12_copyActs : MI yX12_copyActs cX12_copyActs 4 none 2 := ⟨wc_X12_copyActs, wn_X12, ⟨by decide +kernel, by decide +kernel, by decide +kernel⟩, wi_X12_copyActs, ws_X12_copyActs⟩
theorem dX12_say_164 : decode cX12_say 164 = .ok (.aload_n 0, 1) := dl_42 (by decide +kernel)
theorem dX12_say_165 : decode cX12_say 165 = .ok (.getfield 40, 3) := dl_180 (by decide +kernel)
theorem wf_X12_40 : Cond.fieldLink RX12 40 RX12 "tokens" "[I" ∈ TB := tbm (tq5 (List.mem_of_getElem? (i := 98) (by decide +kernel))) (by decide +kernel)
theorem fg_X12_40 : FG RX12 40 12 20 := ⟨RX12, TX12, 45, uw_X12, wf_X12_40, rfl, by decide, rfl⟩
theorem dX12_say_168 : decode cX12_say 168 = .ok (.iload_n 1, 1) := dl_27 (by decide +kernel)
theorem dX12_say_169 : decode cX12_say 169 = .ok (.aload_n 0, 1) := dl_42 (by decide +kernel)
theorem dX12_say_170 : decode cX12_say 170 = .ok (.getfield 191, 3) := dl_180 (by decide +kernel)
theorem dX12_say_173 : decode cX12_say 173 = .ok (.iastore, 1) := dl_79 (by decide +kernel)
theorem dX12_say_174 : decode cX12_say 174 = .ok (.aload_n 0, 1) := dl_42 (by decide +kernel)
theorem dX12_say_175 : decode cX12_say 175 = .ok (.getfield 43, 3) := dl_180 (by decide +kernel)
theorem dX12_say_178 : decode cX12_say 178 = .ok (.iload_n 1, 1) := dl_27 (by decide +kernel)
theorem dX12_say_179 : decode cX12_say 179 = .ok (.aload_n 0, 1) := dl_42 (by decide +kernel)
theorem dX12_say_180 : decode cX12_say 180 = .ok (.getfield 43, 3) := dl_180 (by decide +kernel)
theorem dX12_say_183 : decode cX12_say 183 = .ok (.bipush 8, 2) := dl_16 (by decide +kernel)
theorem dX12_say_185 : decode cX12_say 185 = .ok (.iaload, 1) := dl_46 (by decide +kernel)
theorem dX12_say_186 : decode cX12_say 186 = .ok (.iastore, 1) := dl_79 (by decide +kernel)
theorem dX12_say_187 : decode cX12_say 187 = .ok (.aload_n 0, 1) := dl_42 (by decide +kernel)
theorem dX12_say_188 : decode cX12_say 188 = .ok (.getfield 46, 3) := dl_180 (by decide +kernel)
theorem dX12_say_191 : decode cX12_say 191 = .ok (.iconst 2, 1) := dl_5 (by decide +kernel)
theorem dX12_say_192 : decode cX12_say 192 = .ok (.iload_n 1, 1) := dl_27 (by decide +kernel)
theorem dX12_say_193 : decode cX12_say 193 = .ok (.imul, 1) := dl_104 (by decide +kernel)
theorem dX12_say_194 : decode cX12_say 194 = .ok (.aload_n 0, 1) := dl_42 (by decide +kernel)
theorem dX12_say_195 : decode cX12_say 195 = .ok (.getfield 46, 3) := dl_180 (by decide +kernel)
theorem dX12_say_198 : decode cX12_say 198 = .ok (.bipush 16, 2) := dl_16 (by decide +kernel)
theorem dX12_say_200 : decode cX12_say 200 = .ok (.iaload, 1) := dl_46 (by decide +kernel)
theorem dX12_say_201 : decode cX12_say 201 = .ok (.iastore, 1) := dl_79 (by decide +kernel)
theorem dX12_say_202 : decode cX12_say 202 = .ok (.aload_n 0, 1) := dl_42 (by decide +kernel)
theorem dX12_say_203 : decode cX12_say 203 = .ok (.getfield 46, 3) := dl_180 (by decide +kernel)
theorem dX12_say_206 : decode cX12_say 206 = .ok (.iconst 2, 1) := dl_5 (by decide +kernel)
theorem dX12_say_207 : decode cX12_say 207 = .ok (.iload_n 1, 1) := dl_27 (by decide +kernel)
theorem dX12_say_208 : decode cX12_say 208 = .ok (.imul, 1) := dl_104 (by decide +kernel)
theorem dX12_say_209 : decode cX12_say 209 = .ok (.iconst 1, 1) := dl_4 (by decide +kernel)
theorem dX12_say_210 : decode cX12_say 210 = .ok (.iadd, 1) := dl_96 (by decide +kernel)
theorem dX12_say_211 : decode cX12_say 211 = .ok (.aload_n 0, 1) := dl_42 (by decide +kernel)
theorem dX12_say_212 : decode cX12_say 212 = .ok (.getfield 46, 3) := dl_180 (by decide +kernel)
theorem dX12_say_215 : decode cX12_say 215 = .ok (.bipush 17, 2) := dl_16 (by decide +kernel)
theorem dX12_say_217 : decode cX12_say 217 = .ok (.iaload, 1) := dl_46 (by decide +kernel)
theorem dX12_say_218 : decode cX12_say 218 = .ok (.iastore, 1) := dl_79 (by decide +kernel)
theorem dX12_say_219 : decode cX12_say 219 = .ok (.aload_n 0, 1) := dl_42 (by decide +kernel)
theorem dX12_say_220 : decode cX12_say 220 = .ok (.getfield 191, 3) := dl_180 (by decide +kernel)
theorem dX12_say_223 : decode cX12_say 223 = .ok (.ireturn, 1) := dl_172 (by decide +kernel)
theorem dX12_say_124 : decode cX12_say 124 = .ok (.aload_n 0, 1) := dl_42 (by decide +kernel)
theorem dX12_say_125 : decode cX12_say 125 = .ok (.iconst 2, 1) := dl_5 (by decide +kernel)
theorem dX12_say_126 : decode cX12_say 126 = .ok (.invokevirtual 186, 3) := dl_182 (by decide +kernel)
theorem dX12_say_149 : decode cX12_say 149 = .ok (.bipush (-10), 2) := dl_16 (by decide +kernel)
theorem dX12_say_151 : decode cX12_say 151 = .ok (.aload_n 0, 1) := dl_42 (by decide +kernel)
theorem dX12_say_152 : decode cX12_say 152 = .ok (.getfield 163, 3) := dl_180 (by decide +kernel)
theorem fg_X12_163 : FG RX12 163 12 10 := ⟨RX12, TX12, 45, uw_X12, wf_X12_163, rfl, by decide, rfl⟩
theorem dX12_say_155 : decode cX12_say 155 = .ok (.isub, 1) := dl_100 (by decide +kernel)
theorem dX12_say_156 : decode cX12_say 156 = .ok (.ireturn, 1) := dl_172 (by decide +kernel)
theorem dX12_say_62 : decode cX12_say 62 = .ok (.iload_n 2, 1) := dl_28 (by decide +kernel)
theorem dX12_say_63 : decode cX12_say 63 = .ok (.ifCond .le 47, 3) := dl_158 (by decide +kernel)
theorem dX12_say_66 : decode cX12_say 66 = .ok (.aload_n 0, 1) := dl_42 (by decide +kernel)
theorem dX12_say_67 : decode cX12_say 67 = .ok (.invokevirtual 212, 3) := dl_182 (by decide +kernel)
theorem wl_X12_212 : Cond.methodLink RX12 212 yX12_readAct ∈ TB := tbm (tq6 (List.mem_of_getElem? (i := 77) (by decide +kernel))) (by decide +kernel)
theorem wc_X12_readAct : Cond.code yX12_readAct cX12_readAct 4 none ∈ TB := tbm (tq6 (List.mem_of_getElem? (i := 80) (rfl))) (by decide +kernel)
theorem wi_X12_readAct : Cond.instanceMethod yX12_readAct ∈ TB := tbm (tq6 (List.mem_of_getElem? (i := 79) (by decide +kernel))) (by decide +kernel)
theorem ws_X12_readAct : Cond.selects RX12 yX12_readAct yX12_readAct ∈ TB := tbm (tq0 (List.mem_of_getElem? (i := 48) (by decide +kernel))) (by decide +kernel)
theorem mi_X12_readAct : MI yX12_readAct cX12_readAct 4 none 0 := ⟨wc_X12_readAct, wn_X12, ⟨by decide +kernel, by decide +kernel, by decide +kernel⟩, wi_X12_readAct, ws_X12_readAct⟩
theorem dX12_say_70 : decode cX12_say 70 = .ok (.iload_n 2, 1) := dl_28 (by decide +kernel)
theorem dX12_say_71 : decode cX12_say 71 = .ok (.aload_n 0, 1) := dl_42 (by decide +kernel)
theorem dX12_say_72 : decode cX12_say 72 = .ok (.getfield 157, 3) := dl_180 (by decide +kernel)
theorem dX12_say_75 : decode cX12_say 75 = .ok (.ifCond .ne 29, 3) := dl_154 (by decide +kernel)
theorem dX12_say_78 : decode cX12_say 78 = .ok (.aload_n 0, 1) := dl_42 (by decide +kernel)
theorem dX12_say_79 : decode cX12_say 79 = .ok (.getfield 31, 3) := dl_180 (by decide +kernel)
theorem dX12_say_82 : decode cX12_say 82 = .ok (.sipush 768, 3) := dl_17 (by decide +kernel)
theorem dX12_say_85 : decode cX12_say 85 = .ok (.aload_n 0, 1) := dl_42 (by decide +kernel)
theorem dX12_say_86 : decode cX12_say 86 = .ok (.getfield 37, 3) := dl_180 (by decide +kernel)
theorem dX12_say_89 : decode cX12_say 89 = .ok (.bipush 24, 2) := dl_16 (by decide +kernel)
theorem dX12_say_91 : decode cX12_say 91 = .ok (.iaload, 1) := dl_46 (by decide +kernel)
theorem dX12_say_92 : decode cX12_say 92 = .ok (.iadd, 1) := dl_96 (by decide +kernel)
theorem dX12_say_93 : decode cX12_say 93 = .ok (.iconst 1, 1) := dl_4 (by decide +kernel)
theorem dX12_say_94 : decode cX12_say 94 = .ok (.isub, 1) := dl_100 (by decide +kernel)
theorem dX12_say_95 : decode cX12_say 95 = .ok (.iaload, 1) := dl_46 (by decide +kernel)
theorem dX12_say_96 : decode cX12_say 96 = .ok (.invokestatic 215, 3) := dl_184 (by decide +kernel)
theorem wl_X12_215 : Cond.methodLink RX12 215 yX12_wantsOf ∈ TB := tbm (tq6 (List.mem_of_getElem? (i := 90) (by decide +kernel))) (by decide +kernel)
theorem wc_X12_wantsOf : Cond.code yX12_wantsOf cX12_wantsOf 1 (some .int) ∈ TB := tbm (tq6 (List.mem_of_getElem? (i := 92) (rfl))) (by decide +kernel)
theorem wt_X12_wantsOf : Cond.static yX12_wantsOf ∈ TB := tbm (tq6 (List.mem_of_getElem? (i := 91) (by decide +kernel))) (by decide +kernel)
theorem ms_X12_wantsOf : MS yX12_wantsOf cX12_wantsOf 1 (some .int) 1 := ⟨wc_X12_wantsOf, wn_X12, ⟨by decide +kernel, by decide +kernel, by decide +kernel⟩, wt_X12_wantsOf⟩
theorem dX12_say_99 : decode cX12_say 99 = .ok (.iconst 1, 1) := dl_4 (by decide +kernel)
theorem dX12_say_100 : decode cX12_say 100 = .ok (.isub, 1) := dl_100 (by decide +kernel)
theorem dX12_say_101 : decode cX12_say 101 = .ok (.goto 4, 3) := dl_167 (by decide +kernel)
theorem dX12_say_105 : decode cX12_say 105 = .ok (.iadd, 1) := dl_96 (by decide +kernel)
theorem dX12_say_106 : decode cX12_say 106 = .ok (.istore_n 2, 1) := dl_61 (by decide +kernel)
theorem dX12_say_107 : decode cX12_say 107 = .ok (.goto (-52), 3) := dl_167 (by decide +kernel)
theorem dX12_say_104 : decode cX12_say 104 = .ok (.iconst 0, 1) := dl_3 (by decide +kernel)
theorem dX12_say_12 : decode cX12_say 12 = .ok (.iconst (-1), 1) := dl_2 (by decide +kernel)
theorem dX12_say_13 : decode cX12_say 13 = .ok (.ireturn, 1) := dl_172 (by decide +kernel)
set_option maxRecDepth 100000 in
set_option maxHeartbeats 4000000 in
theorem y_say (l : Launch) (E : EV) (ro : va_W) (hm : Nat) (v0 : Int32) (m_manys : Nat) (m_reals : Nat) (m_factsOf : Nat) (m_possible : Nat) (q_undos : Nat) (q_models : Nat) (m_tape : Nat) (q_taped : Nat) (q_fault : Int32) (q_wrong : Int32) (q_wrongAt : Int32) (q_spot : Int32) (q_place : Int32) (q_token : Nat) (q_value : Nat) (m_ends : Nat) (m_letters : Nat) (m_actOf : Nat) (m_whom : Nat) (m_actMany : Nat) (m_tokens : Nat) (m_afters : Nat) (m_afterOf : Nat) (q_counted : Int32) (m_pile : Nat) (m_caseMany : Nat) (m_happen : Nat) (m_hasIf : Nat) (m_becomes : Nat) (m_goneOf : Nat) (m_heard : Nat) (m_pairs : Nat) (m_heaps : Nat) (q_rounds : Int32) (q_heapMany : Int32) (m_led : Nat) (m_newAt : Nat) (m_knowing : Nat) (m_firsts : Nat) (q_people : Nat) (m_secrets : Nat) (m_tried : Nat) (m_lanes : Nat) (m_lengths : Nat) (m_cells : Nat) (f_tape : Nat → Int32) (f_ends : Nat → Int32) (f_letters : Nat → Int32) (f_actMany : Nat → Int32) (f_actOf : Nat → Int32) (f_whom : Nat → Int32) (f_tokens : Nat → Int32) (f_afters : Nat → Int32) (f_afterOf : Nat → Int32) (hb_tape : NB 160 255 f_tape) (hb_ends : EN f_ends) (hb_letters : LTR f_letters) (hb_actMany : NB 25 32 f_actMany) (hb_afters : NB 9 2 f_afters) (hb_afterOf : NB 18 3 f_afterOf) (hsv : SV f_actOf f_actMany) (hq_taped : q_taped ≤ 160) (hq_value : q_value ≤ 9) (hq_token : q_token ≤ 2) : CT l yX12_say (Cond.code yX12_say cX12_say 3 (some .int) :: TB) ({ frames := 3, cells := 0, slots := 0, locals := 72 }) E ro [.ref hm, .int v0] [(hm, .inr (12, [.ref m_manys, .ref m_reals, .ref m_factsOf, .ref m_possible, .int (nI q_undos), .int (nI q_models), .ref m_tape, .int (nI q_taped), .int q_fault, .int q_wrong, .int q_wrongAt, .int q_spot, .int q_place, .int (nI q_token), .int (nI q_value), .ref m_ends, .ref m_letters, .ref m_actOf, .ref m_whom, .ref m_actMany, .ref m_tokens, .ref m_afters, .ref m_afterOf, .int q_counted, .ref m_pile, .ref m_caseMany, .ref m_happen, .ref m_hasIf, .ref m_becomes, .ref m_goneOf, .ref m_heard, .ref m_pairs, .ref m_heaps, .int q_rounds, .int q_heapMany, .ref m_led, .ref m_newAt, .ref m_knowing, .ref m_firsts, .int (nI q_people), .ref m_secrets, .ref m_tried, .ref m_lanes, .ref m_lengths, .ref m_cells])), (m_tape, .inl (E.2.1 1, 160, .inl f_tape)), (m_ends, .inl (E.2.1 1, 15, .inl f_ends)), (m_letters, .inl (E.2.1 1, 50, .inl f_letters)), (m_actMany, .inl (E.2.1 1, 25, .inl f_actMany)), (m_actOf, .inl (E.2.1 1, 800, .inl f_actOf)), (m_whom, .inl (E.2.1 1, 800, .inl f_whom)), (m_tokens, .inl (E.2.1 1, 9, .inl f_tokens)), (m_afters, .inl (E.2.1 1, 9, .inl f_afters)), (m_afterOf, .inl (E.2.1 1, 18, .inl f_afterOf))] (Qi E (fun (rz : Int32) uz => (rz = (-1) ∧ uz = [(hm, .inr (12, [.ref m_manys, .ref m_reals, .ref m_factsOf, .ref m_possible, .int (nI q_undos), .int (nI q_models), .ref m_tape, .int (nI q_taped), .int q_fault, .int q_wrong, .int q_wrongAt, .int q_spot, .int q_place, .int (nI q_token), .int (nI q_value), .ref m_ends, .ref m_letters, .ref m_actOf, .ref m_whom, .ref m_actMany, .ref m_tokens, .ref m_afters, .ref m_afterOf, .int q_counted, .ref m_pile, .ref m_caseMany, .ref m_happen, .ref m_hasIf, .ref m_becomes, .ref m_goneOf, .ref m_heard, .ref m_pairs, .ref m_heaps, .int q_rounds, .int q_heapMany, .ref m_led, .ref m_newAt, .ref m_knowing, .ref m_firsts, .int (nI q_people), .ref m_secrets, .ref m_tried, .ref m_lanes, .ref m_lengths, .ref m_cells])), (m_tape, .inl (E.2.1 1, 160, .inl f_tape)), (m_ends, .inl (E.2.1 1, 15, .inl f_ends)), (m_letters, .inl (E.2.1 1, 50, .inl f_letters)), (m_actMany, .inl (E.2.1 1, 25, .inl f_actMany)), (m_actOf, .inl (E.2.1 1, 800, .inl f_actOf)), (m_whom, .inl (E.2.1 1, 800, .inl f_whom)), (m_tokens, .inl (E.2.1 1, 9, .inl f_tokens)), (m_afters, .inl (E.2.1 1, 9, .inl f_afters)), (m_afterOf, .inl (E.2.1 1, 18, .inl f_afterOf))] ∧ (v0.toInt < 0 ∨ 7 < v0.toInt)) ∨ (∃ (fa_ : Int32) (wr_ : Int32) (wa_ : Int32) (sp_ : Int32) (pl_ : Int32) (ct_ : Int32) (tk2 : Nat) (vl2 : Nat) (f_actManyz : Nat → Int32) (f_actOfz : Nat → Int32) (f_whomz : Nat → Int32) (f_tokensz : Nat → Int32) (f_aftersz : Nat → Int32) (f_afterOfz : Nat → Int32) (l_ : Nat), rz = ((-10 : Int32) - nI l_) ∧ uz = [(hm, .inr (12, [.ref m_manys, .ref m_reals, .ref m_factsOf, .ref m_possible, .int (nI q_undos), .int (nI q_models), .ref m_tape, .int 0, .int fa_, .int wr_, .int wa_, .int sp_, .int pl_, .int (nI tk2), .int (nI vl2), .ref m_ends, .ref m_letters, .ref m_actOf, .ref m_whom, .ref m_actMany, .ref m_tokens, .ref m_afters, .ref m_afterOf, .int ct_, .ref m_pile, .ref m_caseMany, .ref m_happen, .ref m_hasIf, .ref m_becomes, .ref m_goneOf, .ref m_heard, .ref m_pairs, .ref m_heaps, .int q_rounds, .int q_heapMany, .ref m_led, .ref m_newAt, .ref m_knowing, .ref m_firsts, .int (nI q_people), .ref m_secrets, .ref m_tried, .ref m_lanes, .ref m_lengths, .ref m_cells])), (m_tape, .inl (E.2.1 1, 160, .inl f_tape)), (m_ends, .inl (E.2.1 1, 15, .inl f_ends)), (m_letters, .inl (E.2.1 1, 50, .inl f_letters)), (m_actMany, .inl (E.2.1 1, 25, .inl f_actManyz)), (m_actOf, .inl (E.2.1 1, 800, .inl f_actOfz)), (m_whom, .inl (E.2.1 1, 800, .inl f_whomz)), (m_tokens, .inl (E.2.1 1, 9, .inl f_tokensz)), (m_afters, .inl (E.2.1 1, 9, .inl f_aftersz)), (m_afterOf, .inl (E.2.1 1, 18, .inl f_afterOfz))] ∧ (NB 25 32 f_actManyz) ∧ (NB 9 2 f_aftersz) ∧ (NB 18 3 f_afterOfz) ∧ (SV f_actOfz f_actManyz) ∧ (tk2 ≤ 2) ∧ (vl2 ≤ 9) ∧ (0 ≤ v0.toInt) ∧ (v0.toInt ≤ 7) ∧ (SBAD (cz f_tape q_taped) l_) ∧ (KP 768 f_actOf f_actOfz) ∧ (KP 768 f_whom f_whomz) ∧ (KP 24 f_actMany f_actManyz) ∧ (KP 8 f_afters f_aftersz) ∧ (KP 16 f_afterOf f_afterOfz) ∧ (f_tokensz = f_tokens)) ∨ (∃ (fa_ : Int32) (wr_ : Int32) (wa_ : Int32) (sp_ : Int32) (pl_ : Int32) (tk2 : Nat) (vl2 : Nat) (cn_ : Nat) (f_actManyz : Nat → Int32) (f_actOfz : Nat → Int32) (f_whomz : Nat → Int32) (f_tokensz : Nat → Int32) (f_aftersz : Nat → Int32) (f_afterOfz : Nat → Int32) (jk_ : Nat) (p_ : Nat) (na_ : Nat) (v_ : Nat) (w_ : Nat) (K_ : Nat), rz = (nI cn_) ∧ uz = [(hm, .inr (12, [.ref m_manys, .ref m_reals, .ref m_factsOf, .ref m_possible, .int (nI q_undos), .int (nI q_models), .ref m_tape, .int 0, .int fa_, .int wr_, .int wa_, .int sp_, .int pl_, .int (nI tk2), .int (nI vl2), .ref m_ends, .ref m_letters, .ref m_actOf, .ref m_whom, .ref m_actMany, .ref m_tokens, .ref m_afters, .ref m_afterOf, .int (nI cn_), .ref m_pile, .ref m_caseMany, .ref m_happen, .ref m_hasIf, .ref m_becomes, .ref m_goneOf, .ref m_heard, .ref m_pairs, .ref m_heaps, .int q_rounds, .int q_heapMany, .ref m_led, .ref m_newAt, .ref m_knowing, .ref m_firsts, .int (nI q_people), .ref m_secrets, .ref m_tried, .ref m_lanes, .ref m_lengths, .ref m_cells])), (m_tape, .inl (E.2.1 1, 160, .inl f_tape)), (m_ends, .inl (E.2.1 1, 15, .inl f_ends)), (m_letters, .inl (E.2.1 1, 50, .inl f_letters)), (m_actMany, .inl (E.2.1 1, 25, .inl f_actManyz)), (m_actOf, .inl (E.2.1 1, 800, .inl f_actOfz)), (m_whom, .inl (E.2.1 1, 800, .inl f_whomz)), (m_tokens, .inl (E.2.1 1, 9, .inl f_tokensz)), (m_afters, .inl (E.2.1 1, 9, .inl f_aftersz)), (m_afterOf, .inl (E.2.1 1, 18, .inl f_afterOfz))] ∧ (NB 25 32 f_actManyz) ∧ (NB 9 2 f_aftersz) ∧ (NB 18 3 f_afterOfz) ∧ (SV f_actOfz f_actManyz) ∧ (tk2 ≤ 2) ∧ (vl2 ≤ 9) ∧ (v0 = nI jk_) ∧ (jk_ ≤ 7) ∧ (SOK (cz f_tape q_taped) p_ na_ v_ w_ K_ cn_) ∧ (∀ i, i < K_ → f_actOfz (32 * jk_ + i) = nI (aI (cz f_tape q_taped) p_ i)) ∧ (∀ i, i < K_ → f_whomz (32 * jk_ + i) = nI (gI (cz f_tape q_taped) p_ i)) ∧ (∀ i, i < K_ → aI (cz f_tape q_taped) p_ i < 13 ∧ gI (cz f_tape q_taped) p_ i < 16) ∧ (∀ j, j < 768 → (j < 32 * jk_ ∨ 32 * jk_ + 32 ≤ j) → f_actOfz j = f_actOf j) ∧ (∀ j, j < 768 → (j < 32 * jk_ ∨ 32 * jk_ + 32 ≤ j) → f_whomz j = f_whom j) ∧ (cN f_actManyz jk_ = K_ ∧ ∀ j, j < 24 → j ≠ jk_ → cN f_actManyz j = cN f_actMany j) ∧ (upd f_tokens jk_ (nI cn_) = f_tokensz) ∧ (f_aftersz jk_ = nI na_ ∧ ∀ j, j < 8 → j ≠ jk_ → f_aftersz j = f_afters j) ∧ ((0 < na_ → f_afterOfz (2 * jk_) = nI v_) ∧ (1 < na_ → f_afterOfz (2 * jk_ + 1) = nI w_) ∧ ∀ j, j < 16 → j ≠ 2 * jk_ → j ≠ 2 * jk_ + 1 → f_afterOfz j = f_afterOf j) ∧ (cn_ ≤ 32) ∧ (na_ ≤ 2) ∧ (K_ ≤ cn_)))) 0 0 := by
  refine ct_of rfl rfl ?_
  intro X C hT hin hro
  show WW X 3 E 0 [(0, .ref hm), (1, .int v0)] [] [(hm, .inr (12, [.ref m_manys, .ref m_reals, .ref m_factsOf, .ref m_possible, .int (nI q_undos), .int (nI q_models), .ref m_tape, .int (nI q_taped), .int q_fault, .int q_wrong, .int q_wrongAt, .int q_spot, .int q_place, .int (nI q_token), .int (nI q_value), .ref m_ends, .ref m_letters, .ref m_actOf, .ref m_whom, .ref m_actMany, .ref m_tokens, .ref m_afters, .ref m_afterOf, .int q_counted, .ref m_pile, .ref m_caseMany, .ref m_happen, .ref m_hasIf, .ref m_becomes, .ref m_goneOf, .ref m_heard, .ref m_pairs, .ref m_heaps, .int q_rounds, .int q_heapMany, .ref m_led, .ref m_newAt, .ref m_knowing, .ref m_firsts, .int (nI q_people), .ref m_secrets, .ref m_tried, .ref m_lanes, .ref m_lengths, .ref m_cells])), (m_tape, .inl (E.2.1 1, 160, .inl f_tape)), (m_ends, .inl (E.2.1 1, 15, .inl f_ends)), (m_letters, .inl (E.2.1 1, 50, .inl f_letters)), (m_actMany, .inl (E.2.1 1, 25, .inl f_actMany)), (m_actOf, .inl (E.2.1 1, 800, .inl f_actOf)), (m_whom, .inl (E.2.1 1, 800, .inl f_whom)), (m_tokens, .inl (E.2.1 1, 9, .inl f_tokens)), (m_afters, .inl (E.2.1 1, 9, .inl f_afters)), (m_afterOf, .inl (E.2.1 1, 18, .inl f_afterOf))] 0 0
  refine ww_iload_n C dX12_say_0 1 rfl rfl ?_
  refine ww_i2l (v := v0.toInt64) C dX12_say_1 rfl ?_
  refine ww_lconst (v := 0) C dX12_say_2 rfl ?_
  refine ww_ldc2 C wv_X12_207 dX12_say_3 ?_
  refine ww_ci (wr := [(hm, .inr (12, [.ref m_manys, .ref m_reals, .ref m_factsOf, .ref m_possible, .int (nI q_undos), .int (nI q_models), .ref m_tape, .int (nI q_taped), .int q_fault, .int q_wrong, .int q_wrongAt, .int q_spot, .int q_place, .int (nI q_token), .int (nI q_value), .ref m_ends, .ref m_letters, .ref m_actOf, .ref m_whom, .ref m_actMany, .ref m_tokens, .ref m_afters, .ref m_afterOf, .int q_counted, .ref m_pile, .ref m_caseMany, .ref m_happen, .ref m_hasIf, .ref m_becomes, .ref m_goneOf, .ref m_heard, .ref m_pairs, .ref m_heaps, .int q_rounds, .int q_heapMany, .ref m_led, .ref m_newAt, .ref m_knowing, .ref m_firsts, .int (nI q_people), .ref m_secrets, .ref m_tried, .ref m_lanes, .ref m_lengths, .ref m_cells])), (m_tape, .inl (E.2.1 1, 160, .inl f_tape)), (m_ends, .inl (E.2.1 1, 15, .inl f_ends)), (m_letters, .inl (E.2.1 1, 50, .inl f_letters)), (m_actMany, .inl (E.2.1 1, 25, .inl f_actMany)), (m_actOf, .inl (E.2.1 1, 800, .inl f_actOf)), (m_whom, .inl (E.2.1 1, 800, .inl f_whom)), (m_tokens, .inl (E.2.1 1, 9, .inl f_tokens)), (m_afters, .inl (E.2.1 1, 9, .inl f_afters)), (m_afterOf, .inl (E.2.1 1, 18, .inl f_afterOf))]) (k' := 0) (n' := 0) C (run_S (As := [.long v0.toInt64, .long 0, .long 7]) (rest := []) C (r_in X.2.1 E ro v0.toInt64 0 7 v0.toInt 0 7 (Int32.toInt_toInt64 _) rfl rfl) ms_X12_in wl_X12_115 rfl rfl rfl rfl dX12_say_6) (roK hro) [] [0, 1, 2, 3, 4, 5, 6, 7, 8, 9] rfl (gqk (by eq_refl)) (plk (by decide +kernel)) rfl (fun r_1 uz hw => ?_)
  rcases hw with hw | hw
  · refine an3 hw ?_
    clear hw
    intro he_4 he_5 h_2 hw
    have h_3 := hw
    clear hw
    have he_4 := he_4.symm
    subst he_4
    subst he_5
    refine ww_eq (ws' := [(hm, .inr (12, [.ref m_manys, .ref m_reals, .ref m_factsOf, .ref m_possible, .int (nI q_undos), .int (nI q_models), .ref m_tape, .int (nI q_taped), .int q_fault, .int q_wrong, .int q_wrongAt, .int q_spot, .int q_place, .int (nI q_token), .int (nI q_value), .ref m_ends, .ref m_letters, .ref m_actOf, .ref m_whom, .ref m_actMany, .ref m_tokens, .ref m_afters, .ref m_afterOf, .int q_counted, .ref m_pile, .ref m_caseMany, .ref m_happen, .ref m_hasIf, .ref m_becomes, .ref m_goneOf, .ref m_heard, .ref m_pairs, .ref m_heaps, .int q_rounds, .int q_heapMany, .ref m_led, .ref m_newAt, .ref m_knowing, .ref m_firsts, .int (nI q_people), .ref m_secrets, .ref m_tried, .ref m_lanes, .ref m_lengths, .ref m_cells])), (m_tape, .inl (E.2.1 1, 160, .inl f_tape)), (m_ends, .inl (E.2.1 1, 15, .inl f_ends)), (m_letters, .inl (E.2.1 1, 50, .inl f_letters)), (m_actMany, .inl (E.2.1 1, 25, .inl f_actMany)), (m_actOf, .inl (E.2.1 1, 800, .inl f_actOf)), (m_whom, .inl (E.2.1 1, 800, .inl f_whom)), (m_tokens, .inl (E.2.1 1, 9, .inl f_tokens)), (m_afters, .inl (E.2.1 1, 9, .inl f_afters)), (m_afterOf, .inl (E.2.1 1, 18, .inl f_afterOf))]) ?_ rfl rfl rfl
    refine ww_if_ne_t (tgt := 14) C dX12_say_9 (by decide) (by decide) ?_
    refine ww_aload_n C dX12_say_14 0 rfl rfl ?_
    refine ww_iconst (v := 0) C dX12_say_15 rfl ?_
    refine ww_put (ws' := [(hm, .inr (12, [.ref m_manys, .ref m_reals, .ref m_factsOf, .ref m_possible, .int (nI q_undos), .int (nI q_models), .ref m_tape, .int (nI q_taped), .int q_fault, .int 0, .int q_wrongAt, .int q_spot, .int q_place, .int (nI q_token), .int (nI q_value), .ref m_ends, .ref m_letters, .ref m_actOf, .ref m_whom, .ref m_actMany, .ref m_tokens, .ref m_afters, .ref m_afterOf, .int q_counted, .ref m_pile, .ref m_caseMany, .ref m_happen, .ref m_hasIf, .ref m_becomes, .ref m_goneOf, .ref m_heard, .ref m_pairs, .ref m_heaps, .int q_rounds, .int q_heapMany, .ref m_led, .ref m_newAt, .ref m_knowing, .ref m_firsts, .int (nI q_people), .ref m_secrets, .ref m_tried, .ref m_lanes, .ref m_lengths, .ref m_cells])), (m_tape, .inl (E.2.1 1, 160, .inl f_tape)), (m_ends, .inl (E.2.1 1, 15, .inl f_ends)), (m_letters, .inl (E.2.1 1, 50, .inl f_letters)), (m_actMany, .inl (E.2.1 1, 25, .inl f_actMany)), (m_actOf, .inl (E.2.1 1, 800, .inl f_actOf)), (m_whom, .inl (E.2.1 1, 800, .inl f_whom)), (m_tokens, .inl (E.2.1 1, 9, .inl f_tokens)), (m_afters, .inl (E.2.1 1, 9, .inl f_afters)), (m_afterOf, .inl (E.2.1 1, 18, .inl f_afterOf))]) C fp_X12_157 0 rfl rfl rfl rfl rfl dX12_say_16 ?_
    refine ww_aload_n C dX12_say_19 0 rfl rfl ?_
    refine ww_iconst (v := 0) C dX12_say_20 rfl ?_
    refine ww_put (ws' := [(hm, .inr (12, [.ref m_manys, .ref m_reals, .ref m_factsOf, .ref m_possible, .int (nI q_undos), .int (nI q_models), .ref m_tape, .int (nI q_taped), .int q_fault, .int 0, .int q_wrongAt, .int 0, .int q_place, .int (nI q_token), .int (nI q_value), .ref m_ends, .ref m_letters, .ref m_actOf, .ref m_whom, .ref m_actMany, .ref m_tokens, .ref m_afters, .ref m_afterOf, .int q_counted, .ref m_pile, .ref m_caseMany, .ref m_happen, .ref m_hasIf, .ref m_becomes, .ref m_goneOf, .ref m_heard, .ref m_pairs, .ref m_heaps, .int q_rounds, .int q_heapMany, .ref m_led, .ref m_newAt, .ref m_knowing, .ref m_firsts, .int (nI q_people), .ref m_secrets, .ref m_tried, .ref m_lanes, .ref m_lengths, .ref m_cells])), (m_tape, .inl (E.2.1 1, 160, .inl f_tape)), (m_ends, .inl (E.2.1 1, 15, .inl f_ends)), (m_letters, .inl (E.2.1 1, 50, .inl f_letters)), (m_actMany, .inl (E.2.1 1, 25, .inl f_actMany)), (m_actOf, .inl (E.2.1 1, 800, .inl f_actOf)), (m_whom, .inl (E.2.1 1, 800, .inl f_whom)), (m_tokens, .inl (E.2.1 1, 9, .inl f_tokens)), (m_afters, .inl (E.2.1 1, 9, .inl f_afters)), (m_afterOf, .inl (E.2.1 1, 18, .inl f_afterOf))]) C fp_X12_166 0 rfl rfl rfl rfl rfl dX12_say_21 ?_
    refine ww_aload_n C dX12_say_24 0 rfl rfl ?_
    refine ww_iconst (v := 0) C dX12_say_25 rfl ?_
    refine ww_put (ws' := [(hm, .inr (12, [.ref m_manys, .ref m_reals, .ref m_factsOf, .ref m_possible, .int (nI q_undos), .int (nI q_models), .ref m_tape, .int (nI q_taped), .int q_fault, .int 0, .int q_wrongAt, .int 0, .int q_place, .int (nI q_token), .int (nI q_value), .ref m_ends, .ref m_letters, .ref m_actOf, .ref m_whom, .ref m_actMany, .ref m_tokens, .ref m_afters, .ref m_afterOf, .int 0, .ref m_pile, .ref m_caseMany, .ref m_happen, .ref m_hasIf, .ref m_becomes, .ref m_goneOf, .ref m_heard, .ref m_pairs, .ref m_heaps, .int q_rounds, .int q_heapMany, .ref m_led, .ref m_newAt, .ref m_knowing, .ref m_firsts, .int (nI q_people), .ref m_secrets, .ref m_tried, .ref m_lanes, .ref m_lengths, .ref m_cells])), (m_tape, .inl (E.2.1 1, 160, .inl f_tape)), (m_ends, .inl (E.2.1 1, 15, .inl f_ends)), (m_letters, .inl (E.2.1 1, 50, .inl f_letters)), (m_actMany, .inl (E.2.1 1, 25, .inl f_actMany)), (m_actOf, .inl (E.2.1 1, 800, .inl f_actOf)), (m_whom, .inl (E.2.1 1, 800, .inl f_whom)), (m_tokens, .inl (E.2.1 1, 9, .inl f_tokens)), (m_afters, .inl (E.2.1 1, 9, .inl f_afters)), (m_afterOf, .inl (E.2.1 1, 18, .inl f_afterOf))]) C fp_X12_191 0 rfl rfl rfl rfl rfl dX12_say_26 ?_
    refine ww_aload_n C dX12_say_29 0 rfl rfl ?_
    refine ww_get C fg_X12_37 0 rfl rfl dX12_say_30 ?_
    refine ww_bipush (v := 24) C dX12_say_33 rfl ?_
    refine ww_iconst (v := 0) C dX12_say_35 rfl ?_
    obtain ⟨f_9, ef_9⟩ : ∃ z : Nat → Int32, upd f_actMany 24 0 = z := ⟨_, rfl⟩
    refine ww_iast (ws' := [(hm, .inr (12, [.ref m_manys, .ref m_reals, .ref m_factsOf, .ref m_possible, .int (nI q_undos), .int (nI q_models), .ref m_tape, .int (nI q_taped), .int q_fault, .int 0, .int q_wrongAt, .int 0, .int q_place, .int (nI q_token), .int (nI q_value), .ref m_ends, .ref m_letters, .ref m_actOf, .ref m_whom, .ref m_actMany, .ref m_tokens, .ref m_afters, .ref m_afterOf, .int 0, .ref m_pile, .ref m_caseMany, .ref m_happen, .ref m_hasIf, .ref m_becomes, .ref m_goneOf, .ref m_heard, .ref m_pairs, .ref m_heaps, .int q_rounds, .int q_heapMany, .ref m_led, .ref m_newAt, .ref m_knowing, .ref m_firsts, .int (nI q_people), .ref m_secrets, .ref m_tried, .ref m_lanes, .ref m_lengths, .ref m_cells])), (m_tape, .inl (E.2.1 1, 160, .inl f_tape)), (m_ends, .inl (E.2.1 1, 15, .inl f_ends)), (m_letters, .inl (E.2.1 1, 50, .inl f_letters)), (m_actMany, .inl (E.2.1 1, 25, .inl f_9)), (m_actOf, .inl (E.2.1 1, 800, .inl f_actOf)), (m_whom, .inl (E.2.1 1, 800, .inl f_whom)), (m_tokens, .inl (E.2.1 1, 9, .inl f_tokens)), (m_afters, .inl (E.2.1 1, 9, .inl f_afters)), (m_afterOf, .inl (E.2.1 1, 18, .inl f_afterOf))]) C 4 rfl (vin rfl) ef_9 rfl dX12_say_36 ?_
    refine ww_aload_n C dX12_say_37 0 rfl rfl ?_
    refine ww_get C fg_X12_43 0 rfl rfl dX12_say_38 ?_
    refine ww_bipush (v := 8) C dX12_say_41 rfl ?_
    refine ww_iconst (v := 0) C dX12_say_43 rfl ?_
    obtain ⟨f_10, ef_10⟩ : ∃ z : Nat → Int32, upd f_afters 8 0 = z := ⟨_, rfl⟩
    refine ww_iast (ws' := [(hm, .inr (12, [.ref m_manys, .ref m_reals, .ref m_factsOf, .ref m_possible, .int (nI q_undos), .int (nI q_models), .ref m_tape, .int (nI q_taped), .int q_fault, .int 0, .int q_wrongAt, .int 0, .int q_place, .int (nI q_token), .int (nI q_value), .ref m_ends, .ref m_letters, .ref m_actOf, .ref m_whom, .ref m_actMany, .ref m_tokens, .ref m_afters, .ref m_afterOf, .int 0, .ref m_pile, .ref m_caseMany, .ref m_happen, .ref m_hasIf, .ref m_becomes, .ref m_goneOf, .ref m_heard, .ref m_pairs, .ref m_heaps, .int q_rounds, .int q_heapMany, .ref m_led, .ref m_newAt, .ref m_knowing, .ref m_firsts, .int (nI q_people), .ref m_secrets, .ref m_tried, .ref m_lanes, .ref m_lengths, .ref m_cells])), (m_tape, .inl (E.2.1 1, 160, .inl f_tape)), (m_ends, .inl (E.2.1 1, 15, .inl f_ends)), (m_letters, .inl (E.2.1 1, 50, .inl f_letters)), (m_actMany, .inl (E.2.1 1, 25, .inl f_9)), (m_actOf, .inl (E.2.1 1, 800, .inl f_actOf)), (m_whom, .inl (E.2.1 1, 800, .inl f_whom)), (m_tokens, .inl (E.2.1 1, 9, .inl f_tokens)), (m_afters, .inl (E.2.1 1, 9, .inl f_10)), (m_afterOf, .inl (E.2.1 1, 18, .inl f_afterOf))]) C 8 rfl (vin rfl) ef_10 rfl dX12_say_44 ?_
    have haf8 := cN_s (t := 0) (by omega) ef_10
    refine ww_aload_n C dX12_say_45 0 rfl rfl ?_
    refine ww_cv (wr := [(m_ends, .inl (E.2.1 1, 15, .inl f_ends)), (m_letters, .inl (E.2.1 1, 50, .inl f_letters)), (m_actMany, .inl (E.2.1 1, 25, .inl f_9)), (m_actOf, .inl (E.2.1 1, 800, .inl f_actOf)), (m_whom, .inl (E.2.1 1, 800, .inl f_whom)), (m_tokens, .inl (E.2.1 1, 9, .inl f_tokens)), (m_afters, .inl (E.2.1 1, 9, .inl f_10)), (m_afterOf, .inl (E.2.1 1, 18, .inl f_afterOf))]) (k' := 0) (n' := 0) C (run_V (As := []) (rest := []) C (r_next X.2.1 E ro hm m_manys m_reals m_factsOf m_possible q_undos q_models m_tape q_taped q_fault 0 q_wrongAt 0 q_place q_token q_value m_ends m_letters m_actOf m_whom m_actMany m_tokens m_afters m_afterOf 0 m_pile m_caseMany m_happen m_hasIf m_becomes m_goneOf m_heard m_pairs m_heaps q_rounds q_heapMany m_led m_newAt m_knowing m_firsts q_people m_secrets m_tried m_lanes m_lengths m_cells f_tape hb_tape (by omega) (by omega) (by omega) (by omega) (by omega)) mi_X12_next wl_X12_201 rfl 0 12 rfl rfl rfl rfl rfl dX12_say_46) (roK hro) [0, 1] [2, 3, 4, 5, 6, 7, 8, 9] rfl (gqk (by eq_refl)) (plk (by decide +kernel)) rfl (fun uz hw => ?_)
    rcases hw with hw | hw | hw
    · refine an1 hw ?_
      clear hw
      intro he_13 hw
      have h_12 := hw
      clear hw
      subst he_13
      omega
    · refine ex4 hw ?_
      clear hw
      intro sp2_14 pl2_15 tk2_16 vl2_17 hw
      refine an7 hw ?_
      clear hw
      intro he_25 h_18 h_19 h_20 h_21 h_22 h_23 hw
      have h_24 := hw
      clear hw
      subst he_25
      refine ww_eq (ws' := [(m_ends, .inl (E.2.1 1, 15, .inl f_ends)), (m_letters, .inl (E.2.1 1, 50, .inl f_letters)), (m_actMany, .inl (E.2.1 1, 25, .inl f_9)), (m_actOf, .inl (E.2.1 1, 800, .inl f_actOf)), (m_whom, .inl (E.2.1 1, 800, .inl f_whom)), (m_tokens, .inl (E.2.1 1, 9, .inl f_tokens)), (m_afters, .inl (E.2.1 1, 9, .inl f_10)), (m_afterOf, .inl (E.2.1 1, 18, .inl f_afterOf)), (hm, .inr (12, [.ref m_manys, .ref m_reals, .ref m_factsOf, .ref m_possible, .int (nI q_undos), .int (nI q_models), .ref m_tape, .int (nI q_taped), .int q_fault, .int 0, .int q_wrongAt, .int (nI sp2_14), .int (nI pl2_15), .int (nI tk2_16), .int (nI vl2_17), .ref m_ends, .ref m_letters, .ref m_actOf, .ref m_whom, .ref m_actMany, .ref m_tokens, .ref m_afters, .ref m_afterOf, .int 0, .ref m_pile, .ref m_caseMany, .ref m_happen, .ref m_hasIf, .ref m_becomes, .ref m_goneOf, .ref m_heard, .ref m_pairs, .ref m_heaps, .int q_rounds, .int q_heapMany, .ref m_led, .ref m_newAt, .ref m_knowing, .ref m_firsts, .int (nI q_people), .ref m_secrets, .ref m_tried, .ref m_lanes, .ref m_lengths, .ref m_cells])), (m_tape, .inl (E.2.1 1, 160, .inl f_tape))]) ?_ rfl rfl rfl
      refine ww_aload_n C dX12_say_49 0 rfl rfl ?_
      refine ww_cv (wr := [(m_actMany, .inl (E.2.1 1, 25, .inl f_9)), (m_actOf, .inl (E.2.1 1, 800, .inl f_actOf)), (m_whom, .inl (E.2.1 1, 800, .inl f_whom)), (m_tokens, .inl (E.2.1 1, 9, .inl f_tokens))]) (k' := 0) (n' := 0) C (run_V (As := []) (rest := []) C (r_readAfters X.2.1 E ro hm m_manys m_reals m_factsOf m_possible q_undos q_models m_tape q_taped q_fault q_wrongAt sp2_14 pl2_15 tk2_16 vl2_17 m_ends m_letters m_actOf m_whom m_actMany m_tokens m_afters m_afterOf 0 m_pile m_caseMany m_happen m_hasIf m_becomes m_goneOf m_heard m_pairs m_heaps q_rounds q_heapMany m_led m_newAt m_knowing m_firsts q_people m_secrets m_tried m_lanes m_lengths m_cells f_tape f_ends f_letters f_10 f_afterOf 0 hb_tape hb_ends hb_letters (NB.put hb_afters (t := 0) (by omega) (by decide) ef_10) hb_afterOf (by omega) (by omega) (by omega) (by omega) (by omega) h_23 haf8) mi_X12_readAfters wl_X12_209 rfl 0 12 rfl rfl rfl rfl rfl dX12_say_50) (roK hro) [8, 9, 0, 1, 6, 7] [2, 3, 4, 5] rfl rfl (plk (by decide +kernel)) rfl (fun uz hw => ?_)
      rcases hw with hw | hw
      · refine ex8 hw ?_
        clear hw
        intro sp2_38 pl2_39 tk2_40 vl2_41 p2_42 v__43 w__44 wa__45 hw
        refine ex2 hw ?_
        clear hw
        intro f_aftersz_46 f_afterOfz_47 hw
        refine an8 hw ?_
        clear hw
        intro he_59 h_48 h_49 h_50 h_51 h_52 h_53 h_54 hw
        refine an3 hw ?_
        clear hw
        intro h_55 h_56 h_57 hw
        have h_58 := hw
        clear hw
        subst he_59
        refine ww_eq (ws' := [(m_actMany, .inl (E.2.1 1, 25, .inl f_9)), (m_actOf, .inl (E.2.1 1, 800, .inl f_actOf)), (m_whom, .inl (E.2.1 1, 800, .inl f_whom)), (m_tokens, .inl (E.2.1 1, 9, .inl f_tokens)), (hm, .inr (12, [.ref m_manys, .ref m_reals, .ref m_factsOf, .ref m_possible, .int (nI q_undos), .int (nI q_models), .ref m_tape, .int (nI q_taped), .int q_fault, .int 0, .int wa__45, .int (nI sp2_38), .int (nI pl2_39), .int (nI tk2_40), .int (nI vl2_41), .ref m_ends, .ref m_letters, .ref m_actOf, .ref m_whom, .ref m_actMany, .ref m_tokens, .ref m_afters, .ref m_afterOf, .int 0, .ref m_pile, .ref m_caseMany, .ref m_happen, .ref m_hasIf, .ref m_becomes, .ref m_goneOf, .ref m_heard, .ref m_pairs, .ref m_heaps, .int q_rounds, .int q_heapMany, .ref m_led, .ref m_newAt, .ref m_knowing, .ref m_firsts, .int (nI q_people), .ref m_secrets, .ref m_tried, .ref m_lanes, .ref m_lengths, .ref m_cells])), (m_tape, .inl (E.2.1 1, 160, .inl f_tape)), (m_ends, .inl (E.2.1 1, 15, .inl f_ends)), (m_letters, .inl (E.2.1 1, 50, .inl f_letters)), (m_afters, .inl (E.2.1 1, 9, .inl f_aftersz_46)), (m_afterOf, .inl (E.2.1 1, 18, .inl f_afterOfz_47))]) ?_ rfl rfl rfl
        refine ww_iconst (v := 1) C dX12_say_53 rfl ?_
        refine ww_istore_n (lv' := [(2, .int 1), (0, .ref hm), (1, .int v0)]) C dX12_say_54 rfl rfl rfl ?_
        have hsa0 := cN_s (t := 0) (by omega) ef_9
        have loop_55 : ∀ (fu : Nat) (op1 : Nat) (wr1 : Nat) (sp1 : Nat) (pl1 : Nat) (tk1 : Nat) (vl1 : Nat) (ct1 : Nat) (p1 : Nat) (wa1 : Int32) (g_am : Nat → Int32) (g_ac : Nat → Int32) (g_wh : Nat → Int32), (wr1 ≤ 5) → (pl1 ≤ sp1) → (sp1 ≤ q_taped) → (tk1 ≤ 2) → (vl1 ≤ 9) → (ct1 ≤ 40) → (op1 ≤ 1000 - 2 * (50 - ct1)) → (KP 768 f_actOf g_ac) → (KP 768 f_whom g_wh) → (KP 24 f_actMany g_am) → (wr1 = 0 → OPR (cN g_am 24) (slot g_ac 24) ∧ (op1 : Int) = opr (slot g_ac 24) (cN g_am 24) ∧ cN g_am 24 ≤ ct1 ∧ ct1 ≤ 32) → (wr1 = 0 → TK (cz f_tape q_taped) p1 pl1 tk1 sp1 ∧ it (cz f_tape q_taped) p2_42 (cN g_am 24) = .inr (p1, ct1, op1) ∧ RUN (cz f_tape q_taped) p2_42 (cN g_am 24) ∧ OPY (cz f_tape q_taped) p2_42 (cN g_am 24) g_ac g_wh) → (0 < wr1 → ∃ l : Nat, wa1 = nI l ∧ it (cz f_tape q_taped) p2_42 33 = .inl l) → (NB 25 32 g_am) → (50 - ct1) - 12 * min wr1 1 < fu → WW X 3 E 55 [(2, .int (nI op1)), (0, .ref hm), (1, .int v0)] [] [(m_actMany, .inl (E.2.1 1, 25, .inl g_am)), (m_actOf, .inl (E.2.1 1, 800, .inl g_ac)), (m_whom, .inl (E.2.1 1, 800, .inl g_wh)), (m_tokens, .inl (E.2.1 1, 9, .inl f_tokens)), (hm, .inr (12, [.ref m_manys, .ref m_reals, .ref m_factsOf, .ref m_possible, .int (nI q_undos), .int (nI q_models), .ref m_tape, .int (nI q_taped), .int q_fault, .int (nI wr1), .int wa1, .int (nI sp1), .int (nI pl1), .int (nI tk1), .int (nI vl1), .ref m_ends, .ref m_letters, .ref m_actOf, .ref m_whom, .ref m_actMany, .ref m_tokens, .ref m_afters, .ref m_afterOf, .int (nI ct1), .ref m_pile, .ref m_caseMany, .ref m_happen, .ref m_hasIf, .ref m_becomes, .ref m_goneOf, .ref m_heard, .ref m_pairs, .ref m_heaps, .int q_rounds, .int q_heapMany, .ref m_led, .ref m_newAt, .ref m_knowing, .ref m_firsts, .int (nI q_people), .ref m_secrets, .ref m_tried, .ref m_lanes, .ref m_lengths, .ref m_cells])), (m_tape, .inl (E.2.1 1, 160, .inl f_tape)), (m_ends, .inl (E.2.1 1, 15, .inl f_ends)), (m_letters, .inl (E.2.1 1, 50, .inl f_letters)), (m_afters, .inl (E.2.1 1, 9, .inl f_aftersz_46)), (m_afterOf, .inl (E.2.1 1, 18, .inl f_afterOfz_47))] 0 0 := by
          intro fu
          induction fu with
          | zero => intro op1 wr1 sp1 pl1 tk1 vl1 ct1 p1 wa1 g_am g_ac g_wh hwr1 hpl1 hsp1 htk1 hvl1 hct1 hop1 hko hkw hkm hop hgo hbd hnb_m_actMany_55 hmeas; exact absurd hmeas (Nat.not_lt_zero _)
          | succ fu ih_55 =>
            intro op1 wr1 sp1 pl1 tk1 vl1 ct1 p1 wa1 g_am g_ac g_wh hwr1 hpl1 hsp1 htk1 hvl1 hct1 hop1 hko hkw hkm hop hgo hbd hnb_m_actMany_55 hmeas
            refine ww_aload_n C dX12_say_55 1 rfl rfl ?_
            refine ww_get C fg_X12_157 4 rfl rfl dX12_say_56 ?_
            refine ww_if_ne (tgt := 110) C dX12_say_59 (by decide) (fun c_81 => ?_) (fun c_81 => ?_)
            · have zc_81 : ((wr1 : Nat) : Int) ≠ 0 := i_ne (nI_toInt (n := wr1) (by omega)) rfl c_81
              rcases Nat.eq_zero_or_pos wr1 with hw0 | hw0
              · subst hw0
                obtain ⟨hop_1, hop_2, hop_3, hop_4⟩ := hop rfl
                obtain ⟨hgo_1, hgo_2, hgo_3, hgo_4⟩ := hgo rfl
                refine ww_eq (ws' := [(m_actMany, .inl (E.2.1 1, 25, .inl g_am)), (m_actOf, .inl (E.2.1 1, 800, .inl g_ac)), (m_whom, .inl (E.2.1 1, 800, .inl g_wh)), (m_tokens, .inl (E.2.1 1, 9, .inl f_tokens)), (hm, .inr (12, [.ref m_manys, .ref m_reals, .ref m_factsOf, .ref m_possible, .int (nI q_undos), .int (nI q_models), .ref m_tape, .int (nI q_taped), .int q_fault, .int 0, .int wa1, .int (nI sp1), .int (nI pl1), .int (nI tk1), .int (nI vl1), .ref m_ends, .ref m_letters, .ref m_actOf, .ref m_whom, .ref m_actMany, .ref m_tokens, .ref m_afters, .ref m_afterOf, .int (nI ct1), .ref m_pile, .ref m_caseMany, .ref m_happen, .ref m_hasIf, .ref m_becomes, .ref m_goneOf, .ref m_heard, .ref m_pairs, .ref m_heaps, .int q_rounds, .int q_heapMany, .ref m_led, .ref m_newAt, .ref m_knowing, .ref m_firsts, .int (nI q_people), .ref m_secrets, .ref m_tried, .ref m_lanes, .ref m_lengths, .ref m_cells])), (m_tape, .inl (E.2.1 1, 160, .inl f_tape)), (m_ends, .inl (E.2.1 1, 15, .inl f_ends)), (m_letters, .inl (E.2.1 1, 50, .inl f_letters)), (m_afters, .inl (E.2.1 1, 9, .inl f_aftersz_46)), (m_afterOf, .inl (E.2.1 1, 18, .inl f_afterOfz_47))]) ?_ rfl rfl rfl
                refine ww_aload_n C dX12_say_110 1 rfl rfl ?_
                refine ww_get C fg_X12_157 4 rfl rfl dX12_say_111 ?_
                refine ww_if_ne_f (tgt := 129) C dX12_say_114 (by decide) (rfl) ?_
                refine ww_aload_n C dX12_say_117 1 rfl rfl ?_
                refine ww_get C fg_X12_175 4 rfl rfl dX12_say_118 ?_
                refine ww_if_eq (tgt := 129) C dX12_say_121 (by decide) (fun c_82 => ?_) (fun c_82 => ?_)
                · have zc_82 : ((tk1 : Nat) : Int) = 0 := i_eq (nI_toInt (n := tk1) (by omega)) rfl c_82
                  refine ww_aload_n C dX12_say_129 1 rfl rfl ?_
                  refine ww_iconst (v := 0) C dX12_say_130 rfl ?_
                  refine ww_put (ws' := [(m_actMany, .inl (E.2.1 1, 25, .inl g_am)), (m_actOf, .inl (E.2.1 1, 800, .inl g_ac)), (m_whom, .inl (E.2.1 1, 800, .inl g_wh)), (m_tokens, .inl (E.2.1 1, 9, .inl f_tokens)), (hm, .inr (12, [.ref m_manys, .ref m_reals, .ref m_factsOf, .ref m_possible, .int (nI q_undos), .int (nI q_models), .ref m_tape, .int 0, .int q_fault, .int 0, .int wa1, .int (nI sp1), .int (nI pl1), .int (nI tk1), .int (nI vl1), .ref m_ends, .ref m_letters, .ref m_actOf, .ref m_whom, .ref m_actMany, .ref m_tokens, .ref m_afters, .ref m_afterOf, .int (nI ct1), .ref m_pile, .ref m_caseMany, .ref m_happen, .ref m_hasIf, .ref m_becomes, .ref m_goneOf, .ref m_heard, .ref m_pairs, .ref m_heaps, .int q_rounds, .int q_heapMany, .ref m_led, .ref m_newAt, .ref m_knowing, .ref m_firsts, .int (nI q_people), .ref m_secrets, .ref m_tried, .ref m_lanes, .ref m_lengths, .ref m_cells])), (m_tape, .inl (E.2.1 1, 160, .inl f_tape)), (m_ends, .inl (E.2.1 1, 15, .inl f_ends)), (m_letters, .inl (E.2.1 1, 50, .inl f_letters)), (m_afters, .inl (E.2.1 1, 9, .inl f_aftersz_46)), (m_afterOf, .inl (E.2.1 1, 18, .inl f_afterOfz_47))]) C fp_X12_154 4 rfl rfl rfl rfl rfl dX12_say_131 ?_
                  refine ww_aload_n C dX12_say_134 1 rfl rfl ?_
                  refine ww_aload_n C dX12_say_135 1 rfl rfl ?_
                  refine ww_get C fg_X12_157 4 rfl rfl dX12_say_136 ?_
                  refine ww_put (ws' := [(m_actMany, .inl (E.2.1 1, 25, .inl g_am)), (m_actOf, .inl (E.2.1 1, 800, .inl g_ac)), (m_whom, .inl (E.2.1 1, 800, .inl g_wh)), (m_tokens, .inl (E.2.1 1, 9, .inl f_tokens)), (hm, .inr (12, [.ref m_manys, .ref m_reals, .ref m_factsOf, .ref m_possible, .int (nI q_undos), .int (nI q_models), .ref m_tape, .int 0, .int 0, .int 0, .int wa1, .int (nI sp1), .int (nI pl1), .int (nI tk1), .int (nI vl1), .ref m_ends, .ref m_letters, .ref m_actOf, .ref m_whom, .ref m_actMany, .ref m_tokens, .ref m_afters, .ref m_afterOf, .int (nI ct1), .ref m_pile, .ref m_caseMany, .ref m_happen, .ref m_hasIf, .ref m_becomes, .ref m_goneOf, .ref m_heard, .ref m_pairs, .ref m_heaps, .int q_rounds, .int q_heapMany, .ref m_led, .ref m_newAt, .ref m_knowing, .ref m_firsts, .int (nI q_people), .ref m_secrets, .ref m_tried, .ref m_lanes, .ref m_lengths, .ref m_cells])), (m_tape, .inl (E.2.1 1, 160, .inl f_tape)), (m_ends, .inl (E.2.1 1, 15, .inl f_ends)), (m_letters, .inl (E.2.1 1, 50, .inl f_letters)), (m_afters, .inl (E.2.1 1, 9, .inl f_aftersz_46)), (m_afterOf, .inl (E.2.1 1, 18, .inl f_afterOfz_47))]) C fp_X12_218 4 rfl rfl rfl rfl rfl dX12_say_139 ?_
                  refine ww_aload_n C dX12_say_142 1 rfl rfl ?_
                  refine ww_get C fg_X12_157 4 rfl rfl dX12_say_143 ?_
                  refine ww_if_le_t (tgt := 157) C dX12_say_146 (by decide) (by decide) ?_
                  obtain ⟨j_83, hj_83, rfl⟩ := i_nat (x := v0) (N := 7) (by omega) (by omega)
                  have hzj_83 := nI_toInt (n := j_83) (by omega)
                  have hsv2 := SV.keep hsv hko hkm
                  have hop0 : opr (slot g_ac 24) (cN g_am 24) = 0 := by omega
                  refine ww_aload_n C dX12_say_157 1 rfl rfl ?_
                  refine ww_bipush (v := 24) C dX12_say_158 rfl ?_
                  refine ww_iload_n C dX12_say_160 2 rfl rfl ?_
                  refine ww_cv (wr := [(m_tokens, .inl (E.2.1 1, 9, .inl f_tokens)), (m_tape, .inl (E.2.1 1, 160, .inl f_tape)), (m_ends, .inl (E.2.1 1, 15, .inl f_ends)), (m_letters, .inl (E.2.1 1, 50, .inl f_letters)), (m_afters, .inl (E.2.1 1, 9, .inl f_aftersz_46)), (m_afterOf, .inl (E.2.1 1, 18, .inl f_afterOfz_47))]) (k' := 0) (n' := 0) C (run_V (As := [.int 24, .int (nI j_83)]) (rest := []) C (r_copyActs X.2.1 E ro hm 24 j_83 m_manys m_reals m_factsOf m_possible q_undos q_models m_tape 0 0 0 wa1 (nI sp1) (nI pl1) (nI tk1) (nI vl1) m_ends m_letters m_actOf m_whom m_actMany m_tokens m_afters m_afterOf (nI ct1) m_pile m_caseMany m_happen m_hasIf m_becomes m_goneOf m_heard m_pairs m_heaps q_rounds q_heapMany m_led m_newAt m_knowing m_firsts q_people m_secrets m_tried m_lanes m_lengths m_cells g_am g_ac g_wh hnb_m_actMany_55 hsv2 (by omega) (by omega) ⟨by omega, hop_1, Or.inr hop0⟩) mi_X12_copyActs wl_X12_221 rfl 0 12 rfl rfl rfl rfl rfl dX12_say_161) (roK hro) [4, 0, 1, 2] [3, 5, 6, 7, 8, 9] rfl rfl (plk (by decide +kernel)) rfl (fun uz hw => ?_)
                  refine ex3 hw ?_
                  clear hw
                  intro f_actManyz_85 f_actOfz_86 f_whomz_87 hw
                  refine an5 hw ?_
                  clear hw
                  intro he_93 h_88 h_89 h_90 h_91 hw
                  have h_92 := hw
                  clear hw
                  subst he_93
                  refine ww_eq (ws' := [(m_tokens, .inl (E.2.1 1, 9, .inl f_tokens)), (m_tape, .inl (E.2.1 1, 160, .inl f_tape)), (m_ends, .inl (E.2.1 1, 15, .inl f_ends)), (m_letters, .inl (E.2.1 1, 50, .inl f_letters)), (m_afters, .inl (E.2.1 1, 9, .inl f_aftersz_46)), (m_afterOf, .inl (E.2.1 1, 18, .inl f_afterOfz_47)), (hm, .inr (12, [.ref m_manys, .ref m_reals, .ref m_factsOf, .ref m_possible, .int (nI q_undos), .int (nI q_models), .ref m_tape, .int 0, .int 0, .int 0, .int wa1, .int (nI sp1), .int (nI pl1), .int (nI tk1), .int (nI vl1), .ref m_ends, .ref m_letters, .ref m_actOf, .ref m_whom, .ref m_actMany, .ref m_tokens, .ref m_afters, .ref m_afterOf, .int (nI ct1), .ref m_pile, .ref m_caseMany, .ref m_happen, .ref m_hasIf, .ref m_becomes, .ref m_goneOf, .ref m_heard, .ref m_pairs, .ref m_heaps, .int q_rounds, .int q_heapMany, .ref m_led, .ref m_newAt, .ref m_knowing, .ref m_firsts, .int (nI q_people), .ref m_secrets, .ref m_tried, .ref m_lanes, .ref m_lengths, .ref m_cells])), (m_actMany, .inl (E.2.1 1, 25, .inl f_actManyz_85)), (m_actOf, .inl (E.2.1 1, 800, .inl f_actOfz_86)), (m_whom, .inl (E.2.1 1, 800, .inl f_whomz_87))]) ?_ rfl rfl rfl
                  refine ww_aload_n C dX12_say_164 1 rfl rfl ?_
                  refine ww_get C fg_X12_40 6 rfl rfl dX12_say_165 ?_
                  refine ww_iload_n C dX12_say_168 2 rfl rfl ?_
                  refine ww_aload_n C dX12_say_169 1 rfl rfl ?_
                  refine ww_get C fg_X12_191 6 rfl rfl dX12_say_170 ?_
                  obtain ⟨f_94, ef_94⟩ : ∃ z : Nat → Int32, upd f_tokens j_83 (nI ct1) = z := ⟨_, rfl⟩
                  refine ww_iast (ws' := [(m_tokens, .inl (E.2.1 1, 9, .inl f_94)), (m_tape, .inl (E.2.1 1, 160, .inl f_tape)), (m_ends, .inl (E.2.1 1, 15, .inl f_ends)), (m_letters, .inl (E.2.1 1, 50, .inl f_letters)), (m_afters, .inl (E.2.1 1, 9, .inl f_aftersz_46)), (m_afterOf, .inl (E.2.1 1, 18, .inl f_afterOfz_47)), (hm, .inr (12, [.ref m_manys, .ref m_reals, .ref m_factsOf, .ref m_possible, .int (nI q_undos), .int (nI q_models), .ref m_tape, .int 0, .int 0, .int 0, .int wa1, .int (nI sp1), .int (nI pl1), .int (nI tk1), .int (nI vl1), .ref m_ends, .ref m_letters, .ref m_actOf, .ref m_whom, .ref m_actMany, .ref m_tokens, .ref m_afters, .ref m_afterOf, .int (nI ct1), .ref m_pile, .ref m_caseMany, .ref m_happen, .ref m_hasIf, .ref m_becomes, .ref m_goneOf, .ref m_heard, .ref m_pairs, .ref m_heaps, .int q_rounds, .int q_heapMany, .ref m_led, .ref m_newAt, .ref m_knowing, .ref m_firsts, .int (nI q_people), .ref m_secrets, .ref m_tried, .ref m_lanes, .ref m_lengths, .ref m_cells])), (m_actMany, .inl (E.2.1 1, 25, .inl f_actManyz_85)), (m_actOf, .inl (E.2.1 1, 800, .inl f_actOfz_86)), (m_whom, .inl (E.2.1 1, 800, .inl f_whomz_87))]) C 0 rfl (vp_in_nI (by omega) (by omega)) (ldn2 (by omega) ef_94) rfl dX12_say_173 ?_
                  refine ww_aload_n C dX12_say_174 1 rfl rfl ?_
                  refine ww_get C fg_X12_43 6 rfl rfl dX12_say_175 ?_
                  refine ww_iload_n C dX12_say_178 2 rfl rfl ?_
                  refine ww_aload_n C dX12_say_179 1 rfl rfl ?_
                  refine ww_get C fg_X12_43 6 rfl rfl dX12_say_180 ?_
                  refine ww_bipush (v := 8) C dX12_say_183 rfl ?_
                  have hbx_95 := (h_52 8 (by omega)).2
                  refine ww_iald (v := (nI (cN f_aftersz_46 8))) C 4 rfl (vin rfl) (h_52 8 (by omega)).1 dX12_say_185 ?_
                  obtain ⟨f_96, ef_96⟩ : ∃ z : Nat → Int32, upd f_aftersz_46 j_83 (nI (cN f_aftersz_46 8)) = z := ⟨_, rfl⟩
                  refine ww_iast (ws' := [(m_tokens, .inl (E.2.1 1, 9, .inl f_94)), (m_tape, .inl (E.2.1 1, 160, .inl f_tape)), (m_ends, .inl (E.2.1 1, 15, .inl f_ends)), (m_letters, .inl (E.2.1 1, 50, .inl f_letters)), (m_afters, .inl (E.2.1 1, 9, .inl f_96)), (m_afterOf, .inl (E.2.1 1, 18, .inl f_afterOfz_47)), (hm, .inr (12, [.ref m_manys, .ref m_reals, .ref m_factsOf, .ref m_possible, .int (nI q_undos), .int (nI q_models), .ref m_tape, .int 0, .int 0, .int 0, .int wa1, .int (nI sp1), .int (nI pl1), .int (nI tk1), .int (nI vl1), .ref m_ends, .ref m_letters, .ref m_actOf, .ref m_whom, .ref m_actMany, .ref m_tokens, .ref m_afters, .ref m_afterOf, .int (nI ct1), .ref m_pile, .ref m_caseMany, .ref m_happen, .ref m_hasIf, .ref m_becomes, .ref m_goneOf, .ref m_heard, .ref m_pairs, .ref m_heaps, .int q_rounds, .int q_heapMany, .ref m_led, .ref m_newAt, .ref m_knowing, .ref m_firsts, .int (nI q_people), .ref m_secrets, .ref m_tried, .ref m_lanes, .ref m_lengths, .ref m_cells])), (m_actMany, .inl (E.2.1 1, 25, .inl f_actManyz_85)), (m_actOf, .inl (E.2.1 1, 800, .inl f_actOfz_86)), (m_whom, .inl (E.2.1 1, 800, .inl f_whomz_87))]) C 4 rfl (vp_in_nI (by omega) (by omega)) (ldn2 (by omega) ef_96) rfl dX12_say_186 ?_
                  refine ww_aload_n C dX12_say_187 1 rfl rfl ?_
                  refine ww_get C fg_X12_46 6 rfl rfl dX12_say_188 ?_
                  refine ww_iconst (v := 2) C dX12_say_191 rfl ?_
                  refine ww_iload_n C dX12_say_192 2 rfl rfl ?_
                  refine ww_imul (v := (nI (2 * j_83))) C dX12_say_193 (pk_mul 2 j_83) ?_
                  refine ww_aload_n C dX12_say_194 1 rfl rfl ?_
                  refine ww_get C fg_X12_46 6 rfl rfl dX12_say_195 ?_
                  refine ww_bipush (v := 16) C dX12_say_198 rfl ?_
                  have hbx_97 := (h_53 16 (by omega)).2
                  refine ww_iald (v := (nI (cN f_afterOfz_47 16))) C 5 rfl (vin rfl) (h_53 16 (by omega)).1 dX12_say_200 ?_
                  obtain ⟨f_98, ef_98⟩ : ∃ z : Nat → Int32, upd f_afterOfz_47 (2 * j_83) (nI (cN f_afterOfz_47 16)) = z := ⟨_, rfl⟩
                  refine ww_iast (ws' := [(m_tokens, .inl (E.2.1 1, 9, .inl f_94)), (m_tape, .inl (E.2.1 1, 160, .inl f_tape)), (m_ends, .inl (E.2.1 1, 15, .inl f_ends)), (m_letters, .inl (E.2.1 1, 50, .inl f_letters)), (m_afters, .inl (E.2.1 1, 9, .inl f_96)), (m_afterOf, .inl (E.2.1 1, 18, .inl f_98)), (hm, .inr (12, [.ref m_manys, .ref m_reals, .ref m_factsOf, .ref m_possible, .int (nI q_undos), .int (nI q_models), .ref m_tape, .int 0, .int 0, .int 0, .int wa1, .int (nI sp1), .int (nI pl1), .int (nI tk1), .int (nI vl1), .ref m_ends, .ref m_letters, .ref m_actOf, .ref m_whom, .ref m_actMany, .ref m_tokens, .ref m_afters, .ref m_afterOf, .int (nI ct1), .ref m_pile, .ref m_caseMany, .ref m_happen, .ref m_hasIf, .ref m_becomes, .ref m_goneOf, .ref m_heard, .ref m_pairs, .ref m_heaps, .int q_rounds, .int q_heapMany, .ref m_led, .ref m_newAt, .ref m_knowing, .ref m_firsts, .int (nI q_people), .ref m_secrets, .ref m_tried, .ref m_lanes, .ref m_lengths, .ref m_cells])), (m_actMany, .inl (E.2.1 1, 25, .inl f_actManyz_85)), (m_actOf, .inl (E.2.1 1, 800, .inl f_actOfz_86)), (m_whom, .inl (E.2.1 1, 800, .inl f_whomz_87))]) C 5 rfl (vp_in_nI (by omega) (by omega)) (ldn2 (by omega) ef_98) rfl dX12_say_201 ?_
                  refine ww_aload_n C dX12_say_202 1 rfl rfl ?_
                  refine ww_get C fg_X12_46 6 rfl rfl dX12_say_203 ?_
                  refine ww_iconst (v := 2) C dX12_say_206 rfl ?_
                  refine ww_iload_n C dX12_say_207 2 rfl rfl ?_
                  refine ww_imul (v := (nI (2 * j_83))) C dX12_say_208 (pk_mul 2 j_83) ?_
                  refine ww_iconst (v := 1) C dX12_say_209 rfl ?_
                  refine ww_iadd (v := (nI ((2 * j_83) + 1))) C dX12_say_210 (nI_add (2 * j_83) 1) ?_
                  refine ww_aload_n C dX12_say_211 1 rfl rfl ?_
                  refine ww_get C fg_X12_46 6 rfl rfl dX12_say_212 ?_
                  refine ww_bipush (v := 17) C dX12_say_215 rfl ?_
                  have hbx_99 := ((NB.put h_53 (t := cN f_afterOfz_47 16) (by omega) (by decide) ef_98) 17 (by omega)).2
                  refine ww_iald (v := (nI (cN f_98 17))) C 5 rfl (vin rfl) ((NB.put h_53 (t := cN f_afterOfz_47 16) (by omega) (by decide) ef_98) 17 (by omega)).1 dX12_say_217 ?_
                  obtain ⟨f_100, ef_100⟩ : ∃ z : Nat → Int32, upd f_98 ((2 * j_83) + 1) (nI (cN f_98 17)) = z := ⟨_, rfl⟩
                  refine ww_iast (ws' := [(m_tokens, .inl (E.2.1 1, 9, .inl f_94)), (m_tape, .inl (E.2.1 1, 160, .inl f_tape)), (m_ends, .inl (E.2.1 1, 15, .inl f_ends)), (m_letters, .inl (E.2.1 1, 50, .inl f_letters)), (m_afters, .inl (E.2.1 1, 9, .inl f_96)), (m_afterOf, .inl (E.2.1 1, 18, .inl f_100)), (hm, .inr (12, [.ref m_manys, .ref m_reals, .ref m_factsOf, .ref m_possible, .int (nI q_undos), .int (nI q_models), .ref m_tape, .int 0, .int 0, .int 0, .int wa1, .int (nI sp1), .int (nI pl1), .int (nI tk1), .int (nI vl1), .ref m_ends, .ref m_letters, .ref m_actOf, .ref m_whom, .ref m_actMany, .ref m_tokens, .ref m_afters, .ref m_afterOf, .int (nI ct1), .ref m_pile, .ref m_caseMany, .ref m_happen, .ref m_hasIf, .ref m_becomes, .ref m_goneOf, .ref m_heard, .ref m_pairs, .ref m_heaps, .int q_rounds, .int q_heapMany, .ref m_led, .ref m_newAt, .ref m_knowing, .ref m_firsts, .int (nI q_people), .ref m_secrets, .ref m_tried, .ref m_lanes, .ref m_lengths, .ref m_cells])), (m_actMany, .inl (E.2.1 1, 25, .inl f_actManyz_85)), (m_actOf, .inl (E.2.1 1, 800, .inl f_actOfz_86)), (m_whom, .inl (E.2.1 1, 800, .inl f_whomz_87))]) C 5 rfl (vp_in_nI (by omega) (by omega)) (ldn2 (by omega) ef_100) rfl dX12_say_218 ?_
                  refine ww_aload_n C dX12_say_219 1 rfl rfl ?_
                  refine ww_get C fg_X12_191 6 rfl rfl dX12_say_220 ?_
                  exact ww_iret (u := [(hm, .inr (12, [.ref m_manys, .ref m_reals, .ref m_factsOf, .ref m_possible, .int (nI q_undos), .int (nI q_models), .ref m_tape, .int 0, .int 0, .int 0, .int wa1, .int (nI sp1), .int (nI pl1), .int (nI tk1), .int (nI vl1), .ref m_ends, .ref m_letters, .ref m_actOf, .ref m_whom, .ref m_actMany, .ref m_tokens, .ref m_afters, .ref m_afterOf, .int (nI ct1), .ref m_pile, .ref m_caseMany, .ref m_happen, .ref m_hasIf, .ref m_becomes, .ref m_goneOf, .ref m_heard, .ref m_pairs, .ref m_heaps, .int q_rounds, .int q_heapMany, .ref m_led, .ref m_newAt, .ref m_knowing, .ref m_firsts, .int (nI q_people), .ref m_secrets, .ref m_tried, .ref m_lanes, .ref m_lengths, .ref m_cells])), (m_tape, .inl (E.2.1 1, 160, .inl f_tape)), (m_ends, .inl (E.2.1 1, 15, .inl f_ends)), (m_letters, .inl (E.2.1 1, 50, .inl f_letters)), (m_actMany, .inl (E.2.1 1, 25, .inl f_actManyz_85)), (m_actOf, .inl (E.2.1 1, 800, .inl f_actOfz_86)), (m_whom, .inl (E.2.1 1, 800, .inl f_whomz_87)), (m_tokens, .inl (E.2.1 1, 9, .inl f_94)), (m_afters, .inl (E.2.1 1, 9, .inl f_96)), (m_afterOf, .inl (E.2.1 1, 18, .inl f_100))]) C hT [6, 1, 2, 3, 7, 8, 9, 0, 4, 5] (gqk (by eq_refl)) (ndk (by decide +kernel)) rfl rfl dX12_say_223 (Or.inr (Or.inr ⟨0, 0, wa1, (nI sp1), (nI pl1), tk1, vl1, ct1, f_actManyz_85, f_actOfz_86, f_whomz_87, f_94, f_96, f_100, j_83, p2_42, (cN f_aftersz_46 8), v__43, w__44, (cN g_am 24), rfl, rfl, h_88, (NB.put h_52 (t := cN f_aftersz_46 8) (by omega) (by decide) ef_96), (NB.put (NB.put h_53 (t := cN f_afterOfz_47 16) (by omega) (by decide) ef_98) (t := cN f_98 17) (by omega) (by decide) ef_100), h_89, (by omega), (by omega), rfl, (by omega), ⟨(by rw [← h_23.2.1]; omega), h_57, (by omega), hgo_3, _, (by rw [hgo_2, show op1 = 0 by omega]), (by rw [← hgo_1.2.1]; omega)⟩, (fun i hi => ((h_91).1 i (by omega)).trans (hgo_4 i hi).1), (fun i hi => ((h_92).1 i (by omega)).trans (hgo_4 i hi).2.1), (fun i hi => (hgo_4 i hi).2.2), (fun j hj hn => KP.cpg hko h_91 (by omega) hj hn), (fun j hj hn => KP.cpg hkw h_92 (by omega) hj hn), ⟨cN_s (by omega) h_90, fun j hj hn => (cN_n h_90 hn).trans (hkm.at hj)⟩, ef_94, ⟨(congrFun ef_96.symm _).trans pk_us, fun j hj hn => ((congrFun ef_96.symm j).trans (pk_un hn)).trans ((KP.tr (KP.put KP.rf (by omega) ef_10) h_54) j hj)⟩, ⟨fun h9 => by rw [← ef_100, pk_un (by omega), ← ef_98, pk_us]; exact (h_53 16 (by omega)).1.symm.trans (h_58.1 h9), fun h9 => by rw [← ef_100, pk_us, cN_n ef_98 (by omega)]; exact (h_53 17 (by omega)).1.symm.trans (h_58.2 h9), fun j hj h8 h9 => by rw [← ef_100, pk_un (by omega), ← ef_98, pk_un (by omega)]; exact h_55 j hj⟩, (by omega), (by omega), (by omega)⟩))
                · have zc_82 : ((tk1 : Nat) : Int) ≠ 0 := i_ne (nI_toInt (n := tk1) (by omega)) rfl c_82
                  refine ww_aload_n C dX12_say_124 1 rfl rfl ?_
                  refine ww_iconst (v := 2) C dX12_say_125 rfl ?_
                  refine ww_cv (wr := [(m_actMany, .inl (E.2.1 1, 25, .inl g_am)), (m_actOf, .inl (E.2.1 1, 800, .inl g_ac)), (m_whom, .inl (E.2.1 1, 800, .inl g_wh)), (m_tokens, .inl (E.2.1 1, 9, .inl f_tokens)), (m_tape, .inl (E.2.1 1, 160, .inl f_tape)), (m_ends, .inl (E.2.1 1, 15, .inl f_ends)), (m_letters, .inl (E.2.1 1, 50, .inl f_letters)), (m_afters, .inl (E.2.1 1, 9, .inl f_aftersz_46)), (m_afterOf, .inl (E.2.1 1, 18, .inl f_afterOfz_47))]) (k' := 0) (n' := 0) C (run_V (As := [.int 2]) (rest := []) C (r_fails X.2.1 E ro hm 2 m_manys m_reals m_factsOf m_possible q_undos q_models m_tape q_taped q_fault 0 wa1 (nI sp1) (nI pl1) (nI tk1) (nI vl1) m_ends m_letters m_actOf m_whom m_actMany m_tokens m_afters m_afterOf (nI ct1) m_pile m_caseMany m_happen m_hasIf m_becomes m_goneOf m_heard m_pairs m_heaps q_rounds q_heapMany m_led m_newAt m_knowing m_firsts q_people m_secrets m_tried m_lanes m_lengths m_cells (by omega)) mi_X12_fails wl_X12_186 rfl 0 12 rfl rfl rfl rfl rfl dX12_say_126) (roK hro) [4] [0, 1, 2, 3, 5, 6, 7, 8, 9] rfl (gqk (by eq_refl)) (plk (by decide +kernel)) rfl (fun uz hw => ?_)
                  rcases hw with hw | hw
                  · refine an1 hw ?_
                    clear hw
                    intro he_103 hw
                    have h_102 := hw
                    clear hw
                    subst he_103
                    refine ww_eq (ws' := [(m_actMany, .inl (E.2.1 1, 25, .inl g_am)), (m_actOf, .inl (E.2.1 1, 800, .inl g_ac)), (m_whom, .inl (E.2.1 1, 800, .inl g_wh)), (m_tokens, .inl (E.2.1 1, 9, .inl f_tokens)), (m_tape, .inl (E.2.1 1, 160, .inl f_tape)), (m_ends, .inl (E.2.1 1, 15, .inl f_ends)), (m_letters, .inl (E.2.1 1, 50, .inl f_letters)), (m_afters, .inl (E.2.1 1, 9, .inl f_aftersz_46)), (m_afterOf, .inl (E.2.1 1, 18, .inl f_afterOfz_47)), (hm, .inr (12, [.ref m_manys, .ref m_reals, .ref m_factsOf, .ref m_possible, .int (nI q_undos), .int (nI q_models), .ref m_tape, .int (nI q_taped), .int q_fault, .int 2, .int (nI pl1), .int (nI sp1), .int (nI pl1), .int (nI tk1), .int (nI vl1), .ref m_ends, .ref m_letters, .ref m_actOf, .ref m_whom, .ref m_actMany, .ref m_tokens, .ref m_afters, .ref m_afterOf, .int (nI ct1), .ref m_pile, .ref m_caseMany, .ref m_happen, .ref m_hasIf, .ref m_becomes, .ref m_goneOf, .ref m_heard, .ref m_pairs, .ref m_heaps, .int q_rounds, .int q_heapMany, .ref m_led, .ref m_newAt, .ref m_knowing, .ref m_firsts, .int (nI q_people), .ref m_secrets, .ref m_tried, .ref m_lanes, .ref m_lengths, .ref m_cells]))]) ?_ rfl rfl rfl
                    refine ww_aload_n C dX12_say_129 1 rfl rfl ?_
                    refine ww_iconst (v := 0) C dX12_say_130 rfl ?_
                    refine ww_put (ws' := [(m_actMany, .inl (E.2.1 1, 25, .inl g_am)), (m_actOf, .inl (E.2.1 1, 800, .inl g_ac)), (m_whom, .inl (E.2.1 1, 800, .inl g_wh)), (m_tokens, .inl (E.2.1 1, 9, .inl f_tokens)), (m_tape, .inl (E.2.1 1, 160, .inl f_tape)), (m_ends, .inl (E.2.1 1, 15, .inl f_ends)), (m_letters, .inl (E.2.1 1, 50, .inl f_letters)), (m_afters, .inl (E.2.1 1, 9, .inl f_aftersz_46)), (m_afterOf, .inl (E.2.1 1, 18, .inl f_afterOfz_47)), (hm, .inr (12, [.ref m_manys, .ref m_reals, .ref m_factsOf, .ref m_possible, .int (nI q_undos), .int (nI q_models), .ref m_tape, .int 0, .int q_fault, .int 2, .int (nI pl1), .int (nI sp1), .int (nI pl1), .int (nI tk1), .int (nI vl1), .ref m_ends, .ref m_letters, .ref m_actOf, .ref m_whom, .ref m_actMany, .ref m_tokens, .ref m_afters, .ref m_afterOf, .int (nI ct1), .ref m_pile, .ref m_caseMany, .ref m_happen, .ref m_hasIf, .ref m_becomes, .ref m_goneOf, .ref m_heard, .ref m_pairs, .ref m_heaps, .int q_rounds, .int q_heapMany, .ref m_led, .ref m_newAt, .ref m_knowing, .ref m_firsts, .int (nI q_people), .ref m_secrets, .ref m_tried, .ref m_lanes, .ref m_lengths, .ref m_cells]))]) C fp_X12_154 9 rfl rfl rfl rfl rfl dX12_say_131 ?_
                    refine ww_aload_n C dX12_say_134 1 rfl rfl ?_
                    refine ww_aload_n C dX12_say_135 1 rfl rfl ?_
                    refine ww_get C fg_X12_157 9 rfl rfl dX12_say_136 ?_
                    refine ww_put (ws' := [(m_actMany, .inl (E.2.1 1, 25, .inl g_am)), (m_actOf, .inl (E.2.1 1, 800, .inl g_ac)), (m_whom, .inl (E.2.1 1, 800, .inl g_wh)), (m_tokens, .inl (E.2.1 1, 9, .inl f_tokens)), (m_tape, .inl (E.2.1 1, 160, .inl f_tape)), (m_ends, .inl (E.2.1 1, 15, .inl f_ends)), (m_letters, .inl (E.2.1 1, 50, .inl f_letters)), (m_afters, .inl (E.2.1 1, 9, .inl f_aftersz_46)), (m_afterOf, .inl (E.2.1 1, 18, .inl f_afterOfz_47)), (hm, .inr (12, [.ref m_manys, .ref m_reals, .ref m_factsOf, .ref m_possible, .int (nI q_undos), .int (nI q_models), .ref m_tape, .int 0, .int 2, .int 2, .int (nI pl1), .int (nI sp1), .int (nI pl1), .int (nI tk1), .int (nI vl1), .ref m_ends, .ref m_letters, .ref m_actOf, .ref m_whom, .ref m_actMany, .ref m_tokens, .ref m_afters, .ref m_afterOf, .int (nI ct1), .ref m_pile, .ref m_caseMany, .ref m_happen, .ref m_hasIf, .ref m_becomes, .ref m_goneOf, .ref m_heard, .ref m_pairs, .ref m_heaps, .int q_rounds, .int q_heapMany, .ref m_led, .ref m_newAt, .ref m_knowing, .ref m_firsts, .int (nI q_people), .ref m_secrets, .ref m_tried, .ref m_lanes, .ref m_lengths, .ref m_cells]))]) C fp_X12_218 9 rfl rfl rfl rfl rfl dX12_say_139 ?_
                    refine ww_aload_n C dX12_say_142 1 rfl rfl ?_
                    refine ww_get C fg_X12_157 9 rfl rfl dX12_say_143 ?_
                    refine ww_if_le_f (tgt := 157) C dX12_say_146 (by decide) (by decide) ?_
                    refine ww_bipush (v := (-10)) C dX12_say_149 rfl ?_
                    refine ww_aload_n C dX12_say_151 1 rfl rfl ?_
                    refine ww_get C fg_X12_163 9 rfl rfl dX12_say_152 ?_
                    refine ww_isub (v := ((-10 : Int32) - (nI pl1))) C dX12_say_155 rfl ?_
                    exact ww_iret (u := [(hm, .inr (12, [.ref m_manys, .ref m_reals, .ref m_factsOf, .ref m_possible, .int (nI q_undos), .int (nI q_models), .ref m_tape, .int 0, .int 2, .int 2, .int (nI pl1), .int (nI sp1), .int (nI pl1), .int (nI tk1), .int (nI vl1), .ref m_ends, .ref m_letters, .ref m_actOf, .ref m_whom, .ref m_actMany, .ref m_tokens, .ref m_afters, .ref m_afterOf, .int (nI ct1), .ref m_pile, .ref m_caseMany, .ref m_happen, .ref m_hasIf, .ref m_becomes, .ref m_goneOf, .ref m_heard, .ref m_pairs, .ref m_heaps, .int q_rounds, .int q_heapMany, .ref m_led, .ref m_newAt, .ref m_knowing, .ref m_firsts, .int (nI q_people), .ref m_secrets, .ref m_tried, .ref m_lanes, .ref m_lengths, .ref m_cells])), (m_tape, .inl (E.2.1 1, 160, .inl f_tape)), (m_ends, .inl (E.2.1 1, 15, .inl f_ends)), (m_letters, .inl (E.2.1 1, 50, .inl f_letters)), (m_actMany, .inl (E.2.1 1, 25, .inl g_am)), (m_actOf, .inl (E.2.1 1, 800, .inl g_ac)), (m_whom, .inl (E.2.1 1, 800, .inl g_wh)), (m_tokens, .inl (E.2.1 1, 9, .inl f_tokens)), (m_afters, .inl (E.2.1 1, 9, .inl f_aftersz_46)), (m_afterOf, .inl (E.2.1 1, 18, .inl f_afterOfz_47))]) C hT [9, 4, 5, 6, 0, 1, 2, 3, 7, 8] (gqk (by eq_refl)) (ndk (by decide +kernel)) rfl rfl dX12_say_156 (Or.inr (Or.inl ⟨2, 2, (nI pl1), (nI sp1), (nI pl1), (nI ct1), tk1, vl1, g_am, g_ac, g_wh, f_tokens, f_aftersz_46, f_afterOfz_47, pl1, rfl, rfl, hnb_m_actMany_55, h_52, h_53, (SV.keep hsv hko hkm), (by omega), (by omega), (by omega), (by omega), (Or.inr (Or.inr ⟨_, _, _, _, (by rw [← h_23.2.1]; omega), h_57, Or.inr ⟨_, _, it_ok (by rw [hgo_2, show op1 = 0 by omega]) (by omega), (by rw [← hgo_1.2.1]; omega), hgo_1.1⟩⟩)), hko, hkw, hkm, (KP.tr (KP.put KP.rf (by omega) ef_10) h_54), h_55, rfl⟩))
                  · refine an1 hw ?_
                    clear hw
                    intro he_105 hw
                    have h_104 := hw
                    clear hw
                    subst he_105
                    omega
              · obtain ⟨l_, rfl, hc_⟩ := hbd hw0
                refine ww_eq (ws' := [(m_actMany, .inl (E.2.1 1, 25, .inl g_am)), (m_actOf, .inl (E.2.1 1, 800, .inl g_ac)), (m_whom, .inl (E.2.1 1, 800, .inl g_wh)), (m_tokens, .inl (E.2.1 1, 9, .inl f_tokens)), (hm, .inr (12, [.ref m_manys, .ref m_reals, .ref m_factsOf, .ref m_possible, .int (nI q_undos), .int (nI q_models), .ref m_tape, .int (nI q_taped), .int q_fault, .int (nI wr1), .int (nI l_), .int (nI sp1), .int (nI pl1), .int (nI tk1), .int (nI vl1), .ref m_ends, .ref m_letters, .ref m_actOf, .ref m_whom, .ref m_actMany, .ref m_tokens, .ref m_afters, .ref m_afterOf, .int (nI ct1), .ref m_pile, .ref m_caseMany, .ref m_happen, .ref m_hasIf, .ref m_becomes, .ref m_goneOf, .ref m_heard, .ref m_pairs, .ref m_heaps, .int q_rounds, .int q_heapMany, .ref m_led, .ref m_newAt, .ref m_knowing, .ref m_firsts, .int (nI q_people), .ref m_secrets, .ref m_tried, .ref m_lanes, .ref m_lengths, .ref m_cells])), (m_tape, .inl (E.2.1 1, 160, .inl f_tape)), (m_ends, .inl (E.2.1 1, 15, .inl f_ends)), (m_letters, .inl (E.2.1 1, 50, .inl f_letters)), (m_afters, .inl (E.2.1 1, 9, .inl f_aftersz_46)), (m_afterOf, .inl (E.2.1 1, 18, .inl f_afterOfz_47))]) ?_ rfl rfl rfl
                refine ww_aload_n C dX12_say_110 1 rfl rfl ?_
                refine ww_get C fg_X12_157 4 rfl rfl dX12_say_111 ?_
                refine ww_if_ne (tgt := 129) C dX12_say_114 (by decide) (fun c_106 => ?_) (fun c_106 => ?_)
                · have zc_106 : ((wr1 : Nat) : Int) ≠ 0 := i_ne (nI_toInt (n := wr1) (by omega)) rfl c_106
                  refine ww_aload_n C dX12_say_129 1 rfl rfl ?_
                  refine ww_iconst (v := 0) C dX12_say_130 rfl ?_
                  refine ww_put (ws' := [(m_actMany, .inl (E.2.1 1, 25, .inl g_am)), (m_actOf, .inl (E.2.1 1, 800, .inl g_ac)), (m_whom, .inl (E.2.1 1, 800, .inl g_wh)), (m_tokens, .inl (E.2.1 1, 9, .inl f_tokens)), (hm, .inr (12, [.ref m_manys, .ref m_reals, .ref m_factsOf, .ref m_possible, .int (nI q_undos), .int (nI q_models), .ref m_tape, .int 0, .int q_fault, .int (nI wr1), .int (nI l_), .int (nI sp1), .int (nI pl1), .int (nI tk1), .int (nI vl1), .ref m_ends, .ref m_letters, .ref m_actOf, .ref m_whom, .ref m_actMany, .ref m_tokens, .ref m_afters, .ref m_afterOf, .int (nI ct1), .ref m_pile, .ref m_caseMany, .ref m_happen, .ref m_hasIf, .ref m_becomes, .ref m_goneOf, .ref m_heard, .ref m_pairs, .ref m_heaps, .int q_rounds, .int q_heapMany, .ref m_led, .ref m_newAt, .ref m_knowing, .ref m_firsts, .int (nI q_people), .ref m_secrets, .ref m_tried, .ref m_lanes, .ref m_lengths, .ref m_cells])), (m_tape, .inl (E.2.1 1, 160, .inl f_tape)), (m_ends, .inl (E.2.1 1, 15, .inl f_ends)), (m_letters, .inl (E.2.1 1, 50, .inl f_letters)), (m_afters, .inl (E.2.1 1, 9, .inl f_aftersz_46)), (m_afterOf, .inl (E.2.1 1, 18, .inl f_afterOfz_47))]) C fp_X12_154 4 rfl rfl rfl rfl rfl dX12_say_131 ?_
                  refine ww_aload_n C dX12_say_134 1 rfl rfl ?_
                  refine ww_aload_n C dX12_say_135 1 rfl rfl ?_
                  refine ww_get C fg_X12_157 4 rfl rfl dX12_say_136 ?_
                  refine ww_put (ws' := [(m_actMany, .inl (E.2.1 1, 25, .inl g_am)), (m_actOf, .inl (E.2.1 1, 800, .inl g_ac)), (m_whom, .inl (E.2.1 1, 800, .inl g_wh)), (m_tokens, .inl (E.2.1 1, 9, .inl f_tokens)), (hm, .inr (12, [.ref m_manys, .ref m_reals, .ref m_factsOf, .ref m_possible, .int (nI q_undos), .int (nI q_models), .ref m_tape, .int 0, .int (nI wr1), .int (nI wr1), .int (nI l_), .int (nI sp1), .int (nI pl1), .int (nI tk1), .int (nI vl1), .ref m_ends, .ref m_letters, .ref m_actOf, .ref m_whom, .ref m_actMany, .ref m_tokens, .ref m_afters, .ref m_afterOf, .int (nI ct1), .ref m_pile, .ref m_caseMany, .ref m_happen, .ref m_hasIf, .ref m_becomes, .ref m_goneOf, .ref m_heard, .ref m_pairs, .ref m_heaps, .int q_rounds, .int q_heapMany, .ref m_led, .ref m_newAt, .ref m_knowing, .ref m_firsts, .int (nI q_people), .ref m_secrets, .ref m_tried, .ref m_lanes, .ref m_lengths, .ref m_cells])), (m_tape, .inl (E.2.1 1, 160, .inl f_tape)), (m_ends, .inl (E.2.1 1, 15, .inl f_ends)), (m_letters, .inl (E.2.1 1, 50, .inl f_letters)), (m_afters, .inl (E.2.1 1, 9, .inl f_aftersz_46)), (m_afterOf, .inl (E.2.1 1, 18, .inl f_afterOfz_47))]) C fp_X12_218 4 rfl rfl rfl rfl rfl dX12_say_139 ?_
                  refine ww_aload_n C dX12_say_142 1 rfl rfl ?_
                  refine ww_get C fg_X12_157 4 rfl rfl dX12_say_143 ?_
                  refine ww_if_le (tgt := 157) C dX12_say_146 (by decide) (fun c_107 => ?_) (fun c_107 => ?_)
                  · have zc_107 : ((wr1 : Nat) : Int) ≤ 0 := i_le (nI_toInt (n := wr1) (by omega)) rfl c_107
                    omega
                  · have zc_107 : ((wr1 : Nat) : Int) > 0 := i_nle (nI_toInt (n := wr1) (by omega)) rfl c_107
                    refine ww_bipush (v := (-10)) C dX12_say_149 rfl ?_
                    refine ww_aload_n C dX12_say_151 1 rfl rfl ?_
                    refine ww_get C fg_X12_163 4 rfl rfl dX12_say_152 ?_
                    refine ww_isub (v := ((-10 : Int32) - (nI l_))) C dX12_say_155 rfl ?_
                    exact ww_iret (u := [(hm, .inr (12, [.ref m_manys, .ref m_reals, .ref m_factsOf, .ref m_possible, .int (nI q_undos), .int (nI q_models), .ref m_tape, .int 0, .int (nI wr1), .int (nI wr1), .int (nI l_), .int (nI sp1), .int (nI pl1), .int (nI tk1), .int (nI vl1), .ref m_ends, .ref m_letters, .ref m_actOf, .ref m_whom, .ref m_actMany, .ref m_tokens, .ref m_afters, .ref m_afterOf, .int (nI ct1), .ref m_pile, .ref m_caseMany, .ref m_happen, .ref m_hasIf, .ref m_becomes, .ref m_goneOf, .ref m_heard, .ref m_pairs, .ref m_heaps, .int q_rounds, .int q_heapMany, .ref m_led, .ref m_newAt, .ref m_knowing, .ref m_firsts, .int (nI q_people), .ref m_secrets, .ref m_tried, .ref m_lanes, .ref m_lengths, .ref m_cells])), (m_tape, .inl (E.2.1 1, 160, .inl f_tape)), (m_ends, .inl (E.2.1 1, 15, .inl f_ends)), (m_letters, .inl (E.2.1 1, 50, .inl f_letters)), (m_actMany, .inl (E.2.1 1, 25, .inl g_am)), (m_actOf, .inl (E.2.1 1, 800, .inl g_ac)), (m_whom, .inl (E.2.1 1, 800, .inl g_wh)), (m_tokens, .inl (E.2.1 1, 9, .inl f_tokens)), (m_afters, .inl (E.2.1 1, 9, .inl f_aftersz_46)), (m_afterOf, .inl (E.2.1 1, 18, .inl f_afterOfz_47))]) C hT [4, 5, 6, 7, 0, 1, 2, 3, 8, 9] (gqk (by eq_refl)) (ndk (by decide +kernel)) rfl rfl dX12_say_156 (Or.inr (Or.inl ⟨(nI wr1), (nI wr1), (nI l_), (nI sp1), (nI pl1), (nI ct1), tk1, vl1, g_am, g_ac, g_wh, f_tokens, f_aftersz_46, f_afterOfz_47, l_, rfl, rfl, hnb_m_actMany_55, h_52, h_53, (SV.keep hsv hko hkm), (by omega), (by omega), (by omega), (by omega), (Or.inr (Or.inr ⟨_, _, _, _, (by rw [← h_23.2.1]; omega), h_57, Or.inl hc_⟩)), hko, hkw, hkm, (KP.tr (KP.put KP.rf (by omega) ef_10) h_54), h_55, rfl⟩))
                · have zc_106 : ((wr1 : Nat) : Int) = 0 := i_eq (nI_toInt (n := wr1) (by omega)) rfl c_106
                  omega
            · have zc_81 : ((wr1 : Nat) : Int) = 0 := i_eq (nI_toInt (n := wr1) (by omega)) rfl c_81
              refine ww_iload_n C dX12_say_62 0 rfl rfl ?_
              refine ww_if_le (tgt := 110) C dX12_say_63 (by decide) (fun c_108 => ?_) (fun c_108 => ?_)
              · have zc_108 : ((op1 : Nat) : Int) ≤ 0 := i_le (nI_toInt (n := op1) (by omega)) rfl c_108
                rcases Nat.eq_zero_or_pos wr1 with hw0 | hw0
                · subst hw0
                  obtain ⟨hop_1, hop_2, hop_3, hop_4⟩ := hop rfl
                  obtain ⟨hgo_1, hgo_2, hgo_3, hgo_4⟩ := hgo rfl
                  refine ww_eq (ws' := [(m_actMany, .inl (E.2.1 1, 25, .inl g_am)), (m_actOf, .inl (E.2.1 1, 800, .inl g_ac)), (m_whom, .inl (E.2.1 1, 800, .inl g_wh)), (m_tokens, .inl (E.2.1 1, 9, .inl f_tokens)), (hm, .inr (12, [.ref m_manys, .ref m_reals, .ref m_factsOf, .ref m_possible, .int (nI q_undos), .int (nI q_models), .ref m_tape, .int (nI q_taped), .int q_fault, .int 0, .int wa1, .int (nI sp1), .int (nI pl1), .int (nI tk1), .int (nI vl1), .ref m_ends, .ref m_letters, .ref m_actOf, .ref m_whom, .ref m_actMany, .ref m_tokens, .ref m_afters, .ref m_afterOf, .int (nI ct1), .ref m_pile, .ref m_caseMany, .ref m_happen, .ref m_hasIf, .ref m_becomes, .ref m_goneOf, .ref m_heard, .ref m_pairs, .ref m_heaps, .int q_rounds, .int q_heapMany, .ref m_led, .ref m_newAt, .ref m_knowing, .ref m_firsts, .int (nI q_people), .ref m_secrets, .ref m_tried, .ref m_lanes, .ref m_lengths, .ref m_cells])), (m_tape, .inl (E.2.1 1, 160, .inl f_tape)), (m_ends, .inl (E.2.1 1, 15, .inl f_ends)), (m_letters, .inl (E.2.1 1, 50, .inl f_letters)), (m_afters, .inl (E.2.1 1, 9, .inl f_aftersz_46)), (m_afterOf, .inl (E.2.1 1, 18, .inl f_afterOfz_47))]) ?_ rfl rfl rfl
                  refine ww_aload_n C dX12_say_110 1 rfl rfl ?_
                  refine ww_get C fg_X12_157 4 rfl rfl dX12_say_111 ?_
                  refine ww_if_ne_f (tgt := 129) C dX12_say_114 (by decide) (rfl) ?_
                  refine ww_aload_n C dX12_say_117 1 rfl rfl ?_
                  refine ww_get C fg_X12_175 4 rfl rfl dX12_say_118 ?_
                  refine ww_if_eq (tgt := 129) C dX12_say_121 (by decide) (fun c_109 => ?_) (fun c_109 => ?_)
                  · have zc_109 : ((tk1 : Nat) : Int) = 0 := i_eq (nI_toInt (n := tk1) (by omega)) rfl c_109
                    refine ww_aload_n C dX12_say_129 1 rfl rfl ?_
                    refine ww_iconst (v := 0) C dX12_say_130 rfl ?_
                    refine ww_put (ws' := [(m_actMany, .inl (E.2.1 1, 25, .inl g_am)), (m_actOf, .inl (E.2.1 1, 800, .inl g_ac)), (m_whom, .inl (E.2.1 1, 800, .inl g_wh)), (m_tokens, .inl (E.2.1 1, 9, .inl f_tokens)), (hm, .inr (12, [.ref m_manys, .ref m_reals, .ref m_factsOf, .ref m_possible, .int (nI q_undos), .int (nI q_models), .ref m_tape, .int 0, .int q_fault, .int 0, .int wa1, .int (nI sp1), .int (nI pl1), .int (nI tk1), .int (nI vl1), .ref m_ends, .ref m_letters, .ref m_actOf, .ref m_whom, .ref m_actMany, .ref m_tokens, .ref m_afters, .ref m_afterOf, .int (nI ct1), .ref m_pile, .ref m_caseMany, .ref m_happen, .ref m_hasIf, .ref m_becomes, .ref m_goneOf, .ref m_heard, .ref m_pairs, .ref m_heaps, .int q_rounds, .int q_heapMany, .ref m_led, .ref m_newAt, .ref m_knowing, .ref m_firsts, .int (nI q_people), .ref m_secrets, .ref m_tried, .ref m_lanes, .ref m_lengths, .ref m_cells])), (m_tape, .inl (E.2.1 1, 160, .inl f_tape)), (m_ends, .inl (E.2.1 1, 15, .inl f_ends)), (m_letters, .inl (E.2.1 1, 50, .inl f_letters)), (m_afters, .inl (E.2.1 1, 9, .inl f_aftersz_46)), (m_afterOf, .inl (E.2.1 1, 18, .inl f_afterOfz_47))]) C fp_X12_154 4 rfl rfl rfl rfl rfl dX12_say_131 ?_
                    refine ww_aload_n C dX12_say_134 1 rfl rfl ?_
                    refine ww_aload_n C dX12_say_135 1 rfl rfl ?_
                    refine ww_get C fg_X12_157 4 rfl rfl dX12_say_136 ?_
                    refine ww_put (ws' := [(m_actMany, .inl (E.2.1 1, 25, .inl g_am)), (m_actOf, .inl (E.2.1 1, 800, .inl g_ac)), (m_whom, .inl (E.2.1 1, 800, .inl g_wh)), (m_tokens, .inl (E.2.1 1, 9, .inl f_tokens)), (hm, .inr (12, [.ref m_manys, .ref m_reals, .ref m_factsOf, .ref m_possible, .int (nI q_undos), .int (nI q_models), .ref m_tape, .int 0, .int 0, .int 0, .int wa1, .int (nI sp1), .int (nI pl1), .int (nI tk1), .int (nI vl1), .ref m_ends, .ref m_letters, .ref m_actOf, .ref m_whom, .ref m_actMany, .ref m_tokens, .ref m_afters, .ref m_afterOf, .int (nI ct1), .ref m_pile, .ref m_caseMany, .ref m_happen, .ref m_hasIf, .ref m_becomes, .ref m_goneOf, .ref m_heard, .ref m_pairs, .ref m_heaps, .int q_rounds, .int q_heapMany, .ref m_led, .ref m_newAt, .ref m_knowing, .ref m_firsts, .int (nI q_people), .ref m_secrets, .ref m_tried, .ref m_lanes, .ref m_lengths, .ref m_cells])), (m_tape, .inl (E.2.1 1, 160, .inl f_tape)), (m_ends, .inl (E.2.1 1, 15, .inl f_ends)), (m_letters, .inl (E.2.1 1, 50, .inl f_letters)), (m_afters, .inl (E.2.1 1, 9, .inl f_aftersz_46)), (m_afterOf, .inl (E.2.1 1, 18, .inl f_afterOfz_47))]) C fp_X12_218 4 rfl rfl rfl rfl rfl dX12_say_139 ?_
                    refine ww_aload_n C dX12_say_142 1 rfl rfl ?_
                    refine ww_get C fg_X12_157 4 rfl rfl dX12_say_143 ?_
                    refine ww_if_le_t (tgt := 157) C dX12_say_146 (by decide) (by decide) ?_
                    obtain ⟨j_110, hj_110, rfl⟩ := i_nat (x := v0) (N := 7) (by omega) (by omega)
                    have hzj_110 := nI_toInt (n := j_110) (by omega)
                    have hsv2 := SV.keep hsv hko hkm
                    have hop0 : opr (slot g_ac 24) (cN g_am 24) = 0 := by omega
                    refine ww_aload_n C dX12_say_157 1 rfl rfl ?_
                    refine ww_bipush (v := 24) C dX12_say_158 rfl ?_
                    refine ww_iload_n C dX12_say_160 2 rfl rfl ?_
                    refine ww_cv (wr := [(m_tokens, .inl (E.2.1 1, 9, .inl f_tokens)), (m_tape, .inl (E.2.1 1, 160, .inl f_tape)), (m_ends, .inl (E.2.1 1, 15, .inl f_ends)), (m_letters, .inl (E.2.1 1, 50, .inl f_letters)), (m_afters, .inl (E.2.1 1, 9, .inl f_aftersz_46)), (m_afterOf, .inl (E.2.1 1, 18, .inl f_afterOfz_47))]) (k' := 0) (n' := 0) C (run_V (As := [.int 24, .int (nI j_110)]) (rest := []) C (r_copyActs X.2.1 E ro hm 24 j_110 m_manys m_reals m_factsOf m_possible q_undos q_models m_tape 0 0 0 wa1 (nI sp1) (nI pl1) (nI tk1) (nI vl1) m_ends m_letters m_actOf m_whom m_actMany m_tokens m_afters m_afterOf (nI ct1) m_pile m_caseMany m_happen m_hasIf m_becomes m_goneOf m_heard m_pairs m_heaps q_rounds q_heapMany m_led m_newAt m_knowing m_firsts q_people m_secrets m_tried m_lanes m_lengths m_cells g_am g_ac g_wh hnb_m_actMany_55 hsv2 (by omega) (by omega) ⟨by omega, hop_1, Or.inr hop0⟩) mi_X12_copyActs wl_X12_221 rfl 0 12 rfl rfl rfl rfl rfl dX12_say_161) (roK hro) [4, 0, 1, 2] [3, 5, 6, 7, 8, 9] rfl rfl (plk (by decide +kernel)) rfl (fun uz hw => ?_)
                    refine ex3 hw ?_
                    clear hw
                    intro f_actManyz_112 f_actOfz_113 f_whomz_114 hw
                    refine an5 hw ?_
                    clear hw
                    intro he_120 h_115 h_116 h_117 h_118 hw
                    have h_119 := hw
                    clear hw
                    subst he_120
                    refine ww_eq (ws' := [(m_tokens, .inl (E.2.1 1, 9, .inl f_tokens)), (m_tape, .inl (E.2.1 1, 160, .inl f_tape)), (m_ends, .inl (E.2.1 1, 15, .inl f_ends)), (m_letters, .inl (E.2.1 1, 50, .inl f_letters)), (m_afters, .inl (E.2.1 1, 9, .inl f_aftersz_46)), (m_afterOf, .inl (E.2.1 1, 18, .inl f_afterOfz_47)), (hm, .inr (12, [.ref m_manys, .ref m_reals, .ref m_factsOf, .ref m_possible, .int (nI q_undos), .int (nI q_models), .ref m_tape, .int 0, .int 0, .int 0, .int wa1, .int (nI sp1), .int (nI pl1), .int (nI tk1), .int (nI vl1), .ref m_ends, .ref m_letters, .ref m_actOf, .ref m_whom, .ref m_actMany, .ref m_tokens, .ref m_afters, .ref m_afterOf, .int (nI ct1), .ref m_pile, .ref m_caseMany, .ref m_happen, .ref m_hasIf, .ref m_becomes, .ref m_goneOf, .ref m_heard, .ref m_pairs, .ref m_heaps, .int q_rounds, .int q_heapMany, .ref m_led, .ref m_newAt, .ref m_knowing, .ref m_firsts, .int (nI q_people), .ref m_secrets, .ref m_tried, .ref m_lanes, .ref m_lengths, .ref m_cells])), (m_actMany, .inl (E.2.1 1, 25, .inl f_actManyz_112)), (m_actOf, .inl (E.2.1 1, 800, .inl f_actOfz_113)), (m_whom, .inl (E.2.1 1, 800, .inl f_whomz_114))]) ?_ rfl rfl rfl
                    refine ww_aload_n C dX12_say_164 1 rfl rfl ?_
                    refine ww_get C fg_X12_40 6 rfl rfl dX12_say_165 ?_
                    refine ww_iload_n C dX12_say_168 2 rfl rfl ?_
                    refine ww_aload_n C dX12_say_169 1 rfl rfl ?_
                    refine ww_get C fg_X12_191 6 rfl rfl dX12_say_170 ?_
                    obtain ⟨f_121, ef_121⟩ : ∃ z : Nat → Int32, upd f_tokens j_110 (nI ct1) = z := ⟨_, rfl⟩
                    refine ww_iast (ws' := [(m_tokens, .inl (E.2.1 1, 9, .inl f_121)), (m_tape, .inl (E.2.1 1, 160, .inl f_tape)), (m_ends, .inl (E.2.1 1, 15, .inl f_ends)), (m_letters, .inl (E.2.1 1, 50, .inl f_letters)), (m_afters, .inl (E.2.1 1, 9, .inl f_aftersz_46)), (m_afterOf, .inl (E.2.1 1, 18, .inl f_afterOfz_47)), (hm, .inr (12, [.ref m_manys, .ref m_reals, .ref m_factsOf, .ref m_possible, .int (nI q_undos), .int (nI q_models), .ref m_tape, .int 0, .int 0, .int 0, .int wa1, .int (nI sp1), .int (nI pl1), .int (nI tk1), .int (nI vl1), .ref m_ends, .ref m_letters, .ref m_actOf, .ref m_whom, .ref m_actMany, .ref m_tokens, .ref m_afters, .ref m_afterOf, .int (nI ct1), .ref m_pile, .ref m_caseMany, .ref m_happen, .ref m_hasIf, .ref m_becomes, .ref m_goneOf, .ref m_heard, .ref m_pairs, .ref m_heaps, .int q_rounds, .int q_heapMany, .ref m_led, .ref m_newAt, .ref m_knowing, .ref m_firsts, .int (nI q_people), .ref m_secrets, .ref m_tried, .ref m_lanes, .ref m_lengths, .ref m_cells])), (m_actMany, .inl (E.2.1 1, 25, .inl f_actManyz_112)), (m_actOf, .inl (E.2.1 1, 800, .inl f_actOfz_113)), (m_whom, .inl (E.2.1 1, 800, .inl f_whomz_114))]) C 0 rfl (vp_in_nI (by omega) (by omega)) (ldn2 (by omega) ef_121) rfl dX12_say_173 ?_
                    refine ww_aload_n C dX12_say_174 1 rfl rfl ?_
                    refine ww_get C fg_X12_43 6 rfl rfl dX12_say_175 ?_
                    refine ww_iload_n C dX12_say_178 2 rfl rfl ?_
                    refine ww_aload_n C dX12_say_179 1 rfl rfl ?_
                    refine ww_get C fg_X12_43 6 rfl rfl dX12_say_180 ?_
                    refine ww_bipush (v := 8) C dX12_say_183 rfl ?_
                    have hbx_122 := (h_52 8 (by omega)).2
                    refine ww_iald (v := (nI (cN f_aftersz_46 8))) C 4 rfl (vin rfl) (h_52 8 (by omega)).1 dX12_say_185 ?_
                    obtain ⟨f_123, ef_123⟩ : ∃ z : Nat → Int32, upd f_aftersz_46 j_110 (nI (cN f_aftersz_46 8)) = z := ⟨_, rfl⟩
                    refine ww_iast (ws' := [(m_tokens, .inl (E.2.1 1, 9, .inl f_121)), (m_tape, .inl (E.2.1 1, 160, .inl f_tape)), (m_ends, .inl (E.2.1 1, 15, .inl f_ends)), (m_letters, .inl (E.2.1 1, 50, .inl f_letters)), (m_afters, .inl (E.2.1 1, 9, .inl f_123)), (m_afterOf, .inl (E.2.1 1, 18, .inl f_afterOfz_47)), (hm, .inr (12, [.ref m_manys, .ref m_reals, .ref m_factsOf, .ref m_possible, .int (nI q_undos), .int (nI q_models), .ref m_tape, .int 0, .int 0, .int 0, .int wa1, .int (nI sp1), .int (nI pl1), .int (nI tk1), .int (nI vl1), .ref m_ends, .ref m_letters, .ref m_actOf, .ref m_whom, .ref m_actMany, .ref m_tokens, .ref m_afters, .ref m_afterOf, .int (nI ct1), .ref m_pile, .ref m_caseMany, .ref m_happen, .ref m_hasIf, .ref m_becomes, .ref m_goneOf, .ref m_heard, .ref m_pairs, .ref m_heaps, .int q_rounds, .int q_heapMany, .ref m_led, .ref m_newAt, .ref m_knowing, .ref m_firsts, .int (nI q_people), .ref m_secrets, .ref m_tried, .ref m_lanes, .ref m_lengths, .ref m_cells])), (m_actMany, .inl (E.2.1 1, 25, .inl f_actManyz_112)), (m_actOf, .inl (E.2.1 1, 800, .inl f_actOfz_113)), (m_whom, .inl (E.2.1 1, 800, .inl f_whomz_114))]) C 4 rfl (vp_in_nI (by omega) (by omega)) (ldn2 (by omega) ef_123) rfl dX12_say_186 ?_
                    refine ww_aload_n C dX12_say_187 1 rfl rfl ?_
                    refine ww_get C fg_X12_46 6 rfl rfl dX12_say_188 ?_
                    refine ww_iconst (v := 2) C dX12_say_191 rfl ?_
                    refine ww_iload_n C dX12_say_192 2 rfl rfl ?_
                    refine ww_imul (v := (nI (2 * j_110))) C dX12_say_193 (pk_mul 2 j_110) ?_
                    refine ww_aload_n C dX12_say_194 1 rfl rfl ?_
                    refine ww_get C fg_X12_46 6 rfl rfl dX12_say_195 ?_
                    refine ww_bipush (v := 16) C dX12_say_198 rfl ?_
                    have hbx_124 := (h_53 16 (by omega)).2
                    refine ww_iald (v := (nI (cN f_afterOfz_47 16))) C 5 rfl (vin rfl) (h_53 16 (by omega)).1 dX12_say_200 ?_
                    obtain ⟨f_125, ef_125⟩ : ∃ z : Nat → Int32, upd f_afterOfz_47 (2 * j_110) (nI (cN f_afterOfz_47 16)) = z := ⟨_, rfl⟩
                    refine ww_iast (ws' := [(m_tokens, .inl (E.2.1 1, 9, .inl f_121)), (m_tape, .inl (E.2.1 1, 160, .inl f_tape)), (m_ends, .inl (E.2.1 1, 15, .inl f_ends)), (m_letters, .inl (E.2.1 1, 50, .inl f_letters)), (m_afters, .inl (E.2.1 1, 9, .inl f_123)), (m_afterOf, .inl (E.2.1 1, 18, .inl f_125)), (hm, .inr (12, [.ref m_manys, .ref m_reals, .ref m_factsOf, .ref m_possible, .int (nI q_undos), .int (nI q_models), .ref m_tape, .int 0, .int 0, .int 0, .int wa1, .int (nI sp1), .int (nI pl1), .int (nI tk1), .int (nI vl1), .ref m_ends, .ref m_letters, .ref m_actOf, .ref m_whom, .ref m_actMany, .ref m_tokens, .ref m_afters, .ref m_afterOf, .int (nI ct1), .ref m_pile, .ref m_caseMany, .ref m_happen, .ref m_hasIf, .ref m_becomes, .ref m_goneOf, .ref m_heard, .ref m_pairs, .ref m_heaps, .int q_rounds, .int q_heapMany, .ref m_led, .ref m_newAt, .ref m_knowing, .ref m_firsts, .int (nI q_people), .ref m_secrets, .ref m_tried, .ref m_lanes, .ref m_lengths, .ref m_cells])), (m_actMany, .inl (E.2.1 1, 25, .inl f_actManyz_112)), (m_actOf, .inl (E.2.1 1, 800, .inl f_actOfz_113)), (m_whom, .inl (E.2.1 1, 800, .inl f_whomz_114))]) C 5 rfl (vp_in_nI (by omega) (by omega)) (ldn2 (by omega) ef_125) rfl dX12_say_201 ?_
                    refine ww_aload_n C dX12_say_202 1 rfl rfl ?_
                    refine ww_get C fg_X12_46 6 rfl rfl dX12_say_203 ?_
                    refine ww_iconst (v := 2) C dX12_say_206 rfl ?_
                    refine ww_iload_n C dX12_say_207 2 rfl rfl ?_
                    refine ww_imul (v := (nI (2 * j_110))) C dX12_say_208 (pk_mul 2 j_110) ?_
                    refine ww_iconst (v := 1) C dX12_say_209 rfl ?_
                    refine ww_iadd (v := (nI ((2 * j_110) + 1))) C dX12_say_210 (nI_add (2 * j_110) 1) ?_
                    refine ww_aload_n C dX12_say_211 1 rfl rfl ?_
                    refine ww_get C fg_X12_46 6 rfl rfl dX12_say_212 ?_
                    refine ww_bipush (v := 17) C dX12_say_215 rfl ?_
                    have hbx_126 := ((NB.put h_53 (t := cN f_afterOfz_47 16) (by omega) (by decide) ef_125) 17 (by omega)).2
                    refine ww_iald (v := (nI (cN f_125 17))) C 5 rfl (vin rfl) ((NB.put h_53 (t := cN f_afterOfz_47 16) (by omega) (by decide) ef_125) 17 (by omega)).1 dX12_say_217 ?_
                    obtain ⟨f_127, ef_127⟩ : ∃ z : Nat → Int32, upd f_125 ((2 * j_110) + 1) (nI (cN f_125 17)) = z := ⟨_, rfl⟩
                    refine ww_iast (ws' := [(m_tokens, .inl (E.2.1 1, 9, .inl f_121)), (m_tape, .inl (E.2.1 1, 160, .inl f_tape)), (m_ends, .inl (E.2.1 1, 15, .inl f_ends)), (m_letters, .inl (E.2.1 1, 50, .inl f_letters)), (m_afters, .inl (E.2.1 1, 9, .inl f_123)), (m_afterOf, .inl (E.2.1 1, 18, .inl f_127)), (hm, .inr (12, [.ref m_manys, .ref m_reals, .ref m_factsOf, .ref m_possible, .int (nI q_undos), .int (nI q_models), .ref m_tape, .int 0, .int 0, .int 0, .int wa1, .int (nI sp1), .int (nI pl1), .int (nI tk1), .int (nI vl1), .ref m_ends, .ref m_letters, .ref m_actOf, .ref m_whom, .ref m_actMany, .ref m_tokens, .ref m_afters, .ref m_afterOf, .int (nI ct1), .ref m_pile, .ref m_caseMany, .ref m_happen, .ref m_hasIf, .ref m_becomes, .ref m_goneOf, .ref m_heard, .ref m_pairs, .ref m_heaps, .int q_rounds, .int q_heapMany, .ref m_led, .ref m_newAt, .ref m_knowing, .ref m_firsts, .int (nI q_people), .ref m_secrets, .ref m_tried, .ref m_lanes, .ref m_lengths, .ref m_cells])), (m_actMany, .inl (E.2.1 1, 25, .inl f_actManyz_112)), (m_actOf, .inl (E.2.1 1, 800, .inl f_actOfz_113)), (m_whom, .inl (E.2.1 1, 800, .inl f_whomz_114))]) C 5 rfl (vp_in_nI (by omega) (by omega)) (ldn2 (by omega) ef_127) rfl dX12_say_218 ?_
                    refine ww_aload_n C dX12_say_219 1 rfl rfl ?_
                    refine ww_get C fg_X12_191 6 rfl rfl dX12_say_220 ?_
                    exact ww_iret (u := [(hm, .inr (12, [.ref m_manys, .ref m_reals, .ref m_factsOf, .ref m_possible, .int (nI q_undos), .int (nI q_models), .ref m_tape, .int 0, .int 0, .int 0, .int wa1, .int (nI sp1), .int (nI pl1), .int (nI tk1), .int (nI vl1), .ref m_ends, .ref m_letters, .ref m_actOf, .ref m_whom, .ref m_actMany, .ref m_tokens, .ref m_afters, .ref m_afterOf, .int (nI ct1), .ref m_pile, .ref m_caseMany, .ref m_happen, .ref m_hasIf, .ref m_becomes, .ref m_goneOf, .ref m_heard, .ref m_pairs, .ref m_heaps, .int q_rounds, .int q_heapMany, .ref m_led, .ref m_newAt, .ref m_knowing, .ref m_firsts, .int (nI q_people), .ref m_secrets, .ref m_tried, .ref m_lanes, .ref m_lengths, .ref m_cells])), (m_tape, .inl (E.2.1 1, 160, .inl f_tape)), (m_ends, .inl (E.2.1 1, 15, .inl f_ends)), (m_letters, .inl (E.2.1 1, 50, .inl f_letters)), (m_actMany, .inl (E.2.1 1, 25, .inl f_actManyz_112)), (m_actOf, .inl (E.2.1 1, 800, .inl f_actOfz_113)), (m_whom, .inl (E.2.1 1, 800, .inl f_whomz_114)), (m_tokens, .inl (E.2.1 1, 9, .inl f_121)), (m_afters, .inl (E.2.1 1, 9, .inl f_123)), (m_afterOf, .inl (E.2.1 1, 18, .inl f_127))]) C hT [6, 1, 2, 3, 7, 8, 9, 0, 4, 5] (gqk (by eq_refl)) (ndk (by decide +kernel)) rfl rfl dX12_say_223 (Or.inr (Or.inr ⟨0, 0, wa1, (nI sp1), (nI pl1), tk1, vl1, ct1, f_actManyz_112, f_actOfz_113, f_whomz_114, f_121, f_123, f_127, j_110, p2_42, (cN f_aftersz_46 8), v__43, w__44, (cN g_am 24), rfl, rfl, h_115, (NB.put h_52 (t := cN f_aftersz_46 8) (by omega) (by decide) ef_123), (NB.put (NB.put h_53 (t := cN f_afterOfz_47 16) (by omega) (by decide) ef_125) (t := cN f_125 17) (by omega) (by decide) ef_127), h_116, (by omega), (by omega), rfl, (by omega), ⟨(by rw [← h_23.2.1]; omega), h_57, (by omega), hgo_3, _, (by rw [hgo_2, show op1 = 0 by omega]), (by rw [← hgo_1.2.1]; omega)⟩, (fun i hi => ((h_118).1 i (by omega)).trans (hgo_4 i hi).1), (fun i hi => ((h_119).1 i (by omega)).trans (hgo_4 i hi).2.1), (fun i hi => (hgo_4 i hi).2.2), (fun j hj hn => KP.cpg hko h_118 (by omega) hj hn), (fun j hj hn => KP.cpg hkw h_119 (by omega) hj hn), ⟨cN_s (by omega) h_117, fun j hj hn => (cN_n h_117 hn).trans (hkm.at hj)⟩, ef_121, ⟨(congrFun ef_123.symm _).trans pk_us, fun j hj hn => ((congrFun ef_123.symm j).trans (pk_un hn)).trans ((KP.tr (KP.put KP.rf (by omega) ef_10) h_54) j hj)⟩, ⟨fun h9 => by rw [← ef_127, pk_un (by omega), ← ef_125, pk_us]; exact (h_53 16 (by omega)).1.symm.trans (h_58.1 h9), fun h9 => by rw [← ef_127, pk_us, cN_n ef_125 (by omega)]; exact (h_53 17 (by omega)).1.symm.trans (h_58.2 h9), fun j hj h8 h9 => by rw [← ef_127, pk_un (by omega), ← ef_125, pk_un (by omega)]; exact h_55 j hj⟩, (by omega), (by omega), (by omega)⟩))
                  · have zc_109 : ((tk1 : Nat) : Int) ≠ 0 := i_ne (nI_toInt (n := tk1) (by omega)) rfl c_109
                    refine ww_aload_n C dX12_say_124 1 rfl rfl ?_
                    refine ww_iconst (v := 2) C dX12_say_125 rfl ?_
                    refine ww_cv (wr := [(m_actMany, .inl (E.2.1 1, 25, .inl g_am)), (m_actOf, .inl (E.2.1 1, 800, .inl g_ac)), (m_whom, .inl (E.2.1 1, 800, .inl g_wh)), (m_tokens, .inl (E.2.1 1, 9, .inl f_tokens)), (m_tape, .inl (E.2.1 1, 160, .inl f_tape)), (m_ends, .inl (E.2.1 1, 15, .inl f_ends)), (m_letters, .inl (E.2.1 1, 50, .inl f_letters)), (m_afters, .inl (E.2.1 1, 9, .inl f_aftersz_46)), (m_afterOf, .inl (E.2.1 1, 18, .inl f_afterOfz_47))]) (k' := 0) (n' := 0) C (run_V (As := [.int 2]) (rest := []) C (r_fails X.2.1 E ro hm 2 m_manys m_reals m_factsOf m_possible q_undos q_models m_tape q_taped q_fault 0 wa1 (nI sp1) (nI pl1) (nI tk1) (nI vl1) m_ends m_letters m_actOf m_whom m_actMany m_tokens m_afters m_afterOf (nI ct1) m_pile m_caseMany m_happen m_hasIf m_becomes m_goneOf m_heard m_pairs m_heaps q_rounds q_heapMany m_led m_newAt m_knowing m_firsts q_people m_secrets m_tried m_lanes m_lengths m_cells (by omega)) mi_X12_fails wl_X12_186 rfl 0 12 rfl rfl rfl rfl rfl dX12_say_126) (roK hro) [4] [0, 1, 2, 3, 5, 6, 7, 8, 9] rfl (gqk (by eq_refl)) (plk (by decide +kernel)) rfl (fun uz hw => ?_)
                    rcases hw with hw | hw
                    · refine an1 hw ?_
                      clear hw
                      intro he_130 hw
                      have h_129 := hw
                      clear hw
                      subst he_130
                      refine ww_eq (ws' := [(m_actMany, .inl (E.2.1 1, 25, .inl g_am)), (m_actOf, .inl (E.2.1 1, 800, .inl g_ac)), (m_whom, .inl (E.2.1 1, 800, .inl g_wh)), (m_tokens, .inl (E.2.1 1, 9, .inl f_tokens)), (m_tape, .inl (E.2.1 1, 160, .inl f_tape)), (m_ends, .inl (E.2.1 1, 15, .inl f_ends)), (m_letters, .inl (E.2.1 1, 50, .inl f_letters)), (m_afters, .inl (E.2.1 1, 9, .inl f_aftersz_46)), (m_afterOf, .inl (E.2.1 1, 18, .inl f_afterOfz_47)), (hm, .inr (12, [.ref m_manys, .ref m_reals, .ref m_factsOf, .ref m_possible, .int (nI q_undos), .int (nI q_models), .ref m_tape, .int (nI q_taped), .int q_fault, .int 2, .int (nI pl1), .int (nI sp1), .int (nI pl1), .int (nI tk1), .int (nI vl1), .ref m_ends, .ref m_letters, .ref m_actOf, .ref m_whom, .ref m_actMany, .ref m_tokens, .ref m_afters, .ref m_afterOf, .int (nI ct1), .ref m_pile, .ref m_caseMany, .ref m_happen, .ref m_hasIf, .ref m_becomes, .ref m_goneOf, .ref m_heard, .ref m_pairs, .ref m_heaps, .int q_rounds, .int q_heapMany, .ref m_led, .ref m_newAt, .ref m_knowing, .ref m_firsts, .int (nI q_people), .ref m_secrets, .ref m_tried, .ref m_lanes, .ref m_lengths, .ref m_cells]))]) ?_ rfl rfl rfl
                      refine ww_aload_n C dX12_say_129 1 rfl rfl ?_
                      refine ww_iconst (v := 0) C dX12_say_130 rfl ?_
                      refine ww_put (ws' := [(m_actMany, .inl (E.2.1 1, 25, .inl g_am)), (m_actOf, .inl (E.2.1 1, 800, .inl g_ac)), (m_whom, .inl (E.2.1 1, 800, .inl g_wh)), (m_tokens, .inl (E.2.1 1, 9, .inl f_tokens)), (m_tape, .inl (E.2.1 1, 160, .inl f_tape)), (m_ends, .inl (E.2.1 1, 15, .inl f_ends)), (m_letters, .inl (E.2.1 1, 50, .inl f_letters)), (m_afters, .inl (E.2.1 1, 9, .inl f_aftersz_46)), (m_afterOf, .inl (E.2.1 1, 18, .inl f_afterOfz_47)), (hm, .inr (12, [.ref m_manys, .ref m_reals, .ref m_factsOf, .ref m_possible, .int (nI q_undos), .int (nI q_models), .ref m_tape, .int 0, .int q_fault, .int 2, .int (nI pl1), .int (nI sp1), .int (nI pl1), .int (nI tk1), .int (nI vl1), .ref m_ends, .ref m_letters, .ref m_actOf, .ref m_whom, .ref m_actMany, .ref m_tokens, .ref m_afters, .ref m_afterOf, .int (nI ct1), .ref m_pile, .ref m_caseMany, .ref m_happen, .ref m_hasIf, .ref m_becomes, .ref m_goneOf, .ref m_heard, .ref m_pairs, .ref m_heaps, .int q_rounds, .int q_heapMany, .ref m_led, .ref m_newAt, .ref m_knowing, .ref m_firsts, .int (nI q_people), .ref m_secrets, .ref m_tried, .ref m_lanes, .ref m_lengths, .ref m_cells]))]) C fp_X12_154 9 rfl rfl rfl rfl rfl dX12_say_131 ?_
                      refine ww_aload_n C dX12_say_134 1 rfl rfl ?_
                      refine ww_aload_n C dX12_say_135 1 rfl rfl ?_
                      refine ww_get C fg_X12_157 9 rfl rfl dX12_say_136 ?_
                      refine ww_put (ws' := [(m_actMany, .inl (E.2.1 1, 25, .inl g_am)), (m_actOf, .inl (E.2.1 1, 800, .inl g_ac)), (m_whom, .inl (E.2.1 1, 800, .inl g_wh)), (m_tokens, .inl (E.2.1 1, 9, .inl f_tokens)), (m_tape, .inl (E.2.1 1, 160, .inl f_tape)), (m_ends, .inl (E.2.1 1, 15, .inl f_ends)), (m_letters, .inl (E.2.1 1, 50, .inl f_letters)), (m_afters, .inl (E.2.1 1, 9, .inl f_aftersz_46)), (m_afterOf, .inl (E.2.1 1, 18, .inl f_afterOfz_47)), (hm, .inr (12, [.ref m_manys, .ref m_reals, .ref m_factsOf, .ref m_possible, .int (nI q_undos), .int (nI q_models), .ref m_tape, .int 0, .int 2, .int 2, .int (nI pl1), .int (nI sp1), .int (nI pl1), .int (nI tk1), .int (nI vl1), .ref m_ends, .ref m_letters, .ref m_actOf, .ref m_whom, .ref m_actMany, .ref m_tokens, .ref m_afters, .ref m_afterOf, .int (nI ct1), .ref m_pile, .ref m_caseMany, .ref m_happen, .ref m_hasIf, .ref m_becomes, .ref m_goneOf, .ref m_heard, .ref m_pairs, .ref m_heaps, .int q_rounds, .int q_heapMany, .ref m_led, .ref m_newAt, .ref m_knowing, .ref m_firsts, .int (nI q_people), .ref m_secrets, .ref m_tried, .ref m_lanes, .ref m_lengths, .ref m_cells]))]) C fp_X12_218 9 rfl rfl rfl rfl rfl dX12_say_139 ?_
                      refine ww_aload_n C dX12_say_142 1 rfl rfl ?_
                      refine ww_get C fg_X12_157 9 rfl rfl dX12_say_143 ?_
                      refine ww_if_le_f (tgt := 157) C dX12_say_146 (by decide) (by decide) ?_
                      refine ww_bipush (v := (-10)) C dX12_say_149 rfl ?_
                      refine ww_aload_n C dX12_say_151 1 rfl rfl ?_
                      refine ww_get C fg_X12_163 9 rfl rfl dX12_say_152 ?_
                      refine ww_isub (v := ((-10 : Int32) - (nI pl1))) C dX12_say_155 rfl ?_
                      exact ww_iret (u := [(hm, .inr (12, [.ref m_manys, .ref m_reals, .ref m_factsOf, .ref m_possible, .int (nI q_undos), .int (nI q_models), .ref m_tape, .int 0, .int 2, .int 2, .int (nI pl1), .int (nI sp1), .int (nI pl1), .int (nI tk1), .int (nI vl1), .ref m_ends, .ref m_letters, .ref m_actOf, .ref m_whom, .ref m_actMany, .ref m_tokens, .ref m_afters, .ref m_afterOf, .int (nI ct1), .ref m_pile, .ref m_caseMany, .ref m_happen, .ref m_hasIf, .ref m_becomes, .ref m_goneOf, .ref m_heard, .ref m_pairs, .ref m_heaps, .int q_rounds, .int q_heapMany, .ref m_led, .ref m_newAt, .ref m_knowing, .ref m_firsts, .int (nI q_people), .ref m_secrets, .ref m_tried, .ref m_lanes, .ref m_lengths, .ref m_cells])), (m_tape, .inl (E.2.1 1, 160, .inl f_tape)), (m_ends, .inl (E.2.1 1, 15, .inl f_ends)), (m_letters, .inl (E.2.1 1, 50, .inl f_letters)), (m_actMany, .inl (E.2.1 1, 25, .inl g_am)), (m_actOf, .inl (E.2.1 1, 800, .inl g_ac)), (m_whom, .inl (E.2.1 1, 800, .inl g_wh)), (m_tokens, .inl (E.2.1 1, 9, .inl f_tokens)), (m_afters, .inl (E.2.1 1, 9, .inl f_aftersz_46)), (m_afterOf, .inl (E.2.1 1, 18, .inl f_afterOfz_47))]) C hT [9, 4, 5, 6, 0, 1, 2, 3, 7, 8] (gqk (by eq_refl)) (ndk (by decide +kernel)) rfl rfl dX12_say_156 (Or.inr (Or.inl ⟨2, 2, (nI pl1), (nI sp1), (nI pl1), (nI ct1), tk1, vl1, g_am, g_ac, g_wh, f_tokens, f_aftersz_46, f_afterOfz_47, pl1, rfl, rfl, hnb_m_actMany_55, h_52, h_53, (SV.keep hsv hko hkm), (by omega), (by omega), (by omega), (by omega), (Or.inr (Or.inr ⟨_, _, _, _, (by rw [← h_23.2.1]; omega), h_57, Or.inr ⟨_, _, it_ok (by rw [hgo_2, show op1 = 0 by omega]) (by omega), (by rw [← hgo_1.2.1]; omega), hgo_1.1⟩⟩)), hko, hkw, hkm, (KP.tr (KP.put KP.rf (by omega) ef_10) h_54), h_55, rfl⟩))
                    · refine an1 hw ?_
                      clear hw
                      intro he_132 hw
                      have h_131 := hw
                      clear hw
                      subst he_132
                      omega
                · obtain ⟨l_, rfl, hc_⟩ := hbd hw0
                  refine ww_eq (ws' := [(m_actMany, .inl (E.2.1 1, 25, .inl g_am)), (m_actOf, .inl (E.2.1 1, 800, .inl g_ac)), (m_whom, .inl (E.2.1 1, 800, .inl g_wh)), (m_tokens, .inl (E.2.1 1, 9, .inl f_tokens)), (hm, .inr (12, [.ref m_manys, .ref m_reals, .ref m_factsOf, .ref m_possible, .int (nI q_undos), .int (nI q_models), .ref m_tape, .int (nI q_taped), .int q_fault, .int (nI wr1), .int (nI l_), .int (nI sp1), .int (nI pl1), .int (nI tk1), .int (nI vl1), .ref m_ends, .ref m_letters, .ref m_actOf, .ref m_whom, .ref m_actMany, .ref m_tokens, .ref m_afters, .ref m_afterOf, .int (nI ct1), .ref m_pile, .ref m_caseMany, .ref m_happen, .ref m_hasIf, .ref m_becomes, .ref m_goneOf, .ref m_heard, .ref m_pairs, .ref m_heaps, .int q_rounds, .int q_heapMany, .ref m_led, .ref m_newAt, .ref m_knowing, .ref m_firsts, .int (nI q_people), .ref m_secrets, .ref m_tried, .ref m_lanes, .ref m_lengths, .ref m_cells])), (m_tape, .inl (E.2.1 1, 160, .inl f_tape)), (m_ends, .inl (E.2.1 1, 15, .inl f_ends)), (m_letters, .inl (E.2.1 1, 50, .inl f_letters)), (m_afters, .inl (E.2.1 1, 9, .inl f_aftersz_46)), (m_afterOf, .inl (E.2.1 1, 18, .inl f_afterOfz_47))]) ?_ rfl rfl rfl
                  refine ww_aload_n C dX12_say_110 1 rfl rfl ?_
                  refine ww_get C fg_X12_157 4 rfl rfl dX12_say_111 ?_
                  refine ww_if_ne (tgt := 129) C dX12_say_114 (by decide) (fun c_133 => ?_) (fun c_133 => ?_)
                  · have zc_133 : ((wr1 : Nat) : Int) ≠ 0 := i_ne (nI_toInt (n := wr1) (by omega)) rfl c_133
                    refine ww_aload_n C dX12_say_129 1 rfl rfl ?_
                    refine ww_iconst (v := 0) C dX12_say_130 rfl ?_
                    refine ww_put (ws' := [(m_actMany, .inl (E.2.1 1, 25, .inl g_am)), (m_actOf, .inl (E.2.1 1, 800, .inl g_ac)), (m_whom, .inl (E.2.1 1, 800, .inl g_wh)), (m_tokens, .inl (E.2.1 1, 9, .inl f_tokens)), (hm, .inr (12, [.ref m_manys, .ref m_reals, .ref m_factsOf, .ref m_possible, .int (nI q_undos), .int (nI q_models), .ref m_tape, .int 0, .int q_fault, .int (nI wr1), .int (nI l_), .int (nI sp1), .int (nI pl1), .int (nI tk1), .int (nI vl1), .ref m_ends, .ref m_letters, .ref m_actOf, .ref m_whom, .ref m_actMany, .ref m_tokens, .ref m_afters, .ref m_afterOf, .int (nI ct1), .ref m_pile, .ref m_caseMany, .ref m_happen, .ref m_hasIf, .ref m_becomes, .ref m_goneOf, .ref m_heard, .ref m_pairs, .ref m_heaps, .int q_rounds, .int q_heapMany, .ref m_led, .ref m_newAt, .ref m_knowing, .ref m_firsts, .int (nI q_people), .ref m_secrets, .ref m_tried, .ref m_lanes, .ref m_lengths, .ref m_cells])), (m_tape, .inl (E.2.1 1, 160, .inl f_tape)), (m_ends, .inl (E.2.1 1, 15, .inl f_ends)), (m_letters, .inl (E.2.1 1, 50, .inl f_letters)), (m_afters, .inl (E.2.1 1, 9, .inl f_aftersz_46)), (m_afterOf, .inl (E.2.1 1, 18, .inl f_afterOfz_47))]) C fp_X12_154 4 rfl rfl rfl rfl rfl dX12_say_131 ?_
                    refine ww_aload_n C dX12_say_134 1 rfl rfl ?_
                    refine ww_aload_n C dX12_say_135 1 rfl rfl ?_
                    refine ww_get C fg_X12_157 4 rfl rfl dX12_say_136 ?_
                    refine ww_put (ws' := [(m_actMany, .inl (E.2.1 1, 25, .inl g_am)), (m_actOf, .inl (E.2.1 1, 800, .inl g_ac)), (m_whom, .inl (E.2.1 1, 800, .inl g_wh)), (m_tokens, .inl (E.2.1 1, 9, .inl f_tokens)), (hm, .inr (12, [.ref m_manys, .ref m_reals, .ref m_factsOf, .ref m_possible, .int (nI q_undos), .int (nI q_models), .ref m_tape, .int 0, .int (nI wr1), .int (nI wr1), .int (nI l_), .int (nI sp1), .int (nI pl1), .int (nI tk1), .int (nI vl1), .ref m_ends, .ref m_letters, .ref m_actOf, .ref m_whom, .ref m_actMany, .ref m_tokens, .ref m_afters, .ref m_afterOf, .int (nI ct1), .ref m_pile, .ref m_caseMany, .ref m_happen, .ref m_hasIf, .ref m_becomes, .ref m_goneOf, .ref m_heard, .ref m_pairs, .ref m_heaps, .int q_rounds, .int q_heapMany, .ref m_led, .ref m_newAt, .ref m_knowing, .ref m_firsts, .int (nI q_people), .ref m_secrets, .ref m_tried, .ref m_lanes, .ref m_lengths, .ref m_cells])), (m_tape, .inl (E.2.1 1, 160, .inl f_tape)), (m_ends, .inl (E.2.1 1, 15, .inl f_ends)), (m_letters, .inl (E.2.1 1, 50, .inl f_letters)), (m_afters, .inl (E.2.1 1, 9, .inl f_aftersz_46)), (m_afterOf, .inl (E.2.1 1, 18, .inl f_afterOfz_47))]) C fp_X12_218 4 rfl rfl rfl rfl rfl dX12_say_139 ?_
                    refine ww_aload_n C dX12_say_142 1 rfl rfl ?_
                    refine ww_get C fg_X12_157 4 rfl rfl dX12_say_143 ?_
                    refine ww_if_le (tgt := 157) C dX12_say_146 (by decide) (fun c_134 => ?_) (fun c_134 => ?_)
                    · have zc_134 : ((wr1 : Nat) : Int) ≤ 0 := i_le (nI_toInt (n := wr1) (by omega)) rfl c_134
                      omega
                    · have zc_134 : ((wr1 : Nat) : Int) > 0 := i_nle (nI_toInt (n := wr1) (by omega)) rfl c_134
                      refine ww_bipush (v := (-10)) C dX12_say_149 rfl ?_
                      refine ww_aload_n C dX12_say_151 1 rfl rfl ?_
                      refine ww_get C fg_X12_163 4 rfl rfl dX12_say_152 ?_
                      refine ww_isub (v := ((-10 : Int32) - (nI l_))) C dX12_say_155 rfl ?_
                      exact ww_iret (u := [(hm, .inr (12, [.ref m_manys, .ref m_reals, .ref m_factsOf, .ref m_possible, .int (nI q_undos), .int (nI q_models), .ref m_tape, .int 0, .int (nI wr1), .int (nI wr1), .int (nI l_), .int (nI sp1), .int (nI pl1), .int (nI tk1), .int (nI vl1), .ref m_ends, .ref m_letters, .ref m_actOf, .ref m_whom, .ref m_actMany, .ref m_tokens, .ref m_afters, .ref m_afterOf, .int (nI ct1), .ref m_pile, .ref m_caseMany, .ref m_happen, .ref m_hasIf, .ref m_becomes, .ref m_goneOf, .ref m_heard, .ref m_pairs, .ref m_heaps, .int q_rounds, .int q_heapMany, .ref m_led, .ref m_newAt, .ref m_knowing, .ref m_firsts, .int (nI q_people), .ref m_secrets, .ref m_tried, .ref m_lanes, .ref m_lengths, .ref m_cells])), (m_tape, .inl (E.2.1 1, 160, .inl f_tape)), (m_ends, .inl (E.2.1 1, 15, .inl f_ends)), (m_letters, .inl (E.2.1 1, 50, .inl f_letters)), (m_actMany, .inl (E.2.1 1, 25, .inl g_am)), (m_actOf, .inl (E.2.1 1, 800, .inl g_ac)), (m_whom, .inl (E.2.1 1, 800, .inl g_wh)), (m_tokens, .inl (E.2.1 1, 9, .inl f_tokens)), (m_afters, .inl (E.2.1 1, 9, .inl f_aftersz_46)), (m_afterOf, .inl (E.2.1 1, 18, .inl f_afterOfz_47))]) C hT [4, 5, 6, 7, 0, 1, 2, 3, 8, 9] (gqk (by eq_refl)) (ndk (by decide +kernel)) rfl rfl dX12_say_156 (Or.inr (Or.inl ⟨(nI wr1), (nI wr1), (nI l_), (nI sp1), (nI pl1), (nI ct1), tk1, vl1, g_am, g_ac, g_wh, f_tokens, f_aftersz_46, f_afterOfz_47, l_, rfl, rfl, hnb_m_actMany_55, h_52, h_53, (SV.keep hsv hko hkm), (by omega), (by omega), (by omega), (by omega), (Or.inr (Or.inr ⟨_, _, _, _, (by rw [← h_23.2.1]; omega), h_57, Or.inl hc_⟩)), hko, hkw, hkm, (KP.tr (KP.put KP.rf (by omega) ef_10) h_54), h_55, rfl⟩))
                  · have zc_133 : ((wr1 : Nat) : Int) = 0 := i_eq (nI_toInt (n := wr1) (by omega)) rfl c_133
                    omega
              · have zc_108 : ((op1 : Nat) : Int) > 0 := i_nle (nI_toInt (n := op1) (by omega)) rfl c_108
                have hw0 : wr1 = 0 := by omega
                subst hw0
                obtain ⟨hop_1, hop_2, hop_3, hop_4⟩ := hop rfl
                obtain ⟨hgo_1, hgo_2, hgo_3, hgo_4⟩ := hgo rfl
                refine ww_eq (ws' := [(m_actMany, .inl (E.2.1 1, 25, .inl g_am)), (m_actOf, .inl (E.2.1 1, 800, .inl g_ac)), (m_whom, .inl (E.2.1 1, 800, .inl g_wh)), (m_tokens, .inl (E.2.1 1, 9, .inl f_tokens)), (hm, .inr (12, [.ref m_manys, .ref m_reals, .ref m_factsOf, .ref m_possible, .int (nI q_undos), .int (nI q_models), .ref m_tape, .int (nI q_taped), .int q_fault, .int 0, .int wa1, .int (nI sp1), .int (nI pl1), .int (nI tk1), .int (nI vl1), .ref m_ends, .ref m_letters, .ref m_actOf, .ref m_whom, .ref m_actMany, .ref m_tokens, .ref m_afters, .ref m_afterOf, .int (nI ct1), .ref m_pile, .ref m_caseMany, .ref m_happen, .ref m_hasIf, .ref m_becomes, .ref m_goneOf, .ref m_heard, .ref m_pairs, .ref m_heaps, .int q_rounds, .int q_heapMany, .ref m_led, .ref m_newAt, .ref m_knowing, .ref m_firsts, .int (nI q_people), .ref m_secrets, .ref m_tried, .ref m_lanes, .ref m_lengths, .ref m_cells])), (m_tape, .inl (E.2.1 1, 160, .inl f_tape)), (m_ends, .inl (E.2.1 1, 15, .inl f_ends)), (m_letters, .inl (E.2.1 1, 50, .inl f_letters)), (m_afters, .inl (E.2.1 1, 9, .inl f_aftersz_46)), (m_afterOf, .inl (E.2.1 1, 18, .inl f_afterOfz_47))]) ?_ rfl rfl rfl
                refine ww_aload_n C dX12_say_66 1 rfl rfl ?_
                refine ww_cv (wr := [(m_tokens, .inl (E.2.1 1, 9, .inl f_tokens)), (m_afters, .inl (E.2.1 1, 9, .inl f_aftersz_46)), (m_afterOf, .inl (E.2.1 1, 18, .inl f_afterOfz_47))]) (k' := 0) (n' := 0) C (run_V (As := []) (rest := []) C (r_readAct X.2.1 E ro hm m_manys m_reals m_factsOf m_possible q_undos q_models m_tape q_taped q_fault wa1 sp1 pl1 tk1 vl1 m_ends m_letters m_actOf m_whom m_actMany m_tokens m_afters m_afterOf ct1 m_pile m_caseMany m_happen m_hasIf m_becomes m_goneOf m_heard m_pairs m_heaps q_rounds q_heapMany m_led m_newAt m_knowing m_firsts q_people m_secrets m_tried m_lanes m_lengths m_cells f_tape f_ends f_letters g_am g_ac g_wh p1 hb_tape hb_ends hb_letters hnb_m_actMany_55 (by omega) (by omega) (by omega) (by omega) (by omega) (by omega) (by omega) hgo_1) mi_X12_readAct wl_X12_212 rfl 0 12 rfl rfl rfl rfl rfl dX12_say_67) (roK hro) [4, 5, 6, 7, 0, 1, 2] [3, 8, 9] rfl rfl (plk (by decide +kernel)) rfl (fun uz hw => ?_)
                rcases hw with hw | hw
                · refine ex8 hw ?_
                  clear hw
                  intro sp2_136 pl2_137 tk2_138 vl2_139 ct2_140 ac__141 p2_142 g__143 hw
                  refine ex3 hw ?_
                  clear hw
                  intro f_actManyz_144 f_actOfz_145 f_whomz_146 hw
                  refine an8 hw ?_
                  clear hw
                  intro he_162 h_147 h_148 h_149 h_150 h_151 h_152 h_153 hw
                  refine an7 hw ?_
                  clear hw
                  intro h_154 h_155 h_156 h_157 h_158 h_159 h_160 hw
                  have h_161 := hw
                  clear hw
                  subst he_162
                  refine ww_eq (ws' := [(m_tokens, .inl (E.2.1 1, 9, .inl f_tokens)), (m_afters, .inl (E.2.1 1, 9, .inl f_aftersz_46)), (m_afterOf, .inl (E.2.1 1, 18, .inl f_afterOfz_47)), (hm, .inr (12, [.ref m_manys, .ref m_reals, .ref m_factsOf, .ref m_possible, .int (nI q_undos), .int (nI q_models), .ref m_tape, .int (nI q_taped), .int q_fault, .int 0, .int wa1, .int (nI sp2_136), .int (nI pl2_137), .int (nI tk2_138), .int (nI vl2_139), .ref m_ends, .ref m_letters, .ref m_actOf, .ref m_whom, .ref m_actMany, .ref m_tokens, .ref m_afters, .ref m_afterOf, .int (nI ct2_140), .ref m_pile, .ref m_caseMany, .ref m_happen, .ref m_hasIf, .ref m_becomes, .ref m_goneOf, .ref m_heard, .ref m_pairs, .ref m_heaps, .int q_rounds, .int q_heapMany, .ref m_led, .ref m_newAt, .ref m_knowing, .ref m_firsts, .int (nI q_people), .ref m_secrets, .ref m_tried, .ref m_lanes, .ref m_lengths, .ref m_cells])), (m_tape, .inl (E.2.1 1, 160, .inl f_tape)), (m_ends, .inl (E.2.1 1, 15, .inl f_ends)), (m_letters, .inl (E.2.1 1, 50, .inl f_letters)), (m_actMany, .inl (E.2.1 1, 25, .inl f_actManyz_144)), (m_actOf, .inl (E.2.1 1, 800, .inl f_actOfz_145)), (m_whom, .inl (E.2.1 1, 800, .inl f_whomz_146))]) ?_ rfl rfl rfl
                  refine ww_iload_n C dX12_say_70 0 rfl rfl ?_
                  refine ww_aload_n C dX12_say_71 1 rfl rfl ?_
                  refine ww_get C fg_X12_157 3 rfl rfl dX12_say_72 ?_
                  refine ww_if_ne_f (tgt := 104) C dX12_say_75 (by decide) (rfl) ?_
                  refine ww_aload_n C dX12_say_78 1 rfl rfl ?_
                  refine ww_get C fg_X12_31 3 rfl rfl dX12_say_79 ?_
                  refine ww_sipush (v := 768) C dX12_say_82 rfl ?_
                  refine ww_aload_n C dX12_say_85 1 rfl rfl ?_
                  refine ww_get C fg_X12_37 3 rfl rfl dX12_say_86 ?_
                  refine ww_bipush (v := 24) C dX12_say_89 rfl ?_
                  have hbx_180 := (h_151 24 (by omega)).2
                  refine ww_iald (v := (nI (cN f_actManyz_144 24))) C 7 rfl (vin rfl) (h_151 24 (by omega)).1 dX12_say_91 ?_
                  refine ww_iadd (v := (nI (768 + (cN f_actManyz_144 24)))) C dX12_say_92 (nI_add 768 (cN f_actManyz_144 24)) ?_
                  refine ww_iconst (v := 1) C dX12_say_93 rfl ?_
                  refine ww_isub (v := (nI ((768 + (cN f_actManyz_144 24)) - 1))) C dX12_say_94 (pk_sub (a := (768 + (cN f_actManyz_144 24))) (b := 1) (by omega)) ?_
                  obtain ⟨x_181, ex_181⟩ : ∃ z : Int32, f_actOfz_145 ((768 + (cN f_actManyz_144 24)) - 1) = z := ⟨_, rfl⟩
                  refine ww_iald (v := x_181) C 8 rfl (vp_in_nI (by omega) (by omega)) (ldn (by omega) ex_181) dX12_say_95 ?_
                  refine ww_ci (wr := [(m_tokens, .inl (E.2.1 1, 9, .inl f_tokens)), (m_afters, .inl (E.2.1 1, 9, .inl f_aftersz_46)), (m_afterOf, .inl (E.2.1 1, 18, .inl f_afterOfz_47)), (hm, .inr (12, [.ref m_manys, .ref m_reals, .ref m_factsOf, .ref m_possible, .int (nI q_undos), .int (nI q_models), .ref m_tape, .int (nI q_taped), .int q_fault, .int 0, .int wa1, .int (nI sp2_136), .int (nI pl2_137), .int (nI tk2_138), .int (nI vl2_139), .ref m_ends, .ref m_letters, .ref m_actOf, .ref m_whom, .ref m_actMany, .ref m_tokens, .ref m_afters, .ref m_afterOf, .int (nI ct2_140), .ref m_pile, .ref m_caseMany, .ref m_happen, .ref m_hasIf, .ref m_becomes, .ref m_goneOf, .ref m_heard, .ref m_pairs, .ref m_heaps, .int q_rounds, .int q_heapMany, .ref m_led, .ref m_newAt, .ref m_knowing, .ref m_firsts, .int (nI q_people), .ref m_secrets, .ref m_tried, .ref m_lanes, .ref m_lengths, .ref m_cells])), (m_tape, .inl (E.2.1 1, 160, .inl f_tape)), (m_ends, .inl (E.2.1 1, 15, .inl f_ends)), (m_letters, .inl (E.2.1 1, 50, .inl f_letters)), (m_actMany, .inl (E.2.1 1, 25, .inl f_actManyz_144)), (m_actOf, .inl (E.2.1 1, 800, .inl f_actOfz_145)), (m_whom, .inl (E.2.1 1, 800, .inl f_whomz_146))]) (k' := 0) (n' := 0) C (run_S (As := [.int x_181]) (rest := [.int (nI op1)]) C (r_wantsOf X.2.1 E ro x_181 x_181.toInt rfl) ms_X12_wantsOf wl_X12_215 rfl rfl rfl rfl dX12_say_96) (roK hro) [] [0, 1, 2, 3, 4, 5, 6, 7, 8, 9] rfl (gqk (by eq_refl)) (plk (by decide +kernel)) rfl (fun r_182 uz hw => ?_)
                  rcases hw with hw | hw | hw
                  · refine an2 hw ?_
                    clear hw
                    intro he_184 he_185 hw
                    have h_183 := hw
                    clear hw
                    have he_184 := he_184.symm
                    subst he_184
                    subst he_185
                    refine ww_eq (ws' := [(m_tokens, .inl (E.2.1 1, 9, .inl f_tokens)), (m_afters, .inl (E.2.1 1, 9, .inl f_aftersz_46)), (m_afterOf, .inl (E.2.1 1, 18, .inl f_afterOfz_47)), (hm, .inr (12, [.ref m_manys, .ref m_reals, .ref m_factsOf, .ref m_possible, .int (nI q_undos), .int (nI q_models), .ref m_tape, .int (nI q_taped), .int q_fault, .int 0, .int wa1, .int (nI sp2_136), .int (nI pl2_137), .int (nI tk2_138), .int (nI vl2_139), .ref m_ends, .ref m_letters, .ref m_actOf, .ref m_whom, .ref m_actMany, .ref m_tokens, .ref m_afters, .ref m_afterOf, .int (nI ct2_140), .ref m_pile, .ref m_caseMany, .ref m_happen, .ref m_hasIf, .ref m_becomes, .ref m_goneOf, .ref m_heard, .ref m_pairs, .ref m_heaps, .int q_rounds, .int q_heapMany, .ref m_led, .ref m_newAt, .ref m_knowing, .ref m_firsts, .int (nI q_people), .ref m_secrets, .ref m_tried, .ref m_lanes, .ref m_lengths, .ref m_cells])), (m_tape, .inl (E.2.1 1, 160, .inl f_tape)), (m_ends, .inl (E.2.1 1, 15, .inl f_ends)), (m_letters, .inl (E.2.1 1, 50, .inl f_letters)), (m_actMany, .inl (E.2.1 1, 25, .inl f_actManyz_144)), (m_actOf, .inl (E.2.1 1, 800, .inl f_actOfz_145)), (m_whom, .inl (E.2.1 1, 800, .inl f_whomz_146))]) ?_ rfl rfl rfl
                    have hst := act_step hop_1 (by omega) (by omega) h_154 h_155 h_156 (by assumption)
                    have hwr := wR_a0 (by assumption)
                    have hst2 := hst.2.1
                    have hst3 := hst.2.2.1
                    rw [hwr] at hst2
                    have hxa := hst.2.2.2
                    have hwt := wt_0 (a := ac__141) (by omega)
                    refine ww_iconst (v := 1) C dX12_say_99 rfl ?_
                    refine ww_isub (v := (-1)) C dX12_say_100 (by decide) ?_
                    refine ww_goto (tgt := 105) C dX12_say_101 (by decide) ?_
                    refine ww_iadd (v := (nI (op1 - 1))) C dX12_say_105 (nI_subc (a := op1) (c := 1) (by omega) rfl) ?_
                    refine ww_istore_n (lv' := [(2, .int (nI (op1 - 1))), (0, .ref hm), (1, .int v0)]) C dX12_say_106 rfl rfl rfl ?_
                    refine ww_goto (tgt := 55) C dX12_say_107 (by decide) ?_
                    exact ww_lv [0, 1, 2] rfl (ww_sub [7, 8, 9, 0, 3, 4, 5, 6, 1, 2] (ndk (by decide +kernel)) (gqk (by eq_refl)) (ih_55 (op1 - 1) 0 sp2_136 pl2_137 tk2_138 vl2_139 ct2_140 p2_142 wa1 f_actManyz_144 f_actOfz_145 f_whomz_146 (by omega) (by omega) (by omega) (by omega) (by omega) (by omega) (by omega) (KP.put hko (by omega) h_155) (KP.put hkw (by omega) h_157) (KP.put hkm (by omega) h_154) (fun _ => ⟨hst.1, by omega, by omega, by omega⟩) (fun _ => ⟨h_159, by rw [hst3, it_s hgo_2 (by omega), h_160 op1 (by omega)]; congr 3; omega, by rw [hst3]; exact RUN.ext hgo_3 hgo_2 (by omega), OPY.ext hgo_4 h_155 h_157 hst3 ((aI_t hgo_2 hgo_1).trans h_158) (gI_r hgo_2 hgo_1 h_158 h_161) h_156 h_161.2.2⟩) (fun h9 => absurd h9 (by omega)) h_151 (by omega)))
                  · refine an2 hw ?_
                    clear hw
                    intro he_187 he_188 hw
                    have h_186 := hw
                    clear hw
                    have he_187 := he_187.symm
                    subst he_187
                    subst he_188
                    refine ww_eq (ws' := [(m_tokens, .inl (E.2.1 1, 9, .inl f_tokens)), (m_afters, .inl (E.2.1 1, 9, .inl f_aftersz_46)), (m_afterOf, .inl (E.2.1 1, 18, .inl f_afterOfz_47)), (hm, .inr (12, [.ref m_manys, .ref m_reals, .ref m_factsOf, .ref m_possible, .int (nI q_undos), .int (nI q_models), .ref m_tape, .int (nI q_taped), .int q_fault, .int 0, .int wa1, .int (nI sp2_136), .int (nI pl2_137), .int (nI tk2_138), .int (nI vl2_139), .ref m_ends, .ref m_letters, .ref m_actOf, .ref m_whom, .ref m_actMany, .ref m_tokens, .ref m_afters, .ref m_afterOf, .int (nI ct2_140), .ref m_pile, .ref m_caseMany, .ref m_happen, .ref m_hasIf, .ref m_becomes, .ref m_goneOf, .ref m_heard, .ref m_pairs, .ref m_heaps, .int q_rounds, .int q_heapMany, .ref m_led, .ref m_newAt, .ref m_knowing, .ref m_firsts, .int (nI q_people), .ref m_secrets, .ref m_tried, .ref m_lanes, .ref m_lengths, .ref m_cells])), (m_tape, .inl (E.2.1 1, 160, .inl f_tape)), (m_ends, .inl (E.2.1 1, 15, .inl f_ends)), (m_letters, .inl (E.2.1 1, 50, .inl f_letters)), (m_actMany, .inl (E.2.1 1, 25, .inl f_actManyz_144)), (m_actOf, .inl (E.2.1 1, 800, .inl f_actOfz_145)), (m_whom, .inl (E.2.1 1, 800, .inl f_whomz_146))]) ?_ rfl rfl rfl
                    have hst := act_step hop_1 (by omega) (by omega) h_154 h_155 h_156 (by assumption)
                    have hwr := wR_a2 (by assumption)
                    have hst2 := hst.2.1
                    have hst3 := hst.2.2.1
                    rw [hwr] at hst2
                    have hxa := hst.2.2.2
                    have hwt := wt_2 (a := ac__141) (by omega)
                    refine ww_iconst (v := 1) C dX12_say_99 rfl ?_
                    refine ww_isub (v := 1) C dX12_say_100 (by decide) ?_
                    refine ww_goto (tgt := 105) C dX12_say_101 (by decide) ?_
                    refine ww_iadd (v := (nI (op1 + 1))) C dX12_say_105 (nI_add op1 1) ?_
                    refine ww_istore_n (lv' := [(2, .int (nI (op1 + 1))), (0, .ref hm), (1, .int v0)]) C dX12_say_106 rfl rfl rfl ?_
                    refine ww_goto (tgt := 55) C dX12_say_107 (by decide) ?_
                    exact ww_lv [0, 1, 2] rfl (ww_sub [7, 8, 9, 0, 3, 4, 5, 6, 1, 2] (ndk (by decide +kernel)) (gqk (by eq_refl)) (ih_55 (op1 + 1) 0 sp2_136 pl2_137 tk2_138 vl2_139 ct2_140 p2_142 wa1 f_actManyz_144 f_actOfz_145 f_whomz_146 (by omega) (by omega) (by omega) (by omega) (by omega) (by omega) (by omega) (KP.put hko (by omega) h_155) (KP.put hkw (by omega) h_157) (KP.put hkm (by omega) h_154) (fun _ => ⟨hst.1, by omega, by omega, by omega⟩) (fun _ => ⟨h_159, by rw [hst3, it_s hgo_2 (by omega), h_160 op1 (by omega)]; congr 3; omega, by rw [hst3]; exact RUN.ext hgo_3 hgo_2 (by omega), OPY.ext hgo_4 h_155 h_157 hst3 ((aI_t hgo_2 hgo_1).trans h_158) (gI_r hgo_2 hgo_1 h_158 h_161) h_156 h_161.2.2⟩) (fun h9 => absurd h9 (by omega)) h_151 (by omega)))
                  · refine an2 hw ?_
                    clear hw
                    intro he_190 he_191 hw
                    have h_189 := hw
                    clear hw
                    have he_190 := he_190.symm
                    subst he_190
                    subst he_191
                    refine ww_eq (ws' := [(m_tokens, .inl (E.2.1 1, 9, .inl f_tokens)), (m_afters, .inl (E.2.1 1, 9, .inl f_aftersz_46)), (m_afterOf, .inl (E.2.1 1, 18, .inl f_afterOfz_47)), (hm, .inr (12, [.ref m_manys, .ref m_reals, .ref m_factsOf, .ref m_possible, .int (nI q_undos), .int (nI q_models), .ref m_tape, .int (nI q_taped), .int q_fault, .int 0, .int wa1, .int (nI sp2_136), .int (nI pl2_137), .int (nI tk2_138), .int (nI vl2_139), .ref m_ends, .ref m_letters, .ref m_actOf, .ref m_whom, .ref m_actMany, .ref m_tokens, .ref m_afters, .ref m_afterOf, .int (nI ct2_140), .ref m_pile, .ref m_caseMany, .ref m_happen, .ref m_hasIf, .ref m_becomes, .ref m_goneOf, .ref m_heard, .ref m_pairs, .ref m_heaps, .int q_rounds, .int q_heapMany, .ref m_led, .ref m_newAt, .ref m_knowing, .ref m_firsts, .int (nI q_people), .ref m_secrets, .ref m_tried, .ref m_lanes, .ref m_lengths, .ref m_cells])), (m_tape, .inl (E.2.1 1, 160, .inl f_tape)), (m_ends, .inl (E.2.1 1, 15, .inl f_ends)), (m_letters, .inl (E.2.1 1, 50, .inl f_letters)), (m_actMany, .inl (E.2.1 1, 25, .inl f_actManyz_144)), (m_actOf, .inl (E.2.1 1, 800, .inl f_actOfz_145)), (m_whom, .inl (E.2.1 1, 800, .inl f_whomz_146))]) ?_ rfl rfl rfl
                    have hst := act_step hop_1 (by omega) (by omega) h_154 h_155 h_156 (by assumption)
                    have hwr := wR_a1 (by assumption)
                    have hst2 := hst.2.1
                    have hst3 := hst.2.2.1
                    rw [hwr] at hst2
                    have hxa := hst.2.2.2
                    have hwt := wt_1 (a := ac__141) (by omega)
                    refine ww_iconst (v := 1) C dX12_say_99 rfl ?_
                    refine ww_isub (v := 0) C dX12_say_100 (by decide) ?_
                    refine ww_goto (tgt := 105) C dX12_say_101 (by decide) ?_
                    refine ww_iadd (v := (nI op1)) C dX12_say_105 (nI_add op1 0) ?_
                    refine ww_istore_n (lv' := [(2, .int (nI op1)), (0, .ref hm), (1, .int v0)]) C dX12_say_106 rfl rfl rfl ?_
                    refine ww_goto (tgt := 55) C dX12_say_107 (by decide) ?_
                    exact ww_lv [0, 1, 2] rfl (ww_sub [7, 8, 9, 0, 3, 4, 5, 6, 1, 2] (ndk (by decide +kernel)) (gqk (by eq_refl)) (ih_55 op1 0 sp2_136 pl2_137 tk2_138 vl2_139 ct2_140 p2_142 wa1 f_actManyz_144 f_actOfz_145 f_whomz_146 (by omega) (by omega) (by omega) (by omega) (by omega) (by omega) (by omega) (KP.put hko (by omega) h_155) (KP.put hkw (by omega) h_157) (KP.put hkm (by omega) h_154) (fun _ => ⟨hst.1, by omega, by omega, by omega⟩) (fun _ => ⟨h_159, by rw [hst3, it_s hgo_2 (by omega), h_160 op1 (by omega)]; congr 3; omega, by rw [hst3]; exact RUN.ext hgo_3 hgo_2 (by omega), OPY.ext hgo_4 h_155 h_157 hst3 ((aI_t hgo_2 hgo_1).trans h_158) (gI_r hgo_2 hgo_1 h_158 h_161) h_156 h_161.2.2⟩) (fun h9 => absurd h9 (by omega)) h_151 (by omega)))
                · refine ex7 hw ?_
                  clear hw
                  intro sp2_163 pl2_164 tk2_165 vl2_166 ct2_167 wr2_168 wa2_169 hw
                  refine an8 hw ?_
                  clear hw
                  intro he_179 h_170 h_171 h_172 h_173 h_174 h_175 h_176 hw
                  refine an1 hw ?_
                  clear hw
                  intro h_177 hw
                  have h_178 := hw
                  clear hw
                  subst he_179
                  refine ww_eq (ws' := [(m_tokens, .inl (E.2.1 1, 9, .inl f_tokens)), (m_afters, .inl (E.2.1 1, 9, .inl f_aftersz_46)), (m_afterOf, .inl (E.2.1 1, 18, .inl f_afterOfz_47)), (hm, .inr (12, [.ref m_manys, .ref m_reals, .ref m_factsOf, .ref m_possible, .int (nI q_undos), .int (nI q_models), .ref m_tape, .int (nI q_taped), .int q_fault, .int (nI wr2_168), .int (nI wa2_169), .int (nI sp2_163), .int (nI pl2_164), .int (nI tk2_165), .int (nI vl2_166), .ref m_ends, .ref m_letters, .ref m_actOf, .ref m_whom, .ref m_actMany, .ref m_tokens, .ref m_afters, .ref m_afterOf, .int (nI ct2_167), .ref m_pile, .ref m_caseMany, .ref m_happen, .ref m_hasIf, .ref m_becomes, .ref m_goneOf, .ref m_heard, .ref m_pairs, .ref m_heaps, .int q_rounds, .int q_heapMany, .ref m_led, .ref m_newAt, .ref m_knowing, .ref m_firsts, .int (nI q_people), .ref m_secrets, .ref m_tried, .ref m_lanes, .ref m_lengths, .ref m_cells])), (m_tape, .inl (E.2.1 1, 160, .inl f_tape)), (m_ends, .inl (E.2.1 1, 15, .inl f_ends)), (m_letters, .inl (E.2.1 1, 50, .inl f_letters)), (m_actMany, .inl (E.2.1 1, 25, .inl g_am)), (m_actOf, .inl (E.2.1 1, 800, .inl g_ac)), (m_whom, .inl (E.2.1 1, 800, .inl g_wh))]) ?_ rfl rfl rfl
                  refine ww_iload_n C dX12_say_70 0 rfl rfl ?_
                  refine ww_aload_n C dX12_say_71 1 rfl rfl ?_
                  refine ww_get C fg_X12_157 3 rfl rfl dX12_say_72 ?_
                  refine ww_if_ne (tgt := 104) C dX12_say_75 (by decide) (fun c_192 => ?_) (fun c_192 => ?_)
                  · have zc_192 : ((wr2_168 : Nat) : Int) ≠ 0 := i_ne (nI_toInt (n := wr2_168) (by omega)) rfl c_192
                    refine ww_iconst (v := 0) C dX12_say_104 rfl ?_
                    refine ww_iadd (v := (nI op1)) C dX12_say_105 (nI_add op1 0) ?_
                    refine ww_istore_n (lv' := [(2, .int (nI op1)), (0, .ref hm), (1, .int v0)]) C dX12_say_106 rfl rfl rfl ?_
                    refine ww_goto (tgt := 55) C dX12_say_107 (by decide) ?_
                    exact ww_lv [0, 1, 2] rfl (ww_sub [7, 8, 9, 0, 3, 4, 5, 6, 1, 2] (ndk (by decide +kernel)) (gqk (by eq_refl)) (ih_55 op1 wr2_168 sp2_163 pl2_164 tk2_165 vl2_166 ct2_167 p1 (nI wa2_169) g_am g_ac g_wh (by omega) (by omega) (by omega) (by omega) (by omega) (by omega) (by omega) hko hkw hkm (fun h9 => absurd h9 (by omega)) (fun h9 => absurd h9 (by omega)) (fun _ => ⟨_, rfl, it_bad hgo_2 (by omega) (h_178 op1 (by omega)) (by omega)⟩) hnb_m_actMany_55 (by omega)))
                  · have zc_192 : ((wr2_168 : Nat) : Int) = 0 := i_eq (nI_toInt (n := wr2_168) (by omega)) rfl c_192
                    omega
        exact ww_lv [0, 1, 2] rfl (ww_sub [0, 1, 2, 3, 4, 5, 6, 7, 8, 9] (ndk (by decide +kernel)) (gqk (by eq_refl)) (loop_55 _ 1 0 sp2_38 pl2_39 tk2_40 vl2_41 0 p2_42 wa__45 f_9 f_actOf f_whom (by omega) (by omega) (by omega) (by omega) (by omega) (by omega) (by omega) KP.rf KP.rf (KP.put KP.rf (by omega) ef_9) (fun _ => by rw [hsa0]; exact ⟨OPR.nil, rfl, by omega, by omega⟩) (fun _ => ⟨h_56, by rw [hsa0]; rfl, by rw [hsa0]; exact RUN.nil, OPY.nil hsa0⟩) (fun h9 => absurd h9 (by omega)) (NB.put hb_actMany (t := 0) (by omega) (by decide) ef_9) (Nat.lt_succ_self _)))
      · refine ex8 hw ?_
        clear hw
        intro sp2_60 pl2_61 tk2_62 vl2_63 wr2_64 wa2_65 f_aftersz_66 f_afterOfz_67 hw
        refine an8 hw ?_
        clear hw
        intro he_80 h_68 h_69 h_70 h_71 h_72 h_73 h_74 hw
        refine an4 hw ?_
        clear hw
        intro h_75 h_76 h_77 h_78 hw
        have h_79 := hw
        clear hw
        subst he_80
        refine ww_eq (ws' := [(m_actMany, .inl (E.2.1 1, 25, .inl f_9)), (m_actOf, .inl (E.2.1 1, 800, .inl f_actOf)), (m_whom, .inl (E.2.1 1, 800, .inl f_whom)), (m_tokens, .inl (E.2.1 1, 9, .inl f_tokens)), (hm, .inr (12, [.ref m_manys, .ref m_reals, .ref m_factsOf, .ref m_possible, .int (nI q_undos), .int (nI q_models), .ref m_tape, .int (nI q_taped), .int q_fault, .int (nI wr2_64), .int (nI wa2_65), .int (nI sp2_60), .int (nI pl2_61), .int (nI tk2_62), .int (nI vl2_63), .ref m_ends, .ref m_letters, .ref m_actOf, .ref m_whom, .ref m_actMany, .ref m_tokens, .ref m_afters, .ref m_afterOf, .int 0, .ref m_pile, .ref m_caseMany, .ref m_happen, .ref m_hasIf, .ref m_becomes, .ref m_goneOf, .ref m_heard, .ref m_pairs, .ref m_heaps, .int q_rounds, .int q_heapMany, .ref m_led, .ref m_newAt, .ref m_knowing, .ref m_firsts, .int (nI q_people), .ref m_secrets, .ref m_tried, .ref m_lanes, .ref m_lengths, .ref m_cells])), (m_tape, .inl (E.2.1 1, 160, .inl f_tape)), (m_ends, .inl (E.2.1 1, 15, .inl f_ends)), (m_letters, .inl (E.2.1 1, 50, .inl f_letters)), (m_afters, .inl (E.2.1 1, 9, .inl f_aftersz_66)), (m_afterOf, .inl (E.2.1 1, 18, .inl f_afterOfz_67))]) ?_ rfl rfl rfl
        refine ww_iconst (v := 1) C dX12_say_53 rfl ?_
        refine ww_istore_n (lv' := [(2, .int 1), (0, .ref hm), (1, .int v0)]) C dX12_say_54 rfl rfl rfl ?_
        refine ww_aload_n C dX12_say_55 1 rfl rfl ?_
        refine ww_get C fg_X12_157 4 rfl rfl dX12_say_56 ?_
        refine ww_if_ne (tgt := 110) C dX12_say_59 (by decide) (fun c_193 => ?_) (fun c_193 => ?_)
        · have zc_193 : ((wr2_64 : Nat) : Int) ≠ 0 := i_ne (nI_toInt (n := wr2_64) (by omega)) rfl c_193
          refine ww_aload_n C dX12_say_110 1 rfl rfl ?_
          refine ww_get C fg_X12_157 4 rfl rfl dX12_say_111 ?_
          refine ww_if_ne (tgt := 129) C dX12_say_114 (by decide) (fun c_194 => ?_) (fun c_194 => ?_)
          · have zc_194 : ((wr2_64 : Nat) : Int) ≠ 0 := i_ne (nI_toInt (n := wr2_64) (by omega)) rfl c_194
            refine ww_aload_n C dX12_say_129 1 rfl rfl ?_
            refine ww_iconst (v := 0) C dX12_say_130 rfl ?_
            refine ww_put (ws' := [(m_actMany, .inl (E.2.1 1, 25, .inl f_9)), (m_actOf, .inl (E.2.1 1, 800, .inl f_actOf)), (m_whom, .inl (E.2.1 1, 800, .inl f_whom)), (m_tokens, .inl (E.2.1 1, 9, .inl f_tokens)), (hm, .inr (12, [.ref m_manys, .ref m_reals, .ref m_factsOf, .ref m_possible, .int (nI q_undos), .int (nI q_models), .ref m_tape, .int 0, .int q_fault, .int (nI wr2_64), .int (nI wa2_65), .int (nI sp2_60), .int (nI pl2_61), .int (nI tk2_62), .int (nI vl2_63), .ref m_ends, .ref m_letters, .ref m_actOf, .ref m_whom, .ref m_actMany, .ref m_tokens, .ref m_afters, .ref m_afterOf, .int 0, .ref m_pile, .ref m_caseMany, .ref m_happen, .ref m_hasIf, .ref m_becomes, .ref m_goneOf, .ref m_heard, .ref m_pairs, .ref m_heaps, .int q_rounds, .int q_heapMany, .ref m_led, .ref m_newAt, .ref m_knowing, .ref m_firsts, .int (nI q_people), .ref m_secrets, .ref m_tried, .ref m_lanes, .ref m_lengths, .ref m_cells])), (m_tape, .inl (E.2.1 1, 160, .inl f_tape)), (m_ends, .inl (E.2.1 1, 15, .inl f_ends)), (m_letters, .inl (E.2.1 1, 50, .inl f_letters)), (m_afters, .inl (E.2.1 1, 9, .inl f_aftersz_66)), (m_afterOf, .inl (E.2.1 1, 18, .inl f_afterOfz_67))]) C fp_X12_154 4 rfl rfl rfl rfl rfl dX12_say_131 ?_
            refine ww_aload_n C dX12_say_134 1 rfl rfl ?_
            refine ww_aload_n C dX12_say_135 1 rfl rfl ?_
            refine ww_get C fg_X12_157 4 rfl rfl dX12_say_136 ?_
            refine ww_put (ws' := [(m_actMany, .inl (E.2.1 1, 25, .inl f_9)), (m_actOf, .inl (E.2.1 1, 800, .inl f_actOf)), (m_whom, .inl (E.2.1 1, 800, .inl f_whom)), (m_tokens, .inl (E.2.1 1, 9, .inl f_tokens)), (hm, .inr (12, [.ref m_manys, .ref m_reals, .ref m_factsOf, .ref m_possible, .int (nI q_undos), .int (nI q_models), .ref m_tape, .int 0, .int (nI wr2_64), .int (nI wr2_64), .int (nI wa2_65), .int (nI sp2_60), .int (nI pl2_61), .int (nI tk2_62), .int (nI vl2_63), .ref m_ends, .ref m_letters, .ref m_actOf, .ref m_whom, .ref m_actMany, .ref m_tokens, .ref m_afters, .ref m_afterOf, .int 0, .ref m_pile, .ref m_caseMany, .ref m_happen, .ref m_hasIf, .ref m_becomes, .ref m_goneOf, .ref m_heard, .ref m_pairs, .ref m_heaps, .int q_rounds, .int q_heapMany, .ref m_led, .ref m_newAt, .ref m_knowing, .ref m_firsts, .int (nI q_people), .ref m_secrets, .ref m_tried, .ref m_lanes, .ref m_lengths, .ref m_cells])), (m_tape, .inl (E.2.1 1, 160, .inl f_tape)), (m_ends, .inl (E.2.1 1, 15, .inl f_ends)), (m_letters, .inl (E.2.1 1, 50, .inl f_letters)), (m_afters, .inl (E.2.1 1, 9, .inl f_aftersz_66)), (m_afterOf, .inl (E.2.1 1, 18, .inl f_afterOfz_67))]) C fp_X12_218 4 rfl rfl rfl rfl rfl dX12_say_139 ?_
            refine ww_aload_n C dX12_say_142 1 rfl rfl ?_
            refine ww_get C fg_X12_157 4 rfl rfl dX12_say_143 ?_
            refine ww_if_le (tgt := 157) C dX12_say_146 (by decide) (fun c_195 => ?_) (fun c_195 => ?_)
            · have zc_195 : ((wr2_64 : Nat) : Int) ≤ 0 := i_le (nI_toInt (n := wr2_64) (by omega)) rfl c_195
              omega
            · have zc_195 : ((wr2_64 : Nat) : Int) > 0 := i_nle (nI_toInt (n := wr2_64) (by omega)) rfl c_195
              refine ww_bipush (v := (-10)) C dX12_say_149 rfl ?_
              refine ww_aload_n C dX12_say_151 1 rfl rfl ?_
              refine ww_get C fg_X12_163 4 rfl rfl dX12_say_152 ?_
              refine ww_isub (v := ((-10 : Int32) - (nI wa2_65))) C dX12_say_155 rfl ?_
              exact ww_iret (u := [(hm, .inr (12, [.ref m_manys, .ref m_reals, .ref m_factsOf, .ref m_possible, .int (nI q_undos), .int (nI q_models), .ref m_tape, .int 0, .int (nI wr2_64), .int (nI wr2_64), .int (nI wa2_65), .int (nI sp2_60), .int (nI pl2_61), .int (nI tk2_62), .int (nI vl2_63), .ref m_ends, .ref m_letters, .ref m_actOf, .ref m_whom, .ref m_actMany, .ref m_tokens, .ref m_afters, .ref m_afterOf, .int 0, .ref m_pile, .ref m_caseMany, .ref m_happen, .ref m_hasIf, .ref m_becomes, .ref m_goneOf, .ref m_heard, .ref m_pairs, .ref m_heaps, .int q_rounds, .int q_heapMany, .ref m_led, .ref m_newAt, .ref m_knowing, .ref m_firsts, .int (nI q_people), .ref m_secrets, .ref m_tried, .ref m_lanes, .ref m_lengths, .ref m_cells])), (m_tape, .inl (E.2.1 1, 160, .inl f_tape)), (m_ends, .inl (E.2.1 1, 15, .inl f_ends)), (m_letters, .inl (E.2.1 1, 50, .inl f_letters)), (m_actMany, .inl (E.2.1 1, 25, .inl f_9)), (m_actOf, .inl (E.2.1 1, 800, .inl f_actOf)), (m_whom, .inl (E.2.1 1, 800, .inl f_whom)), (m_tokens, .inl (E.2.1 1, 9, .inl f_tokens)), (m_afters, .inl (E.2.1 1, 9, .inl f_aftersz_66)), (m_afterOf, .inl (E.2.1 1, 18, .inl f_afterOfz_67))]) C hT [4, 5, 6, 7, 0, 1, 2, 3, 8, 9] (gqk (by eq_refl)) (ndk (by decide +kernel)) rfl rfl dX12_say_156 (Or.inr (Or.inl ⟨(nI wr2_64), (nI wr2_64), (nI wa2_65), (nI sp2_60), (nI pl2_61), 0, tk2_62, vl2_63, f_9, f_actOf, f_whom, f_tokens, f_aftersz_66, f_afterOfz_67, wa2_65, rfl, rfl, (NB.put hb_actMany (t := 0) (by omega) (by decide) ef_9), h_72, h_73, (SV.keep hsv KP.rf (KP.put KP.rf (by omega) ef_9)), (by omega), (by omega), (by omega), (by omega), (Or.inr (Or.inl ⟨(by rw [← h_23.2.1]; omega), h_78⟩)), KP.rf, KP.rf, (KP.put KP.rf (by omega) ef_9), (KP.tr (KP.put KP.rf (by omega) ef_10) h_74), h_75, rfl⟩))
          · have zc_194 : ((wr2_64 : Nat) : Int) = 0 := i_eq (nI_toInt (n := wr2_64) (by omega)) rfl c_194
            omega
        · have zc_193 : ((wr2_64 : Nat) : Int) = 0 := i_eq (nI_toInt (n := wr2_64) (by omega)) rfl c_193
          omega
    · refine ex4 hw ?_
      clear hw
      intro sp2_26 pl2_27 tk2_28 vl2_29 hw
      refine an6 hw ?_
      clear hw
      intro he_36 h_30 h_31 h_32 h_33 h_34 hw
      have h_35 := hw
      clear hw
      subst he_36
      refine ww_eq (ws' := [(m_ends, .inl (E.2.1 1, 15, .inl f_ends)), (m_letters, .inl (E.2.1 1, 50, .inl f_letters)), (m_actMany, .inl (E.2.1 1, 25, .inl f_9)), (m_actOf, .inl (E.2.1 1, 800, .inl f_actOf)), (m_whom, .inl (E.2.1 1, 800, .inl f_whom)), (m_tokens, .inl (E.2.1 1, 9, .inl f_tokens)), (m_afters, .inl (E.2.1 1, 9, .inl f_10)), (m_afterOf, .inl (E.2.1 1, 18, .inl f_afterOf)), (hm, .inr (12, [.ref m_manys, .ref m_reals, .ref m_factsOf, .ref m_possible, .int (nI q_undos), .int (nI q_models), .ref m_tape, .int (nI q_taped), .int q_fault, .int 1, .int (nI pl2_27), .int (nI sp2_26), .int (nI pl2_27), .int (nI tk2_28), .int (nI vl2_29), .ref m_ends, .ref m_letters, .ref m_actOf, .ref m_whom, .ref m_actMany, .ref m_tokens, .ref m_afters, .ref m_afterOf, .int 0, .ref m_pile, .ref m_caseMany, .ref m_happen, .ref m_hasIf, .ref m_becomes, .ref m_goneOf, .ref m_heard, .ref m_pairs, .ref m_heaps, .int q_rounds, .int q_heapMany, .ref m_led, .ref m_newAt, .ref m_knowing, .ref m_firsts, .int (nI q_people), .ref m_secrets, .ref m_tried, .ref m_lanes, .ref m_lengths, .ref m_cells])), (m_tape, .inl (E.2.1 1, 160, .inl f_tape))]) ?_ rfl rfl rfl
      refine ww_aload_n C dX12_say_49 0 rfl rfl ?_
      refine ww_cv (wr := [(m_actMany, .inl (E.2.1 1, 25, .inl f_9)), (m_actOf, .inl (E.2.1 1, 800, .inl f_actOf)), (m_whom, .inl (E.2.1 1, 800, .inl f_whom)), (m_tokens, .inl (E.2.1 1, 9, .inl f_tokens))]) (k' := 0) (n' := 0) C (run_V (As := []) (rest := []) C (r_readAftersB X.2.1 E ro hm m_manys m_reals m_factsOf m_possible q_undos q_models m_tape q_taped q_fault (nI pl2_27) (nI sp2_26) (nI pl2_27) (nI tk2_28) (nI vl2_29) m_ends m_letters m_actOf m_whom m_actMany m_tokens m_afters m_afterOf 0 m_pile m_caseMany m_happen m_hasIf m_becomes m_goneOf m_heard m_pairs m_heaps q_rounds q_heapMany m_led m_newAt m_knowing m_firsts q_people m_secrets m_tried m_lanes m_lengths m_cells f_tape f_ends f_letters f_10 f_afterOf hb_tape hb_ends hb_letters (NB.put hb_afters (t := 0) (by omega) (by decide) ef_10) hb_afterOf) mi_X12_readAfters wl_X12_209 rfl 0 12 rfl rfl rfl rfl rfl dX12_say_50) (roK hro) [8, 9, 0, 1, 6, 7] [2, 3, 4, 5] rfl rfl (plk (by decide +kernel)) rfl (fun uz hw => ?_)
      have he_197 := hw
      clear hw
      subst he_197
      refine ww_eq (ws' := [(m_actMany, .inl (E.2.1 1, 25, .inl f_9)), (m_actOf, .inl (E.2.1 1, 800, .inl f_actOf)), (m_whom, .inl (E.2.1 1, 800, .inl f_whom)), (m_tokens, .inl (E.2.1 1, 9, .inl f_tokens)), (hm, .inr (12, [.ref m_manys, .ref m_reals, .ref m_factsOf, .ref m_possible, .int (nI q_undos), .int (nI q_models), .ref m_tape, .int (nI q_taped), .int q_fault, .int 1, .int (nI pl2_27), .int (nI sp2_26), .int (nI pl2_27), .int (nI tk2_28), .int (nI vl2_29), .ref m_ends, .ref m_letters, .ref m_actOf, .ref m_whom, .ref m_actMany, .ref m_tokens, .ref m_afters, .ref m_afterOf, .int 0, .ref m_pile, .ref m_caseMany, .ref m_happen, .ref m_hasIf, .ref m_becomes, .ref m_goneOf, .ref m_heard, .ref m_pairs, .ref m_heaps, .int q_rounds, .int q_heapMany, .ref m_led, .ref m_newAt, .ref m_knowing, .ref m_firsts, .int (nI q_people), .ref m_secrets, .ref m_tried, .ref m_lanes, .ref m_lengths, .ref m_cells])), (m_tape, .inl (E.2.1 1, 160, .inl f_tape)), (m_ends, .inl (E.2.1 1, 15, .inl f_ends)), (m_letters, .inl (E.2.1 1, 50, .inl f_letters)), (m_afters, .inl (E.2.1 1, 9, .inl f_10)), (m_afterOf, .inl (E.2.1 1, 18, .inl f_afterOf))]) ?_ rfl rfl rfl
      refine ww_iconst (v := 1) C dX12_say_53 rfl ?_
      refine ww_istore_n (lv' := [(2, .int 1), (0, .ref hm), (1, .int v0)]) C dX12_say_54 rfl rfl rfl ?_
      refine ww_aload_n C dX12_say_55 1 rfl rfl ?_
      refine ww_get C fg_X12_157 4 rfl rfl dX12_say_56 ?_
      refine ww_if_ne_t (tgt := 110) C dX12_say_59 (by decide) (by decide) ?_
      refine ww_aload_n C dX12_say_110 1 rfl rfl ?_
      refine ww_get C fg_X12_157 4 rfl rfl dX12_say_111 ?_
      refine ww_if_ne_t (tgt := 129) C dX12_say_114 (by decide) (by decide) ?_
      refine ww_aload_n C dX12_say_129 1 rfl rfl ?_
      refine ww_iconst (v := 0) C dX12_say_130 rfl ?_
      refine ww_put (ws' := [(m_actMany, .inl (E.2.1 1, 25, .inl f_9)), (m_actOf, .inl (E.2.1 1, 800, .inl f_actOf)), (m_whom, .inl (E.2.1 1, 800, .inl f_whom)), (m_tokens, .inl (E.2.1 1, 9, .inl f_tokens)), (hm, .inr (12, [.ref m_manys, .ref m_reals, .ref m_factsOf, .ref m_possible, .int (nI q_undos), .int (nI q_models), .ref m_tape, .int 0, .int q_fault, .int 1, .int (nI pl2_27), .int (nI sp2_26), .int (nI pl2_27), .int (nI tk2_28), .int (nI vl2_29), .ref m_ends, .ref m_letters, .ref m_actOf, .ref m_whom, .ref m_actMany, .ref m_tokens, .ref m_afters, .ref m_afterOf, .int 0, .ref m_pile, .ref m_caseMany, .ref m_happen, .ref m_hasIf, .ref m_becomes, .ref m_goneOf, .ref m_heard, .ref m_pairs, .ref m_heaps, .int q_rounds, .int q_heapMany, .ref m_led, .ref m_newAt, .ref m_knowing, .ref m_firsts, .int (nI q_people), .ref m_secrets, .ref m_tried, .ref m_lanes, .ref m_lengths, .ref m_cells])), (m_tape, .inl (E.2.1 1, 160, .inl f_tape)), (m_ends, .inl (E.2.1 1, 15, .inl f_ends)), (m_letters, .inl (E.2.1 1, 50, .inl f_letters)), (m_afters, .inl (E.2.1 1, 9, .inl f_10)), (m_afterOf, .inl (E.2.1 1, 18, .inl f_afterOf))]) C fp_X12_154 4 rfl rfl rfl rfl rfl dX12_say_131 ?_
      refine ww_aload_n C dX12_say_134 1 rfl rfl ?_
      refine ww_aload_n C dX12_say_135 1 rfl rfl ?_
      refine ww_get C fg_X12_157 4 rfl rfl dX12_say_136 ?_
      refine ww_put (ws' := [(m_actMany, .inl (E.2.1 1, 25, .inl f_9)), (m_actOf, .inl (E.2.1 1, 800, .inl f_actOf)), (m_whom, .inl (E.2.1 1, 800, .inl f_whom)), (m_tokens, .inl (E.2.1 1, 9, .inl f_tokens)), (hm, .inr (12, [.ref m_manys, .ref m_reals, .ref m_factsOf, .ref m_possible, .int (nI q_undos), .int (nI q_models), .ref m_tape, .int 0, .int 1, .int 1, .int (nI pl2_27), .int (nI sp2_26), .int (nI pl2_27), .int (nI tk2_28), .int (nI vl2_29), .ref m_ends, .ref m_letters, .ref m_actOf, .ref m_whom, .ref m_actMany, .ref m_tokens, .ref m_afters, .ref m_afterOf, .int 0, .ref m_pile, .ref m_caseMany, .ref m_happen, .ref m_hasIf, .ref m_becomes, .ref m_goneOf, .ref m_heard, .ref m_pairs, .ref m_heaps, .int q_rounds, .int q_heapMany, .ref m_led, .ref m_newAt, .ref m_knowing, .ref m_firsts, .int (nI q_people), .ref m_secrets, .ref m_tried, .ref m_lanes, .ref m_lengths, .ref m_cells])), (m_tape, .inl (E.2.1 1, 160, .inl f_tape)), (m_ends, .inl (E.2.1 1, 15, .inl f_ends)), (m_letters, .inl (E.2.1 1, 50, .inl f_letters)), (m_afters, .inl (E.2.1 1, 9, .inl f_10)), (m_afterOf, .inl (E.2.1 1, 18, .inl f_afterOf))]) C fp_X12_218 4 rfl rfl rfl rfl rfl dX12_say_139 ?_
      refine ww_aload_n C dX12_say_142 1 rfl rfl ?_
      refine ww_get C fg_X12_157 4 rfl rfl dX12_say_143 ?_
      refine ww_if_le_f (tgt := 157) C dX12_say_146 (by decide) (by decide) ?_
      refine ww_bipush (v := (-10)) C dX12_say_149 rfl ?_
      refine ww_aload_n C dX12_say_151 1 rfl rfl ?_
      refine ww_get C fg_X12_163 4 rfl rfl dX12_say_152 ?_
      refine ww_isub (v := ((-10 : Int32) - (nI pl2_27))) C dX12_say_155 rfl ?_
      exact ww_iret (u := [(hm, .inr (12, [.ref m_manys, .ref m_reals, .ref m_factsOf, .ref m_possible, .int (nI q_undos), .int (nI q_models), .ref m_tape, .int 0, .int 1, .int 1, .int (nI pl2_27), .int (nI sp2_26), .int (nI pl2_27), .int (nI tk2_28), .int (nI vl2_29), .ref m_ends, .ref m_letters, .ref m_actOf, .ref m_whom, .ref m_actMany, .ref m_tokens, .ref m_afters, .ref m_afterOf, .int 0, .ref m_pile, .ref m_caseMany, .ref m_happen, .ref m_hasIf, .ref m_becomes, .ref m_goneOf, .ref m_heard, .ref m_pairs, .ref m_heaps, .int q_rounds, .int q_heapMany, .ref m_led, .ref m_newAt, .ref m_knowing, .ref m_firsts, .int (nI q_people), .ref m_secrets, .ref m_tried, .ref m_lanes, .ref m_lengths, .ref m_cells])), (m_tape, .inl (E.2.1 1, 160, .inl f_tape)), (m_ends, .inl (E.2.1 1, 15, .inl f_ends)), (m_letters, .inl (E.2.1 1, 50, .inl f_letters)), (m_actMany, .inl (E.2.1 1, 25, .inl f_9)), (m_actOf, .inl (E.2.1 1, 800, .inl f_actOf)), (m_whom, .inl (E.2.1 1, 800, .inl f_whom)), (m_tokens, .inl (E.2.1 1, 9, .inl f_tokens)), (m_afters, .inl (E.2.1 1, 9, .inl f_10)), (m_afterOf, .inl (E.2.1 1, 18, .inl f_afterOf))]) C hT [4, 5, 6, 7, 0, 1, 2, 3, 8, 9] (gqk (by eq_refl)) (ndk (by decide +kernel)) rfl rfl dX12_say_156 (Or.inr (Or.inl ⟨1, 1, (nI pl2_27), (nI sp2_26), (nI pl2_27), 0, tk2_28, vl2_29, f_9, f_actOf, f_whom, f_tokens, f_10, f_afterOf, pl2_27, rfl, rfl, (NB.put hb_actMany (t := 0) (by omega) (by decide) ef_9), (NB.put hb_afters (t := 0) (by omega) (by decide) ef_10), hb_afterOf, (SV.keep hsv KP.rf (KP.put KP.rf (by omega) ef_9)), (by omega), (by omega), (by omega), (by omega), (Or.inl h_35), KP.rf, KP.rf, (KP.put KP.rf (by omega) ef_9), (KP.put KP.rf (by omega) ef_10), KP.rf, rfl⟩))
  · refine an2 hw ?_
    clear hw
    intro he_7 he_8 hw
    have h_6 := hw
    clear hw
    have he_7 := he_7.symm
    subst he_7
    subst he_8
    refine ww_eq (ws' := [(hm, .inr (12, [.ref m_manys, .ref m_reals, .ref m_factsOf, .ref m_possible, .int (nI q_undos), .int (nI q_models), .ref m_tape, .int (nI q_taped), .int q_fault, .int q_wrong, .int q_wrongAt, .int q_spot, .int q_place, .int (nI q_token), .int (nI q_value), .ref m_ends, .ref m_letters, .ref m_actOf, .ref m_whom, .ref m_actMany, .ref m_tokens, .ref m_afters, .ref m_afterOf, .int q_counted, .ref m_pile, .ref m_caseMany, .ref m_happen, .ref m_hasIf, .ref m_becomes, .ref m_goneOf, .ref m_heard, .ref m_pairs, .ref m_heaps, .int q_rounds, .int q_heapMany, .ref m_led, .ref m_newAt, .ref m_knowing, .ref m_firsts, .int (nI q_people), .ref m_secrets, .ref m_tried, .ref m_lanes, .ref m_lengths, .ref m_cells])), (m_tape, .inl (E.2.1 1, 160, .inl f_tape)), (m_ends, .inl (E.2.1 1, 15, .inl f_ends)), (m_letters, .inl (E.2.1 1, 50, .inl f_letters)), (m_actMany, .inl (E.2.1 1, 25, .inl f_actMany)), (m_actOf, .inl (E.2.1 1, 800, .inl f_actOf)), (m_whom, .inl (E.2.1 1, 800, .inl f_whom)), (m_tokens, .inl (E.2.1 1, 9, .inl f_tokens)), (m_afters, .inl (E.2.1 1, 9, .inl f_afters)), (m_afterOf, .inl (E.2.1 1, 18, .inl f_afterOf))]) ?_ rfl rfl rfl
    refine ww_if_ne_f (tgt := 14) C dX12_say_9 (by decide) (rfl) ?_
    refine ww_iconst (v := (-1)) C dX12_say_12 rfl ?_
    exact ww_iret (u := [(hm, .inr (12, [.ref m_manys, .ref m_reals, .ref m_factsOf, .ref m_possible, .int (nI q_undos), .int (nI q_models), .ref m_tape, .int (nI q_taped), .int q_fault, .int q_wrong, .int q_wrongAt, .int q_spot, .int q_place, .int (nI q_token), .int (nI q_value), .ref m_ends, .ref m_letters, .ref m_actOf, .ref m_whom, .ref m_actMany, .ref m_tokens, .ref m_afters, .ref m_afterOf, .int q_counted, .ref m_pile, .ref m_caseMany, .ref m_happen, .ref m_hasIf, .ref m_becomes, .ref m_goneOf, .ref m_heard, .ref m_pairs, .ref m_heaps, .int q_rounds, .int q_heapMany, .ref m_led, .ref m_newAt, .ref m_knowing, .ref m_firsts, .int (nI q_people), .ref m_secrets, .ref m_tried, .ref m_lanes, .ref m_lengths, .ref m_cells])), (m_tape, .inl (E.2.1 1, 160, .inl f_tape)), (m_ends, .inl (E.2.1 1, 15, .inl f_ends)), (m_letters, .inl (E.2.1 1, 50, .inl f_letters)), (m_actMany, .inl (E.2.1 1, 25, .inl f_actMany)), (m_actOf, .inl (E.2.1 1, 800, .inl f_actOf)), (m_whom, .inl (E.2.1 1, 800, .inl f_whom)), (m_tokens, .inl (E.2.1 1, 9, .inl f_tokens)), (m_afters, .inl (E.2.1 1, 9, .inl f_afters)), (m_afterOf, .inl (E.2.1 1, 18, .inl f_afterOf))]) C hT [0, 1, 2, 3, 4, 5, 6, 7, 8, 9] (gqk (by eq_refl)) (ndk (by decide +kernel)) rfl rfl dX12_say_13 (Or.inl ⟨rfl, rfl, (by first | assumption | omega | decide)⟩)
theorem dX12_fault_0 : decode cX12_fault 0 = .ok (.aload_n 0, 1) := dl_42 (by decide +kernel)
theorem dX12_fault_1 : decode cX12_fault 1 = .ok (.getfield 218, 3) := dl_180 (by decide +kernel)
theorem fg_X12_218 : FG RX12 218 12 8 := ⟨RX12, TX12, 45, uw_X12, wf_X12_218, rfl, by decide, rfl⟩
theorem dX12_fault_4 : decode cX12_fault 4 = .ok (.ireturn, 1) := dl_172 (by decide +kernel)
set_option maxRecDepth 100000 in
set_option maxHeartbeats 4000000 in
theorem y_fault (l : Launch) (E : EV) (ro : va_W) (hm : Nat) (m_manys : Nat) (m_reals : Nat) (m_factsOf : Nat) (m_possible : Nat) (q_undos : Nat) (q_models : Nat) (m_tape : Nat) (q_taped : Nat) (q_fault : Int32) (q_wrong : Int32) (q_wrongAt : Int32) (q_spot : Int32) (q_place : Int32) (q_token : Int32) (q_value : Int32) (m_ends : Nat) (m_letters : Nat) (m_actOf : Nat) (m_whom : Nat) (m_actMany : Nat) (m_tokens : Nat) (m_afters : Nat) (m_afterOf : Nat) (q_counted : Int32) (m_pile : Nat) (m_caseMany : Nat) (m_happen : Nat) (m_hasIf : Nat) (m_becomes : Nat) (m_goneOf : Nat) (m_heard : Nat) (m_pairs : Nat) (m_heaps : Nat) (q_rounds : Int32) (q_heapMany : Int32) (m_led : Nat) (m_newAt : Nat) (m_knowing : Nat) (m_firsts : Nat) (q_people : Nat) (m_secrets : Nat) (m_tried : Nat) (m_lanes : Nat) (m_lengths : Nat) (m_cells : Nat)  : CT l yX12_fault (Cond.code yX12_fault cX12_fault 1 (some .int) :: TB) ({ frames := 0, cells := 0, slots := 0, locals := 0 }) E ro [.ref hm] [(hm, .inr (12, [.ref m_manys, .ref m_reals, .ref m_factsOf, .ref m_possible, .int (nI q_undos), .int (nI q_models), .ref m_tape, .int (nI q_taped), .int q_fault, .int q_wrong, .int q_wrongAt, .int q_spot, .int q_place, .int q_token, .int q_value, .ref m_ends, .ref m_letters, .ref m_actOf, .ref m_whom, .ref m_actMany, .ref m_tokens, .ref m_afters, .ref m_afterOf, .int q_counted, .ref m_pile, .ref m_caseMany, .ref m_happen, .ref m_hasIf, .ref m_becomes, .ref m_goneOf, .ref m_heard, .ref m_pairs, .ref m_heaps, .int q_rounds, .int q_heapMany, .ref m_led, .ref m_newAt, .ref m_knowing, .ref m_firsts, .int (nI q_people), .ref m_secrets, .ref m_tried, .ref m_lanes, .ref m_lengths, .ref m_cells]))] (Qi E (fun (rz : Int32) uz => (rz = q_fault ∧ uz = [(hm, .inr (12, [.ref m_manys, .ref m_reals, .ref m_factsOf, .ref m_possible, .int (nI q_undos), .int (nI q_models), .ref m_tape, .int (nI q_taped), .int q_fault, .int q_wrong, .int q_wrongAt, .int q_spot, .int q_place, .int q_token, .int q_value, .ref m_ends, .ref m_letters, .ref m_actOf, .ref m_whom, .ref m_actMany, .ref m_tokens, .ref m_afters, .ref m_afterOf, .int q_counted, .ref m_pile, .ref m_caseMany, .ref m_happen, .ref m_hasIf, .ref m_becomes, .ref m_goneOf, .ref m_heard, .ref m_pairs, .ref m_heaps, .int q_rounds, .int q_heapMany, .ref m_led, .ref m_newAt, .ref m_knowing, .ref m_firsts, .int (nI q_people), .ref m_secrets, .ref m_tried, .ref m_lanes, .ref m_lengths, .ref m_cells]))]))) 0 0 := by
  refine ct_of rfl rfl ?_
  intro X C hT hin hro
  show WW X 1 E 0 [(0, .ref hm)] [] [(hm, .inr (12, [.ref m_manys, .ref m_reals, .ref m_factsOf, .ref m_possible, .int (nI q_undos), .int (nI q_models), .ref m_tape, .int (nI q_taped), .int q_fault, .int q_wrong, .int q_wrongAt, .int q_spot, .int q_place, .int q_token, .int q_value, .ref m_ends, .ref m_letters, .ref m_actOf, .ref m_whom, .ref m_actMany, .ref m_tokens, .ref m_afters, .ref m_afterOf, .int q_counted, .ref m_pile, .ref m_caseMany, .ref m_happen, .ref m_hasIf, .ref m_becomes, .ref m_goneOf, .ref m_heard, .ref m_pairs, .ref m_heaps, .int q_rounds, .int q_heapMany, .ref m_led, .ref m_newAt, .ref m_knowing, .ref m_firsts, .int (nI q_people), .ref m_secrets, .ref m_tried, .ref m_lanes, .ref m_lengths, .ref m_cells]))] 0 0
  refine ww_aload_n C dX12_fault_0 0 rfl rfl ?_
  refine ww_get C fg_X12_218 0 rfl rfl dX12_fault_1 ?_
  exact ww_iret (u := [(hm, .inr (12, [.ref m_manys, .ref m_reals, .ref m_factsOf, .ref m_possible, .int (nI q_undos), .int (nI q_models), .ref m_tape, .int (nI q_taped), .int q_fault, .int q_wrong, .int q_wrongAt, .int q_spot, .int q_place, .int q_token, .int q_value, .ref m_ends, .ref m_letters, .ref m_actOf, .ref m_whom, .ref m_actMany, .ref m_tokens, .ref m_afters, .ref m_afterOf, .int q_counted, .ref m_pile, .ref m_caseMany, .ref m_happen, .ref m_hasIf, .ref m_becomes, .ref m_goneOf, .ref m_heard, .ref m_pairs, .ref m_heaps, .int q_rounds, .int q_heapMany, .ref m_led, .ref m_newAt, .ref m_knowing, .ref m_firsts, .int (nI q_people), .ref m_secrets, .ref m_tried, .ref m_lanes, .ref m_lengths, .ref m_cells]))]) C hT [0] rfl rfl rfl rfl dX12_fault_4 (⟨rfl, rfl⟩)
end
section
theorem dX12_isSaying_0 : decode cX12_isSaying 0 = .ok (.iload_n 1, 1) := dl_27 (by decide +kernel)
theorem dX12_isSaying_1 : decode cX12_isSaying 1 = .ok (.i2l, 1) := dl_133 (by decide +kernel)
theorem dX12_isSaying_2 : decode cX12_isSaying 2 = .ok (.lconst 0, 1) := dl_9 (by decide +kernel)
theorem dX12_isSaying_3 : decode cX12_isSaying 3 = .ok (.ldc2_w 207, 3) := dl_20 (by decide +kernel)
theorem dX12_isSaying_6 : decode cX12_isSaying 6 = .ok (.invokestatic 115, 3) := dl_184 (by decide +kernel)
theorem dX12_isSaying_9 : decode cX12_isSaying 9 = .ok (.ifCond .eq 16, 3) := dl_153 (by decide +kernel)
theorem dX12_isSaying_12 : decode cX12_isSaying 12 = .ok (.aload_n 0, 1) := dl_42 (by decide +kernel)
theorem dX12_isSaying_13 : decode cX12_isSaying 13 = .ok (.getfield 40, 3) := dl_180 (by decide +kernel)
theorem dX12_isSaying_16 : decode cX12_isSaying 16 = .ok (.iload_n 1, 1) := dl_27 (by decide +kernel)
theorem dX12_isSaying_17 : decode cX12_isSaying 17 = .ok (.iaload, 1) := dl_46 (by decide +kernel)
theorem dX12_isSaying_18 : decode cX12_isSaying 18 = .ok (.ifCond .le 7, 3) := dl_158 (by decide +kernel)
theorem dX12_isSaying_25 : decode cX12_isSaying 25 = .ok (.iconst 0, 1) := dl_3 (by decide +kernel)
theorem dX12_isSaying_26 : decode cX12_isSaying 26 = .ok (.ireturn, 1) := dl_172 (by decide +kernel)
theorem dX12_isSaying_21 : decode cX12_isSaying 21 = .ok (.iconst 1, 1) := dl_4 (by decide +kernel)
theorem dX12_isSaying_22 : decode cX12_isSaying 22 = .ok (.goto 4, 3) := dl_167 (by decide +kernel)
set_option maxRecDepth 100000 in
set_option maxHeartbeats 4000000 in
theorem r_isSaying (l : Launch) (E : EV) (ro : va_W) (hm : Nat) (k : Int32) (m_manys : Nat) (m_reals : Nat) (m_factsOf : Nat) (m_possible : Nat) (q_undos : Nat) (q_models : Nat) (m_tape : Nat) (q_taped : Nat) (q_fault : Int32) (q_wrong : Int32) (q_wrongAt : Int32) (q_spot : Int32) (q_place : Int32) (q_token : Int32) (q_value : Int32) (m_ends : Nat) (m_letters : Nat) (m_actOf : Nat) (m_whom : Nat) (m_actMany : Nat) (m_tokens : Nat) (m_afters : Nat) (m_afterOf : Nat) (q_counted : Int32) (m_pile : Nat) (m_caseMany : Nat) (m_happen : Nat) (m_hasIf : Nat) (m_becomes : Nat) (m_goneOf : Nat) (m_heard : Nat) (m_pairs : Nat) (m_heaps : Nat) (q_rounds : Int32) (q_heapMany : Int32) (m_led : Nat) (m_newAt : Nat) (m_knowing : Nat) (m_firsts : Nat) (q_people : Nat) (m_secrets : Nat) (m_tried : Nat) (m_lanes : Nat) (m_lengths : Nat) (m_cells : Nat) (f_tokens : Nat → Int32)  : CT l yX12_isSaying (Cond.code yX12_isSaying cX12_isSaying 2 (some .boolean) :: TB) ({ frames := 1, cells := 0, slots := 0, locals := 25 }) E ro [.ref hm, .int k] [(hm, .inr (12, [.ref m_manys, .ref m_reals, .ref m_factsOf, .ref m_possible, .int (nI q_undos), .int (nI q_models), .ref m_tape, .int (nI q_taped), .int q_fault, .int q_wrong, .int q_wrongAt, .int q_spot, .int q_place, .int q_token, .int q_value, .ref m_ends, .ref m_letters, .ref m_actOf, .ref m_whom, .ref m_actMany, .ref m_tokens, .ref m_afters, .ref m_afterOf, .int q_counted, .ref m_pile, .ref m_caseMany, .ref m_happen, .ref m_hasIf, .ref m_becomes, .ref m_goneOf, .ref m_heard, .ref m_pairs, .ref m_heaps, .int q_rounds, .int q_heapMany, .ref m_led, .ref m_newAt, .ref m_knowing, .ref m_firsts, .int (nI q_people), .ref m_secrets, .ref m_tried, .ref m_lanes, .ref m_lengths, .ref m_cells])), (m_tokens, .inl (E.2.1 1, 9, .inl f_tokens))] (Qi E (fun (rz : Int32) uz => (rz = 1 ∧ uz = [(hm, .inr (12, [.ref m_manys, .ref m_reals, .ref m_factsOf, .ref m_possible, .int (nI q_undos), .int (nI q_models), .ref m_tape, .int (nI q_taped), .int q_fault, .int q_wrong, .int q_wrongAt, .int q_spot, .int q_place, .int q_token, .int q_value, .ref m_ends, .ref m_letters, .ref m_actOf, .ref m_whom, .ref m_actMany, .ref m_tokens, .ref m_afters, .ref m_afterOf, .int q_counted, .ref m_pile, .ref m_caseMany, .ref m_happen, .ref m_hasIf, .ref m_becomes, .ref m_goneOf, .ref m_heard, .ref m_pairs, .ref m_heaps, .int q_rounds, .int q_heapMany, .ref m_led, .ref m_newAt, .ref m_knowing, .ref m_firsts, .int (nI q_people), .ref m_secrets, .ref m_tried, .ref m_lanes, .ref m_lengths, .ref m_cells])), (m_tokens, .inl (E.2.1 1, 9, .inl f_tokens))] ∧ (0 ≤ k.toInt) ∧ (k.toInt ≤ 7) ∧ (0 < (f_tokens k.toNatClampNeg).toInt)) ∨ (rz = 0 ∧ uz = [(hm, .inr (12, [.ref m_manys, .ref m_reals, .ref m_factsOf, .ref m_possible, .int (nI q_undos), .int (nI q_models), .ref m_tape, .int (nI q_taped), .int q_fault, .int q_wrong, .int q_wrongAt, .int q_spot, .int q_place, .int q_token, .int q_value, .ref m_ends, .ref m_letters, .ref m_actOf, .ref m_whom, .ref m_actMany, .ref m_tokens, .ref m_afters, .ref m_afterOf, .int q_counted, .ref m_pile, .ref m_caseMany, .ref m_happen, .ref m_hasIf, .ref m_becomes, .ref m_goneOf, .ref m_heard, .ref m_pairs, .ref m_heaps, .int q_rounds, .int q_heapMany, .ref m_led, .ref m_newAt, .ref m_knowing, .ref m_firsts, .int (nI q_people), .ref m_secrets, .ref m_tried, .ref m_lanes, .ref m_lengths, .ref m_cells])), (m_tokens, .inl (E.2.1 1, 9, .inl f_tokens))] ∧ (k.toInt < 0 ∨ 7 < k.toInt ∨ (f_tokens k.toNatClampNeg).toInt ≤ 0)))) 0 0 := by
  refine ct_of rfl rfl ?_
  intro X C hT hin hro
  show WW X 2 E 0 [(0, .ref hm), (1, .int k)] [] [(hm, .inr (12, [.ref m_manys, .ref m_reals, .ref m_factsOf, .ref m_possible, .int (nI q_undos), .int (nI q_models), .ref m_tape, .int (nI q_taped), .int q_fault, .int q_wrong, .int q_wrongAt, .int q_spot, .int q_place, .int q_token, .int q_value, .ref m_ends, .ref m_letters, .ref m_actOf, .ref m_whom, .ref m_actMany, .ref m_tokens, .ref m_afters, .ref m_afterOf, .int q_counted, .ref m_pile, .ref m_caseMany, .ref m_happen, .ref m_hasIf, .ref m_becomes, .ref m_goneOf, .ref m_heard, .ref m_pairs, .ref m_heaps, .int q_rounds, .int q_heapMany, .ref m_led, .ref m_newAt, .ref m_knowing, .ref m_firsts, .int (nI q_people), .ref m_secrets, .ref m_tried, .ref m_lanes, .ref m_lengths, .ref m_cells])), (m_tokens, .inl (E.2.1 1, 9, .inl f_tokens))] 0 0
  refine ww_iload_n C dX12_isSaying_0 1 rfl rfl ?_
  refine ww_i2l (v := k.toInt64) C dX12_isSaying_1 rfl ?_
  refine ww_lconst (v := 0) C dX12_isSaying_2 rfl ?_
  refine ww_ldc2 C wv_X12_207 dX12_isSaying_3 ?_
  refine ww_ci (wr := [(hm, .inr (12, [.ref m_manys, .ref m_reals, .ref m_factsOf, .ref m_possible, .int (nI q_undos), .int (nI q_models), .ref m_tape, .int (nI q_taped), .int q_fault, .int q_wrong, .int q_wrongAt, .int q_spot, .int q_place, .int q_token, .int q_value, .ref m_ends, .ref m_letters, .ref m_actOf, .ref m_whom, .ref m_actMany, .ref m_tokens, .ref m_afters, .ref m_afterOf, .int q_counted, .ref m_pile, .ref m_caseMany, .ref m_happen, .ref m_hasIf, .ref m_becomes, .ref m_goneOf, .ref m_heard, .ref m_pairs, .ref m_heaps, .int q_rounds, .int q_heapMany, .ref m_led, .ref m_newAt, .ref m_knowing, .ref m_firsts, .int (nI q_people), .ref m_secrets, .ref m_tried, .ref m_lanes, .ref m_lengths, .ref m_cells])), (m_tokens, .inl (E.2.1 1, 9, .inl f_tokens))]) (k' := 0) (n' := 0) C (run_S (As := [.long k.toInt64, .long 0, .long 7]) (rest := []) C (r_in X.2.1 E ro k.toInt64 0 7 k.toInt 0 7 (Int32.toInt_toInt64 _) rfl rfl) ms_X12_in wl_X12_115 rfl rfl rfl rfl dX12_isSaying_6) (roK hro) [] [0, 1] rfl rfl rfl rfl (fun r_1 uz hw => ?_)
  rcases hw with hw | hw
  · refine an3 hw ?_
    clear hw
    intro he_4 he_5 h_2 hw
    have h_3 := hw
    clear hw
    have he_4 := he_4.symm
    subst he_4
    subst he_5
    refine ww_eq (ws' := [(hm, .inr (12, [.ref m_manys, .ref m_reals, .ref m_factsOf, .ref m_possible, .int (nI q_undos), .int (nI q_models), .ref m_tape, .int (nI q_taped), .int q_fault, .int q_wrong, .int q_wrongAt, .int q_spot, .int q_place, .int q_token, .int q_value, .ref m_ends, .ref m_letters, .ref m_actOf, .ref m_whom, .ref m_actMany, .ref m_tokens, .ref m_afters, .ref m_afterOf, .int q_counted, .ref m_pile, .ref m_caseMany, .ref m_happen, .ref m_hasIf, .ref m_becomes, .ref m_goneOf, .ref m_heard, .ref m_pairs, .ref m_heaps, .int q_rounds, .int q_heapMany, .ref m_led, .ref m_newAt, .ref m_knowing, .ref m_firsts, .int (nI q_people), .ref m_secrets, .ref m_tried, .ref m_lanes, .ref m_lengths, .ref m_cells])), (m_tokens, .inl (E.2.1 1, 9, .inl f_tokens))]) ?_ rfl rfl rfl
    refine ww_if_eq_f (tgt := 25) C dX12_isSaying_9 (by decide) (by decide) ?_
    obtain ⟨j_9, hj_9, rfl⟩ := i_nat (x := k) (N := 7) (by omega) (by omega)
    have hzj_9 := nI_toInt (n := j_9) (by omega)
    refine ww_aload_n C dX12_isSaying_12 0 rfl rfl ?_
    refine ww_get C fg_X12_40 0 rfl rfl dX12_isSaying_13 ?_
    refine ww_iload_n C dX12_isSaying_16 1 rfl rfl ?_
    obtain ⟨x_10, ex_10⟩ : ∃ z : Int32, f_tokens j_9 = z := ⟨_, rfl⟩
    refine ww_iald (v := x_10) C 1 rfl (vp_in_nI (by omega) (by omega)) (ldn (by omega) ex_10) dX12_isSaying_17 ?_
    refine ww_if_le (tgt := 25) C dX12_isSaying_18 (by decide) (fun c_11 => ?_) (fun c_11 => ?_)
    · have zc_11 : x_10.toInt ≤ 0 := i_le rfl rfl c_11
      refine ww_iconst (v := 0) C dX12_isSaying_25 rfl ?_
      exact ww_zret (u := [(hm, .inr (12, [.ref m_manys, .ref m_reals, .ref m_factsOf, .ref m_possible, .int (nI q_undos), .int (nI q_models), .ref m_tape, .int (nI q_taped), .int q_fault, .int q_wrong, .int q_wrongAt, .int q_spot, .int q_place, .int q_token, .int q_value, .ref m_ends, .ref m_letters, .ref m_actOf, .ref m_whom, .ref m_actMany, .ref m_tokens, .ref m_afters, .ref m_afterOf, .int q_counted, .ref m_pile, .ref m_caseMany, .ref m_happen, .ref m_hasIf, .ref m_becomes, .ref m_goneOf, .ref m_heard, .ref m_pairs, .ref m_heaps, .int q_rounds, .int q_heapMany, .ref m_led, .ref m_newAt, .ref m_knowing, .ref m_firsts, .int (nI q_people), .ref m_secrets, .ref m_tried, .ref m_lanes, .ref m_lengths, .ref m_cells])), (m_tokens, .inl (E.2.1 1, 9, .inl f_tokens))]) C hT [0, 1] rfl rfl rfl rfl rfl dX12_isSaying_26 (Or.inr ⟨rfl, rfl, (Or.inr (Or.inr (by rw [nI_clamp (by omega), ex_10]; omega)))⟩)
    · have zc_11 : x_10.toInt > 0 := i_nle rfl rfl c_11
      refine ww_iconst (v := 1) C dX12_isSaying_21 rfl ?_
      refine ww_goto (tgt := 26) C dX12_isSaying_22 (by decide) ?_
      exact ww_zret (u := [(hm, .inr (12, [.ref m_manys, .ref m_reals, .ref m_factsOf, .ref m_possible, .int (nI q_undos), .int (nI q_models), .ref m_tape, .int (nI q_taped), .int q_fault, .int q_wrong, .int q_wrongAt, .int q_spot, .int q_place, .int q_token, .int q_value, .ref m_ends, .ref m_letters, .ref m_actOf, .ref m_whom, .ref m_actMany, .ref m_tokens, .ref m_afters, .ref m_afterOf, .int q_counted, .ref m_pile, .ref m_caseMany, .ref m_happen, .ref m_hasIf, .ref m_becomes, .ref m_goneOf, .ref m_heard, .ref m_pairs, .ref m_heaps, .int q_rounds, .int q_heapMany, .ref m_led, .ref m_newAt, .ref m_knowing, .ref m_firsts, .int (nI q_people), .ref m_secrets, .ref m_tried, .ref m_lanes, .ref m_lengths, .ref m_cells])), (m_tokens, .inl (E.2.1 1, 9, .inl f_tokens))]) C hT [0, 1] rfl rfl rfl rfl rfl dX12_isSaying_26 (Or.inl ⟨rfl, rfl, (by first | assumption | omega | decide), (by first | assumption | omega | decide), (by rw [nI_clamp (by omega), ex_10]; omega)⟩)
  · refine an2 hw ?_
    clear hw
    intro he_7 he_8 hw
    have h_6 := hw
    clear hw
    have he_7 := he_7.symm
    subst he_7
    subst he_8
    refine ww_eq (ws' := [(hm, .inr (12, [.ref m_manys, .ref m_reals, .ref m_factsOf, .ref m_possible, .int (nI q_undos), .int (nI q_models), .ref m_tape, .int (nI q_taped), .int q_fault, .int q_wrong, .int q_wrongAt, .int q_spot, .int q_place, .int q_token, .int q_value, .ref m_ends, .ref m_letters, .ref m_actOf, .ref m_whom, .ref m_actMany, .ref m_tokens, .ref m_afters, .ref m_afterOf, .int q_counted, .ref m_pile, .ref m_caseMany, .ref m_happen, .ref m_hasIf, .ref m_becomes, .ref m_goneOf, .ref m_heard, .ref m_pairs, .ref m_heaps, .int q_rounds, .int q_heapMany, .ref m_led, .ref m_newAt, .ref m_knowing, .ref m_firsts, .int (nI q_people), .ref m_secrets, .ref m_tried, .ref m_lanes, .ref m_lengths, .ref m_cells])), (m_tokens, .inl (E.2.1 1, 9, .inl f_tokens))]) ?_ rfl rfl rfl
    refine ww_if_eq_t (tgt := 25) C dX12_isSaying_9 (by decide) (rfl) ?_
    refine ww_iconst (v := 0) C dX12_isSaying_25 rfl ?_
    exact ww_zret (u := [(hm, .inr (12, [.ref m_manys, .ref m_reals, .ref m_factsOf, .ref m_possible, .int (nI q_undos), .int (nI q_models), .ref m_tape, .int (nI q_taped), .int q_fault, .int q_wrong, .int q_wrongAt, .int q_spot, .int q_place, .int q_token, .int q_value, .ref m_ends, .ref m_letters, .ref m_actOf, .ref m_whom, .ref m_actMany, .ref m_tokens, .ref m_afters, .ref m_afterOf, .int q_counted, .ref m_pile, .ref m_caseMany, .ref m_happen, .ref m_hasIf, .ref m_becomes, .ref m_goneOf, .ref m_heard, .ref m_pairs, .ref m_heaps, .int q_rounds, .int q_heapMany, .ref m_led, .ref m_newAt, .ref m_knowing, .ref m_firsts, .int (nI q_people), .ref m_secrets, .ref m_tried, .ref m_lanes, .ref m_lengths, .ref m_cells])), (m_tokens, .inl (E.2.1 1, 9, .inl f_tokens))]) C hT [0, 1] rfl rfl rfl rfl rfl dX12_isSaying_26 (Or.inr ⟨rfl, rfl, (by omega)⟩)
end
section
/-! what the reference holds true: knowers -/
def KAb (m : AM) (gr : Int32) (P : Nat → Bool) (w i : Nat) : Bool := !anyN (fun k => bt gr k && anyN (fun v => m.2.2.2 k w v && !P v) 32) i
def KBo (m : AM) (gr : Int32) (w i v : Nat) : Bool := !anyN (fun k => bt gr k && !m.2.2.2 k w v) i
def KB (act gr : Int32) (m : AM) (P : Nat → Bool) (w : Nat) : Bool := if act.toInt = 9 then !(anyN (fun v => nx m gr w v && P v) 32 && anyN (fun v => nx m gr w v && !P v) 32) else if act.toInt = 12 then !anyN (fun v => shr m gr w v && !P v) 32 else if act.toInt = 11 then !anyN (fun v => Rc m gr w v && !P v) 32 else !anyN (fun v => nx m gr w v && !P v) 32
def evK (act gr : Int32) (m : AM) (P : Nat → Bool) : Nat → Bool := fun w => decide (w < m.1) && KB act gr m P w
theorem andn_z {x so n y : Int32} (e1 : so ^^^ (-1 : Int32) = n) (e2 : x &&& n = y) : decide (y = 0) = !anyN (fun v => bt x v && !bt so v) 32 := by
  rw [row_z]
  congr 1
  exact anyN_cg (fun v hv => by rw [← e2, b_and, ← e1, b_xor, b_m1 v hv, Bool.xor_true])
theorem and_z {x so y : Int32} (e : x &&& so = y) : decide (y = 0) = !anyN (fun v => bt x v && bt so v) 32 := by
  rw [row_z]
  congr 1
  exact anyN_cg (fun v hv => by rw [← e, b_and])
theorem KAb.nil {m : AM} {gr : Int32} {P : Nat → Bool} {w : Nat} : decide ((1 : Nat) = 1) = KAb m gr P w 0 := rfl
theorem KAb.f {m : AM} {gr : Int32} {P : Nat → Bool} {w i al : Nat} (h : decide (al = 1) = KAb m gr P w i) (hb : bt gr i = false) : decide (al = 1) = KAb m gr P w (i + 1) := by
  rw [h]
  show (!anyN _ i) = !(anyN _ i || (bt gr i && anyN (fun v => m.2.2.2 i w v && !P v) 32))
  rw [hb, Bool.false_and, Bool.or_false]
theorem KAb.z {m : AM} {gr : Int32} {P : Nat → Bool} {w i al : Nat} (h : decide (al = 1) = KAb m gr P w i) (h0 : al ≠ 1) : decide ((0 : Nat) = 1) = KAb m gr P w (i + 1) := by
  rw [decide_eq_false h0] at h
  show false = !(anyN _ i || _)
  have h1 : anyN (fun k => bt gr k && anyN (fun v => m.2.2.2 k w v && !P v) 32) i = true := by
    cases hb : anyN (fun k => bt gr k && anyN (fun v => m.2.2.2 k w v && !P v) 32) i with
    | true => rfl
    | false => unfold KAb at h; rw [hb] at h; cases h
  rw [h1]; rfl
theorem KAb.t {m : AM} {gr so r n y : Int32} {w i al a2 : Nat} (h : decide (al = 1) = KAb m gr (bt so) w i) (h1 : al = 1) (hb : bt gr i = true) (hr : ∀ v, m.2.2.2 i w v = bt r v) (e1 : so ^^^ (-1 : Int32) = n) (e2 : r &&& n = y) (hz : decide (a2 = 1) = decide (y = 0)) : decide (a2 = 1) = KAb m gr (bt so) w (i + 1) := by
  rw [decide_eq_true h1] at h
  show _ = !(anyN _ i || (bt gr i && anyN (fun v => m.2.2.2 i w v && !bt so v) 32))
  have h2 : anyN (fun k => bt gr k && anyN (fun v => m.2.2.2 k w v && !bt so v) 32) i = false := by
    cases hc : anyN (fun k => bt gr k && anyN (fun v => m.2.2.2 k w v && !bt so v) 32) i with
    | false => rfl
    | true => unfold KAb at h; rw [hc] at h; cases h
  rw [h2, Bool.false_or, hb, Bool.true_and, hz, andn_z e1 e2]
  congr 1
  exact anyN_cg (fun v _ => by rw [hr v])
theorem dz_1 {y : Int32} (h : y.toInt = 0) : decide ((1 : Nat) = 1) = decide (y = 0) := (decide_eq_true rfl).trans (decide_eq_true (i_z h)).symm
theorem dz_0 {y : Int32} (h : y.toInt ≠ 0) : decide ((0 : Nat) = 1) = decide (y = 0) := (decide_eq_false (by decide)).trans (decide_eq_false (i_nz h)).symm
theorem KA_4 {m : AM} {gr : Int32} {P : Nat → Bool} {w : Nat} : KAb m gr P w 4 = !anyN (fun v => nx m gr w v && !P v) 32 := by
  unfold KAb
  congr 1
  apply bool_iff
  rw [anyN_iff, anyN_iff]
  constructor
  · rintro ⟨k, hk, h⟩
    rw [Bool.and_eq_true, anyN_iff] at h
    obtain ⟨h1, v, hv, h2⟩ := h
    rw [Bool.and_eq_true] at h2
    refine ⟨v, hv, ?_⟩
    rw [Bool.and_eq_true]
    exact ⟨anyN_iff.mpr ⟨k, hk, by rw [h1, h2.1]; rfl⟩, h2.2⟩
  · rintro ⟨v, hv, h⟩
    rw [Bool.and_eq_true] at h
    obtain ⟨k, hk, h1⟩ := anyN_iff.mp h.1
    rw [Bool.and_eq_true] at h1
    refine ⟨k, hk, ?_⟩
    rw [Bool.and_eq_true, anyN_iff]
    exact ⟨h1.1, v, hv, by rw [h1.2, h.2]; rfl⟩
theorem KBo.nil {m : AM} {gr : Int32} {w : Nat} : BS (-1) (KBo m gr w 0) := fun v hv => b_m1 v hv
theorem KBo.f {m : AM} {gr x : Int32} {w i : Nat} (h : BS x (KBo m gr w i)) (hb : bt gr i = false) : BS x (KBo m gr w (i + 1)) := h.cg (fun v _ => by
  show (!anyN _ i) = !(anyN _ i || (bt gr i && !m.2.2.2 i w v))
  rw [hb, Bool.false_and, Bool.or_false])
theorem KBo.t {m : AM} {gr x r z : Int32} {w i : Nat} (h : BS x (KBo m gr w i)) (hb : bt gr i = true) (hr : ∀ v, m.2.2.2 i w v = bt r v) (e : x &&& r = z) : BS z (KBo m gr w (i + 1)) := fun v hv => by
  have h1 : bt x v = !anyN (fun k => bt gr k && !m.2.2.2 k w v) i := h v hv
  rw [← e, b_and, h1]
  show _ = !(anyN _ i || (bt gr i && !m.2.2.2 i w v))
  rw [hb, Bool.true_and, hr v, Bool.not_or, Bool.not_not]
theorem kbo_one {m : AM} {gr : Int32} {k w v : Nat} (hk : k < 4) (h : ∀ i, i < 4 → bt gr i = decide (i = k)) : KBo m gr w 4 v = nx m gr w v := by
  apply bool_iff
  unfold KBo
  rw [Bool.not_eq_true']
  constructor
  · intro h1
    have h2 := anyN_f h1 hk
    have h3 : (bt gr k && !m.2.2.2 k w v) = false := h2
    rw [h k hk, decide_eq_true rfl, Bool.true_and, Bool.not_eq_false'] at h3
    exact anyN_iff.mpr ⟨k, hk, by rw [h k hk, decide_eq_true rfl, h3]; rfl⟩
  · intro h1
    obtain ⟨j, hj, h2⟩ := anyN_iff.mp h1
    rw [Bool.and_eq_true, h j hj, decide_eq_true_eq] at h2
    refine anyN_no (fun i hi => ?_)
    show (bt gr i && !m.2.2.2 i w v) = false
    rw [h i hi]
    by_cases q : i = k
    · rw [q, ← h2.1, h2.2]; exact Bool.and_false _
    · rw [decide_eq_false q]; rfl
theorem kbo_shr {m : AM} (hw : WFm m) {gr : Int32} {k w v : Nat} (hk : k < 4) (h : bt gr k = true) : KBo m gr w 4 v = shr m gr w v := by
  show KBo m gr w 4 v = (decide (v < m.1) && KBo m gr w 4 v)
  cases hc : KBo m gr w 4 v with
  | false => rw [Bool.and_false]
  | true =>
    have h1 : anyN (fun k => bt gr k && !m.2.2.2 k w v) 4 = false := by
      unfold KBo at hc; rw [Bool.not_eq_true'] at hc; exact hc
    have h2 : (bt gr k && !m.2.2.2 k w v) = false := anyN_f h1 hk
    rw [h, Bool.true_and, Bool.not_eq_false'] at h2
    rw [decide_eq_true (hw k w v h2)]; rfl
theorem kb_o {act gr so : Int32} {m : AM} {w al : Nat} {b : Bool} (h9 : act.toInt ≠ 9) (h12 : act.toInt ≠ 12) (h11 : act.toInt ≠ 11) (h : decide (al = 1) = KAb m gr (bt so) w 4) (hb : decide (al = 1) = b) : KB act gr m (bt so) w = b := by
  unfold KB
  rw [if_neg h9, if_neg h12, if_neg h11, ← KA_4, ← h, hb]
theorem kb_11 {act gr so r n y : Int32} {m : AM} {w : Nat} {b : Bool} (h : act.toInt = 11) (hr : BS r (Rc m gr w)) (e1 : so ^^^ (-1 : Int32) = n) (e2 : r &&& n = y) (hb : decide (y = 0) = b) : KB act gr m (bt so) w = b := by
  unfold KB
  rw [if_neg (by omega), if_neg (by omega), if_pos h, ← hb, andn_z e1 e2]
  congr 1
  exact anyN_cg (fun v hv => by rw [hr v hv])
theorem kb_12 {act gr so bo n y : Int32} {m : AM} {w : Nat} {b : Bool} (h : act.toInt = 12) (hw : WFm m) (hk : ∃ k, k < 4 ∧ bt gr k = true) (hbo : BS bo (KBo m gr w 4)) (e1 : so ^^^ (-1 : Int32) = n) (e2 : bo &&& n = y) (hb : decide (y = 0) = b) : KB act gr m (bt so) w = b := by
  obtain ⟨k, hk, hg⟩ := hk
  unfold KB
  rw [if_neg (by omega), if_pos h, ← hb, andn_z e1 e2]
  congr 1
  exact anyN_cg (fun v hv => by rw [hbo v hv, kbo_shr hw hk hg])
theorem kb_9a {act gr so : Int32} {m : AM} {w al : Nat} (h : act.toInt = 9) (ha : decide (al = 1) = KAb m gr (bt so) w 4) (h1 : al = 1) : KB act gr m (bt so) w = true := by
  rw [decide_eq_true h1, KA_4] at ha
  unfold KB
  have h2 : anyN (fun v => nx m gr w v && !bt so v) 32 = false := by
    cases hc : anyN (fun v => nx m gr w v && !bt so v) 32 with
    | false => rfl
    | true => rw [hc] at ha; cases ha
  rw [if_pos h, h2, Bool.and_false]; rfl
theorem kb_9 {act gr so bo y : Int32} {m : AM} {w al : Nat} {b : Bool} (h : act.toInt = 9) (ha : decide (al = 1) = KAb m gr (bt so) w 4) (h0 : al ≠ 1) (hk : ∃ k, k < 4 ∧ ∀ i, i < 4 → bt gr i = decide (i = k)) (hbo : BS bo (KBo m gr w 4)) (e : bo &&& so = y) (hb : decide (y = 0) = b) : KB act gr m (bt so) w = b := by
  obtain ⟨k, hk, hg⟩ := hk
  rw [decide_eq_false h0, KA_4] at ha
  unfold KB
  have h2 : anyN (fun v => nx m gr w v && !bt so v) 32 = true := by
    cases hc : anyN (fun v => nx m gr w v && !bt so v) 32 with
    | true => rfl
    | false => rw [hc] at ha; cases ha
  rw [if_pos h, h2, Bool.and_true, ← hb, and_z e]
  congr 1
  exact anyN_cg (fun v hv => by rw [hbo v hv, kbo_one hk hg])
theorem KB_cg {act gr : Int32} {m : AM} {P Q : Nat → Bool} {w : Nat} (h : ∀ v, v < 32 → P v = Q v) : KB act gr m P w = KB act gr m Q w := by
  unfold KB
  have e1 : anyN (fun v => nx m gr w v && P v) 32 = anyN (fun v => nx m gr w v && Q v) 32 := anyN_cg (fun v hv => by rw [h v hv])
  have e2 : anyN (fun v => nx m gr w v && !P v) 32 = anyN (fun v => nx m gr w v && !Q v) 32 := anyN_cg (fun v hv => by rw [h v hv])
  have e3 : anyN (fun v => shr m gr w v && !P v) 32 = anyN (fun v => shr m gr w v && !Q v) 32 := anyN_cg (fun v hv => by rw [h v hv])
  have e4 : anyN (fun v => Rc m gr w v && !P v) 32 = anyN (fun v => Rc m gr w v && !Q v) 32 := anyN_cg (fun v hv => by rw [h v hv])
  rw [e1, e2, e3, e4]
theorem evK_b {act gr so r : Int32} {m : AM} {P : Nat → Bool} (h : BS r (evK act gr m (bt so))) (hp : BS so P) : BS r (evK act gr m P) := h.cg (fun w _ => by
  show (decide (w < m.1) && KB act gr m (bt so) w) = (decide (w < m.1) && KB act gr m P w)
  rw [KB_cg hp])
/-! what the reference holds true: the names of a saying -/
def rO (fa : Nat → Int32) (s : Nat) : Nat → Int32 := fun i => opV (cN fa (32 * s + i))
def rA (fa fw : Nat → Int32) (s : Nat) : Nat → Int32 := fun i => argV (cN fa (32 * s + i)) (cN fw (32 * s + i))
def WHs (n : Nat) (fa fw : Nat → Int32) (s : Nat) : Prop := 1 ≤ n ∧ ∀ i, i < n → 8 ≤ (fa (32 * s + i)).toInt → ∃ g, fw (32 * s + i) = nI g ∧ g < 16 ∧ g ≠ 0 ∧ ((fa (32 * s + i)).toInt = 9 → cb g.testBit 32 = 1)
theorem one4 : ∀ g, g < 16 → cb g.testBit 32 = 1 → (∀ i, i < 4 → bt (nI g) i = decide (i = 0)) ∨ (∀ i, i < 4 → bt (nI g) i = decide (i = 1)) ∨ (∀ i, i < 4 → bt (nI g) i = decide (i = 2)) ∨ (∀ i, i < 4 → bt (nI g) i = decide (i = 3)) := by decide +kernel
theorem some4 : ∀ g, g < 16 → g ≠ 0 → bt (nI g) 0 = true ∨ bt (nI g) 1 = true ∨ bt (nI g) 2 = true ∨ bt (nI g) 3 = true := by decide +kernel
theorem WHs.k9 {n s i : Nat} {fa fw : Nat → Int32} {x y : Int32} (h : WHs n fa fw s) (hi : i < n) (hx : fa (32 * s + i) = x) (hy : fw (32 * s + i) = y) : x.toInt = 9 → ∃ k, k < 4 ∧ ∀ i, i < 4 → bt y i = decide (i = k) := fun h9 => by
  obtain ⟨g, e1, e2, e3, e4⟩ := h.2 i hi (by rw [hx]; omega)
  rw [hx] at e4
  rw [hy] at e1
  rw [e1]
  rcases one4 g e2 (e4 h9) with a | a | a | a
  · exact ⟨0, by omega, a⟩
  · exact ⟨1, by omega, a⟩
  · exact ⟨2, by omega, a⟩
  · exact ⟨3, by omega, a⟩
theorem WHs.k12 {n s i : Nat} {fa fw : Nat → Int32} {x y : Int32} (h : WHs n fa fw s) (hi : i < n) (hx : fa (32 * s + i) = x) (hy : fw (32 * s + i) = y) : x.toInt = 12 → ∃ k, k < 4 ∧ bt y k = true := fun h9 => by
  obtain ⟨g, e1, e2, e3, e4⟩ := h.2 i hi (by rw [hx]; omega)
  rw [hy] at e1
  rw [e1]
  rcases some4 g e2 e3 with a | a | a | a
  · exact ⟨0, by omega, a⟩
  · exact ⟨1, by omega, a⟩
  · exact ⟨2, by omega, a⟩
  · exact ⟨3, by omega, a⟩
theorem uN_wR : ∀ a, a < 13 → uN (opV a) = wR (nI a) := by decide +kernel
theorem i_cl {x : Int32} {N : Nat} (h0 : 0 ≤ x.toInt) (h : x.toInt ≤ N) (hN : N < 2 ^ 31) : x = nI x.toNatClampNeg ∧ x.toNatClampNeg ≤ N := by
  obtain ⟨j, e, hj⟩ := nI_ex (x := x) (n := N) h0 h
  rw [e, nI_clamp (by omega)]; exact ⟨rfl, hj⟩
theorem clmp_of {x : Int32} {a : Nat} (h : x.toInt = a) : x.toNatClampNeg = a := by
  show x.toInt.toNat = a; omega
theorem opn_opr {fa : Nat → Int32} {s : Nat} : ∀ n : Nat, (∀ i, i < n → 0 ≤ (slot fa s i).toInt ∧ (slot fa s i).toInt ≤ 12) → opn (rO fa s) n = opr (slot fa s) n
  | 0, _ => rfl
  | n + 1, h => by
    have h1 := i_cl (x := slot fa s n) (N := 12) (h n (by omega)).1 (h n (by omega)).2 (by omega)
    rw [opn_s, opr_s, opn_opr n (fun i hi => h i (by omega))]
    have e : uN (rO fa s n) = wR (slot fa s n) := by
      have e1 : uN (rO fa s n) = uN (opV (slot fa s n).toNatClampNeg) := rfl
      rw [e1, uN_wR _ (by omega), ← h1.1]
    rw [e]
theorem rO_at {fa : Nat → Int32} {s i a : Nat} {x : Int32} (hx : fa (32 * s + i) = x) (h : x.toNatClampNeg = a) : rO fa s i = opV a := by unfold rO cN; rw [hx, h]
theorem rA_at {fa fw : Nat → Int32} {s i a : Nat} {x : Int32} (hx : fa (32 * s + i) = x) (h : x.toNatClampNeg = a) : rA fa fw s i = argV a (cN fw (32 * s + i)) := by
  show argV (cN fa (32 * s + i)) (cN fw (32 * s + i)) = _
  unfold cN; rw [hx, h]
section
variable {m : AM} {ar : Int32} {P Q : Nat → Bool}
theorem evC_0 : evC m 0 ar P Q = vF m ar := if_pos rfl
theorem evC_1 : evC m 1 ar P Q = vAll m := by unfold evC; rw [if_neg (by decide), if_pos rfl]
theorem evC_2 : evC m 2 ar P Q = vNot m P := by unfold evC; rw [if_neg (by decide), if_neg (by decide), if_pos rfl]
theorem evC_3 : evC m 3 ar P Q = fun w => P w && Q w := by unfold evC; rw [if_neg (by decide), if_neg (by decide), if_neg (by decide), if_pos rfl]
theorem evC_4 : evC m 4 ar P Q = fun w => P w || Q w := by unfold evC; rw [if_neg (by decide), if_neg (by decide), if_neg (by decide), if_neg (by decide), if_pos rfl]
theorem evC_5 : evC m 5 ar P Q = vWh m ar P := by unfold evC; rw [if_neg (by decide), if_neg (by decide), if_neg (by decide), if_neg (by decide), if_neg (by decide), if_pos rfl]
theorem evC_6 : evC m 6 ar P Q = vEv m ar P := by unfold evC; rw [if_neg (by decide), if_neg (by decide), if_neg (by decide), if_neg (by decide), if_neg (by decide), if_neg (by decide), if_pos rfl]
theorem evC_7 : evC m 7 ar P Q = vCom m ar P := by unfold evC; rw [if_neg (by decide), if_neg (by decide), if_neg (by decide), if_neg (by decide), if_neg (by decide), if_neg (by decide), if_neg (by decide), if_pos rfl]
theorem evC_8 : evC m 8 ar P Q = vTog m ar P := by unfold evC; rw [if_neg (by decide), if_neg (by decide), if_neg (by decide), if_neg (by decide), if_neg (by decide), if_neg (by decide), if_neg (by decide), if_neg (by decide)]
end
theorem fv_bit : ∀ a, a < 4 → ∀ v, v < 32 → bt (fv a) v = decide (v = a) := by decide +kernel
theorem fv_b {a : Nat} (ha : a < 4) (x : Int32) : decide (¬ (x &&& fv a = 0)) = bt x a := by
  have h1 := row_z (x := x &&& fv a)
  have h2 : anyN (bt (x &&& fv a)) 32 = bt x a := by
    apply bool_iff
    rw [anyN_iff]
    constructor
    · rintro ⟨i, hi, h⟩
      rw [b_and, fv_bit a ha i hi, Bool.and_eq_true, decide_eq_true_eq] at h
      rw [← h.2]; exact h.1
    · intro h
      exact ⟨a, by omega, by rw [b_and, fv_bit a ha a (by omega), h, decide_eq_true rfl]; rfl⟩
  rw [h2] at h1
  cases hb : bt x a with
  | true =>
    rw [hb] at h1
    exact decide_eq_true (of_decide_eq_false h1)
  | false =>
    rw [hb] at h1
    exact decide_eq_false (fun q => q (of_decide_eq_true h1))
theorem z_shl : ∀ i, i < 32 → (nI 0) <<< (nI i &&& 31) = 0 := by decide +kernel
theorem AC.b {x y z s f act : Int32} {P : Nat → Bool} {i j a : Nat} (h : AC x no_ i P) (hi : i ≤ 30) (ha : act = nI a) (ha2 : a < 32) (e1 : f >>> (act &&& 31) = s) (e2 : s &&& 1 = nI j) (hj : j < 2) (hP : P i = bt f a) (e3 : nI j <<< (nI i &&& 31) = y) (e : x ||| y = z) : AC z no_ (i + 1) P := by
  subst ha
  have h1 := bit1 ha2 e1 e2 hj
  cases hb : bt f a with
  | true =>
    have h2 : nI j = 1 := by rw [h1, hb]; rfl
    exact AC.t h hi (hP.trans hb) e (by rw [← e3, h2])
  | false =>
    have h2 : nI j = nI 0 := by rw [h1, hb]; rfl
    have h3 : y = 0 := by rw [← e3, h2]; exact z_shl i (by omega)
    rw [h3] at e
    exact AC.z h (hP.trans hb) e
section
variable {fm fr ff fp fa fw : Nat → Int32} {p s i : Nat} {x r : Int32} {P Q : Nat → Bool}
theorem te_f (hx : fa (32 * s + i) = x) (h0 : 0 ≤ x.toInt) (h4 : x.toInt < 4) (h : BS r (fun w => decide (w < cN fm p) && bt (ff (24 * p + w)) x.toNatClampNeg)) : BS r (evC (pgs fm fr ff fp p) (rO fa s i) (rA fa fw s i) P Q) := by
  have h1 := i_cl (x := x) (N := 3) h0 (by omega) (by omega)
  rw [rO_at hx rfl, rA_at hx rfl, opV_l (by omega), evC_0, ← argV_f (by omega)]
  refine h.cg (fun w _ => ?_)
  show _ = (decide (w < cN fm p) && decide (¬ ((pgs fm fr ff fp p).2.2.1 w &&& fv x.toNatClampNeg = 0)))
  by_cases q : w < cN fm p
  · rw [pg_F q, fv_b (by omega)]
  · rw [decide_eq_false q, Bool.false_and, Bool.false_and]
theorem te_4 {m : AM} (hx : fa (32 * s + i) = x) (h4 : x.toInt = 4) (h : BS r (vAll m)) : BS r (evC m (rO fa s i) (rA fa fw s i) P Q) := by
  rw [rO_at hx (clmp_of (a := 4) h4), show opV 4 = 1 from rfl, evC_1]; exact h
theorem te_5 {m : AM} {wh a b : Int32} (hx : fa (32 * s + i) = x) (h4 : x.toInt = 5) (hw : BS wh (vAll m)) (hp : BS a P) (e1 : a ^^^ (-1 : Int32) = b) (e2 : wh &&& b = r) : BS r (evC m (rO fa s i) (rA fa fw s i) P Q) := by
  rw [rO_at hx (clmp_of (a := 5) h4), show opV 5 = 2 from rfl, evC_2]; exact BS.and hw (BS.not hp e1) e2
theorem te_6 {m : AM} {a b : Int32} (hx : fa (32 * s + i) = x) (h4 : x.toInt = 6) (hq : BS a Q) (hp : BS b P) (e : a &&& b = r) : BS r (evC m (rO fa s i) (rA fa fw s i) P Q) := by
  rw [rO_at hx (clmp_of (a := 6) h4), show opV 6 = 3 from rfl, evC_3]; exact (BS.and hq hp e).cg (fun w _ => Bool.and_comm _ _)
theorem te_7 {m : AM} {a b : Int32} (hx : fa (32 * s + i) = x) (h4 : x.toInt = 7) (hq : BS a Q) (hp : BS b P) (e : a ||| b = r) : BS r (evC m (rO fa s i) (rA fa fw s i) P Q) := by
  rw [rO_at hx (clmp_of (a := 7) h4), show opV 7 = 4 from rfl, evC_4]; exact (BS.or hq hp e).cg (fun w _ => Bool.or_comm _ _)
theorem te_8 {m : AM} {gr so : Int32} {n : Nat} (hW : WHs n fa fw s) (hi : i < n) (hx : fa (32 * s + i) = x) (hy : fw (32 * s + i) = gr) (h8 : 8 ≤ x.toInt) (h12 : x.toInt ≤ 12) (hp : BS so P) (hr : BS r (evK x gr m (bt so))) : BS r (evC m (rO fa s i) (rA fa fw s i) P Q) := by
  have h1 := i_cl (x := x) (N := 12) (by omega) (by omega) (by omega)
  obtain ⟨g, g1, g2, -⟩ := hW.2 i hi (by rw [hx]; exact h8)
  have hA : rA fa fw s i = gr := by
    rw [rA_at hx rfl, ← argV_g (by have : x.toInt.toNat = x.toNatClampNeg := rfl; omega)]
    show nI (fw (32 * s + i)).toNatClampNeg = gr
    rw [g1, nI_clamp (by omega), ← g1, hy]
  rw [hA]
  have h2 := evK_b hr hp
  have h3 : x.toInt = 8 ∨ x.toInt = 9 ∨ x.toInt = 10 ∨ x.toInt = 11 ∨ x.toInt = 12 := by omega
  rcases h3 with q | q | q | q | q
  · rw [rO_at hx (clmp_of (a := 8) q), show opV 8 = 6 from rfl, evC_6]
    refine h2.cg (fun w _ => ?_)
    unfold evK KB vEv; rw [if_neg (by omega), if_neg (by omega), if_neg (by omega)]
  · rw [rO_at hx (clmp_of (a := 9) q), show opV 9 = 5 from rfl, evC_5]
    refine h2.cg (fun w _ => ?_)
    unfold evK KB vWh; rw [if_pos q]
  · rw [rO_at hx (clmp_of (a := 10) q), show opV 10 = 6 from rfl, evC_6]
    refine h2.cg (fun w _ => ?_)
    unfold evK KB vEv; rw [if_neg (by omega), if_neg (by omega), if_neg (by omega)]
  · rw [rO_at hx (clmp_of (a := 11) q), show opV 11 = 7 from rfl, evC_7]
    refine h2.cg (fun w _ => ?_)
    unfold evK KB vCom; rw [if_neg (by omega), if_neg (by omega), if_pos q]
  · rw [rO_at hx (clmp_of (a := 12) q), show opV 12 = 8 from rfl, evC_8]
    refine h2.cg (fun w _ => ?_)
    unfold evK KB vTog; rw [if_neg (by omega), if_pos q]
end
theorem st_at {f : Nat → Int32} {V : Nat → Nat → Bool} {B : Int} {j k : Nat} {x : Int32} (h : ∀ j : Nat, (j : Int) < B → BS (f j) (V j)) (hk : (k : Int) < B) (ek : k = j) (e : f j = x) : BS x (V k) := by
  subst ek; rw [← e]; exact h k hk
end
