theorem dX12_say_0 : decode cX12_say 0 = .ok (.iload_n 1, 1) := by decide +kernel
theorem dX12_say_1 : decode cX12_say 1 = .ok (.i2l, 1) := by decide +kernel
theorem dX12_say_2 : decode cX12_say 2 = .ok (.lconst 0, 1) := by decide +kernel
theorem dX12_say_3 : decode cX12_say 3 = .ok (.ldc2_w 207, 3) := by decide +kernel
theorem wv_X12_207 : Cond.constantLong RX12 207 7 ∈ TB := tbm (tq6 (List.mem_of_getElem? (i := 52) (by decide +kernel))) (by decide +kernel)
theorem dX12_say_6 : decode cX12_say 6 = .ok (.invokestatic 115, 3) := by decide +kernel
theorem dX12_say_9 : decode cX12_say 9 = .ok (.ifCond .ne 5, 3) := by decide +kernel
theorem dX12_say_14 : decode cX12_say 14 = .ok (.aload_n 0, 1) := by decide +kernel
theorem dX12_say_15 : decode cX12_say 15 = .ok (.iconst 0, 1) := by decide +kernel
theorem dX12_say_16 : decode cX12_say 16 = .ok (.putfield 157, 3) := by decide +kernel
theorem dX12_say_19 : decode cX12_say 19 = .ok (.aload_n 0, 1) := by decide +kernel
theorem dX12_say_20 : decode cX12_say 20 = .ok (.iconst 0, 1) := by decide +kernel
theorem dX12_say_21 : decode cX12_say 21 = .ok (.putfield 166, 3) := by decide +kernel
theorem dX12_say_24 : decode cX12_say 24 = .ok (.aload_n 0, 1) := by decide +kernel
theorem dX12_say_25 : decode cX12_say 25 = .ok (.iconst 0, 1) := by decide +kernel
theorem dX12_say_26 : decode cX12_say 26 = .ok (.putfield 191, 3) := by decide +kernel
theorem dX12_say_29 : decode cX12_say 29 = .ok (.aload_n 0, 1) := by decide +kernel
theorem dX12_say_30 : decode cX12_say 30 = .ok (.getfield 37, 3) := by decide +kernel
theorem dX12_say_33 : decode cX12_say 33 = .ok (.bipush 24, 2) := by decide +kernel
theorem dX12_say_35 : decode cX12_say 35 = .ok (.iconst 0, 1) := by decide +kernel
theorem dX12_say_36 : decode cX12_say 36 = .ok (.iastore, 1) := by decide +kernel
theorem dX12_say_37 : decode cX12_say 37 = .ok (.aload_n 0, 1) := by decide +kernel
theorem dX12_say_38 : decode cX12_say 38 = .ok (.getfield 43, 3) := by decide +kernel
theorem dX12_say_41 : decode cX12_say 41 = .ok (.bipush 8, 2) := by decide +kernel
theorem dX12_say_43 : decode cX12_say 43 = .ok (.iconst 0, 1) := by decide +kernel
theorem dX12_say_44 : decode cX12_say 44 = .ok (.iastore, 1) := by decide +kernel
theorem dX12_say_45 : decode cX12_say 45 = .ok (.aload_n 0, 1) := by decide +kernel
theorem dX12_say_46 : decode cX12_say 46 = .ok (.invokevirtual 201, 3) := by decide +kernel
theorem dX12_say_49 : decode cX12_say 49 = .ok (.aload_n 0, 1) := by decide +kernel
theorem dX12_say_50 : decode cX12_say 50 = .ok (.invokevirtual 209, 3) := by decide +kernel
theorem wl_X12_209 : Cond.methodLink RX12 209 yX12_readAfters ∈ TB := tbm (tq6 (List.mem_of_getElem? (i := 69) (by decide +kernel))) (by decide +kernel)
theorem wc_X12_readAfters : Cond.code yX12_readAfters cX12_readAfters 1 none ∈ TB := tbm (tq6 (List.mem_of_getElem? (i := 72) (rfl))) (by decide +kernel)
theorem wi_X12_readAfters : Cond.instanceMethod yX12_readAfters ∈ TB := tbm (tq6 (List.mem_of_getElem? (i := 71) (by decide +kernel))) (by decide +kernel)
theorem ws_X12_readAfters : Cond.selects RX12 yX12_readAfters yX12_readAfters ∈ TB := tbm (tq0 (List.mem_of_getElem? (i := 46) (by decide +kernel))) (by decide +kernel)
theorem mi_X12_readAfters : MI yX12_readAfters cX12_readAfters 1 none 0 := ⟨wc_X12_readAfters, wn_X12, ⟨by decide +kernel, by decide +kernel, by decide +kernel⟩, wi_X12_readAfters, ws_X12_readAfters⟩
theorem dX12_say_53 : decode cX12_say 53 = .ok (.iconst 1, 1) := by decide +kernel
theorem dX12_say_54 : decode cX12_say 54 = .ok (.istore_n 2, 1) := by decide +kernel
theorem dX12_say_55 : decode cX12_say 55 = .ok (.aload_n 0, 1) := by decide +kernel
theorem dX12_say_56 : decode cX12_say 56 = .ok (.getfield 157, 3) := by decide +kernel
theorem dX12_say_59 : decode cX12_say 59 = .ok (.ifCond .ne 51, 3) := by decide +kernel
theorem dX12_say_110 : decode cX12_say 110 = .ok (.aload_n 0, 1) := by decide +kernel
theorem dX12_say_111 : decode cX12_say 111 = .ok (.getfield 157, 3) := by decide +kernel
theorem dX12_say_114 : decode cX12_say 114 = .ok (.ifCond .ne 15, 3) := by decide +kernel
theorem dX12_say_129 : decode cX12_say 129 = .ok (.aload_n 0, 1) := by decide +kernel
theorem dX12_say_130 : decode cX12_say 130 = .ok (.iconst 0, 1) := by decide +kernel
theorem dX12_say_131 : decode cX12_say 131 = .ok (.putfield 154, 3) := by decide +kernel
theorem dX12_say_134 : decode cX12_say 134 = .ok (.aload_n 0, 1) := by decide +kernel
theorem dX12_say_135 : decode cX12_say 135 = .ok (.aload_n 0, 1) := by decide +kernel
theorem dX12_say_136 : decode cX12_say 136 = .ok (.getfield 157, 3) := by decide +kernel
theorem dX12_say_139 : decode cX12_say 139 = .ok (.putfield 218, 3) := by decide +kernel
theorem wf_X12_218 : Cond.fieldLink RX12 218 RX12 "fault" "I" ∈ TB := tbm (tq5 (List.mem_of_getElem? (i := 86) (by decide +kernel))) (by decide +kernel)
theorem fp_X12_218 : FP RX12 218 12 8 .int false := ⟨RX12, TX12, 45, tyX12, uw_X12, wf_X12_218, rfl, by decide, rfl, tyX12_ok, nmX12, rfl, by decide +kernel⟩
theorem dX12_say_142 : decode cX12_say 142 = .ok (.aload_n 0, 1) := by decide +kernel
theorem dX12_say_143 : decode cX12_say 143 = .ok (.getfield 157, 3) := by decide +kernel
theorem dX12_say_146 : decode cX12_say 146 = .ok (.ifCond .le 11, 3) := by decide +kernel
theorem dX12_say_157 : decode cX12_say 157 = .ok (.aload_n 0, 1) := by decide +kernel
theorem dX12_say_158 : decode cX12_say 158 = .ok (.bipush 24, 2) := by decide +kernel
theorem dX12_say_160 : decode cX12_say 160 = .ok (.iload_n 1, 1) := by decide +kernel
theorem dX12_say_161 : decode cX12_say 161 = .ok (.invokevirtual 221, 3) := by decide +kernel
theorem wl_X12_221 : Cond.methodLink RX12 221 yX12_copyActs ∈ TB := tbm (tq6 (List.mem_of_getElem? (i := 93) (by decide +kernel))) (by decide +kernel)
theorem wc_X12_copyActs : Cond.code yX12_copyActs cX12_copyActs 4 none ∈ TB := tbm (tq6 (List.mem_of_getElem? (i := 96) (rfl))) (by decide +kernel)
theorem wi_X12_copyActs : Cond.instanceMethod yX12_copyActs ∈ TB := tbm (tq6 (List.mem_of_getElem? (i := 95) (by decide +kernel))) (by decide +kernel)
theorem ws_X12_copyActs : Cond.selects RX12 yX12_copyActs yX12_copyActs ∈ TB := tbm (tq0 (List.mem_of_getElem? (i := 51) (by decide +kernel))) (by decide +kernel)
theorem mi_X12_copyActs : MI yX12_copyActs cX12_copyActs 4 none 2 := ⟨wc_X12_copyActs, wn_X12, ⟨by decide +kernel, by decide +kernel, by decide +kernel⟩, wi_X12_copyActs, ws_X12_copyActs⟩
theorem dX12_say_164 : decode cX12_say 164 = .ok (.aload_n 0, 1) := by decide +kernel
theorem dX12_say_165 : decode cX12_say 165 = .ok (.getfield 40, 3) := by decide +kernel
theorem wf_X12_40 : Cond.fieldLink RX12 40 RX12 "tokens" "[I" ∈ TB := tbm (tq5 (List.mem_of_getElem? (i := 98) (by decide +kernel))) (by decide +kernel)
theorem fg_X12_40 : FG RX12 40 12 20 := ⟨RX12, TX12, 45, uw_X12, wf_X12_40, rfl, by decide, rfl⟩
theorem dX12_say_168 : decode cX12_say 168 = .ok (.iload_n 1, 1) := by decide +kernel
theorem dX12_say_169 : decode cX12_say 169 = .ok (.aload_n 0, 1) := by decide +kernel
theorem dX12_say_170 : decode cX12_say 170 = .ok (.getfield 191, 3) := by decide +kernel
theorem dX12_say_173 : decode cX12_say 173 = .ok (.iastore, 1) := by decide +kernel
theorem dX12_say_174 : decode cX12_say 174 = .ok (.aload_n 0, 1) := by decide +kernel
theorem dX12_say_175 : decode cX12_say 175 = .ok (.getfield 43, 3) := by decide +kernel
theorem dX12_say_178 : decode cX12_say 178 = .ok (.iload_n 1, 1) := by decide +kernel
theorem dX12_say_179 : decode cX12_say 179 = .ok (.aload_n 0, 1) := by decide +kernel
theorem dX12_say_180 : decode cX12_say 180 = .ok (.getfield 43, 3) := by decide +kernel
theorem dX12_say_183 : decode cX12_say 183 = .ok (.bipush 8, 2) := by decide +kernel
theorem dX12_say_185 : decode cX12_say 185 = .ok (.iaload, 1) := by decide +kernel
theorem dX12_say_186 : decode cX12_say 186 = .ok (.iastore, 1) := by decide +kernel
theorem dX12_say_187 : decode cX12_say 187 = .ok (.aload_n 0, 1) := by decide +kernel
theorem dX12_say_188 : decode cX12_say 188 = .ok (.getfield 46, 3) := by decide +kernel
theorem dX12_say_191 : decode cX12_say 191 = .ok (.iconst 2, 1) := by decide +kernel
theorem dX12_say_192 : decode cX12_say 192 = .ok (.iload_n 1, 1) := by decide +kernel
theorem dX12_say_193 : decode cX12_say 193 = .ok (.imul, 1) := by decide +kernel
theorem dX12_say_194 : decode cX12_say 194 = .ok (.aload_n 0, 1) := by decide +kernel
theorem dX12_say_195 : decode cX12_say 195 = .ok (.getfield 46, 3) := by decide +kernel
theorem dX12_say_198 : decode cX12_say 198 = .ok (.bipush 16, 2) := by decide +kernel
theorem dX12_say_200 : decode cX12_say 200 = .ok (.iaload, 1) := by decide +kernel
theorem dX12_say_201 : decode cX12_say 201 = .ok (.iastore, 1) := by decide +kernel
theorem dX12_say_202 : decode cX12_say 202 = .ok (.aload_n 0, 1) := by decide +kernel
theorem dX12_say_203 : decode cX12_say 203 = .ok (.getfield 46, 3) := by decide +kernel
theorem dX12_say_206 : decode cX12_say 206 = .ok (.iconst 2, 1) := by decide +kernel
theorem dX12_say_207 : decode cX12_say 207 = .ok (.iload_n 1, 1) := by decide +kernel
theorem dX12_say_208 : decode cX12_say 208 = .ok (.imul, 1) := by decide +kernel
theorem dX12_say_209 : decode cX12_say 209 = .ok (.iconst 1, 1) := by decide +kernel
theorem dX12_say_210 : decode cX12_say 210 = .ok (.iadd, 1) := by decide +kernel
theorem dX12_say_211 : decode cX12_say 211 = .ok (.aload_n 0, 1) := by decide +kernel
theorem dX12_say_212 : decode cX12_say 212 = .ok (.getfield 46, 3) := by decide +kernel
theorem dX12_say_215 : decode cX12_say 215 = .ok (.bipush 17, 2) := by decide +kernel
theorem dX12_say_217 : decode cX12_say 217 = .ok (.iaload, 1) := by decide +kernel
theorem dX12_say_218 : decode cX12_say 218 = .ok (.iastore, 1) := by decide +kernel
theorem dX12_say_219 : decode cX12_say 219 = .ok (.aload_n 0, 1) := by decide +kernel
theorem dX12_say_220 : decode cX12_say 220 = .ok (.getfield 191, 3) := by decide +kernel
theorem dX12_say_223 : decode cX12_say 223 = .ok (.ireturn, 1) := by decide +kernel
theorem dX12_say_149 : decode cX12_say 149 = .ok (.bipush (-10), 2) := by decide +kernel
theorem dX12_say_151 : decode cX12_say 151 = .ok (.aload_n 0, 1) := by decide +kernel
theorem dX12_say_152 : decode cX12_say 152 = .ok (.getfield 163, 3) := by decide +kernel
theorem fg_X12_163 : FG RX12 163 12 10 := ⟨RX12, TX12, 45, uw_X12, wf_X12_163, rfl, by decide, rfl⟩
theorem dX12_say_155 : decode cX12_say 155 = .ok (.isub, 1) := by decide +kernel
theorem dX12_say_156 : decode cX12_say 156 = .ok (.ireturn, 1) := by decide +kernel
theorem dX12_say_117 : decode cX12_say 117 = .ok (.aload_n 0, 1) := by decide +kernel
theorem dX12_say_118 : decode cX12_say 118 = .ok (.getfield 175, 3) := by decide +kernel
theorem dX12_say_121 : decode cX12_say 121 = .ok (.ifCond .eq 8, 3) := by decide +kernel
theorem dX12_say_124 : decode cX12_say 124 = .ok (.aload_n 0, 1) := by decide +kernel
theorem dX12_say_125 : decode cX12_say 125 = .ok (.iconst 2, 1) := by decide +kernel
theorem dX12_say_126 : decode cX12_say 126 = .ok (.invokevirtual 186, 3) := by decide +kernel
theorem dX12_say_62 : decode cX12_say 62 = .ok (.iload_n 2, 1) := by decide +kernel
theorem dX12_say_63 : decode cX12_say 63 = .ok (.ifCond .le 47, 3) := by decide +kernel
theorem dX12_say_66 : decode cX12_say 66 = .ok (.aload_n 0, 1) := by decide +kernel
theorem dX12_say_67 : decode cX12_say 67 = .ok (.invokevirtual 212, 3) := by decide +kernel
theorem wl_X12_212 : Cond.methodLink RX12 212 yX12_readAct ∈ TB := tbm (tq6 (List.mem_of_getElem? (i := 77) (by decide +kernel))) (by decide +kernel)
theorem wc_X12_readAct : Cond.code yX12_readAct cX12_readAct 4 none ∈ TB := tbm (tq6 (List.mem_of_getElem? (i := 80) (rfl))) (by decide +kernel)
theorem wi_X12_readAct : Cond.instanceMethod yX12_readAct ∈ TB := tbm (tq6 (List.mem_of_getElem? (i := 79) (by decide +kernel))) (by decide +kernel)
theorem ws_X12_readAct : Cond.selects RX12 yX12_readAct yX12_readAct ∈ TB := tbm (tq0 (List.mem_of_getElem? (i := 48) (by decide +kernel))) (by decide +kernel)
theorem mi_X12_readAct : MI yX12_readAct cX12_readAct 4 none 0 := ⟨wc_X12_readAct, wn_X12, ⟨by decide +kernel, by decide +kernel, by decide +kernel⟩, wi_X12_readAct, ws_X12_readAct⟩
theorem dX12_say_70 : decode cX12_say 70 = .ok (.iload_n 2, 1) := by decide +kernel
theorem dX12_say_71 : decode cX12_say 71 = .ok (.aload_n 0, 1) := by decide +kernel
theorem dX12_say_72 : decode cX12_say 72 = .ok (.getfield 157, 3) := by decide +kernel
theorem dX12_say_75 : decode cX12_say 75 = .ok (.ifCond .ne 29, 3) := by decide +kernel
theorem dX12_say_78 : decode cX12_say 78 = .ok (.aload_n 0, 1) := by decide +kernel
theorem dX12_say_79 : decode cX12_say 79 = .ok (.getfield 31, 3) := by decide +kernel
theorem dX12_say_82 : decode cX12_say 82 = .ok (.sipush 768, 3) := by decide +kernel
theorem dX12_say_85 : decode cX12_say 85 = .ok (.aload_n 0, 1) := by decide +kernel
theorem dX12_say_86 : decode cX12_say 86 = .ok (.getfield 37, 3) := by decide +kernel
theorem dX12_say_89 : decode cX12_say 89 = .ok (.bipush 24, 2) := by decide +kernel
theorem dX12_say_91 : decode cX12_say 91 = .ok (.iaload, 1) := by decide +kernel
theorem dX12_say_92 : decode cX12_say 92 = .ok (.iadd, 1) := by decide +kernel
theorem dX12_say_93 : decode cX12_say 93 = .ok (.iconst 1, 1) := by decide +kernel
theorem dX12_say_94 : decode cX12_say 94 = .ok (.isub, 1) := by decide +kernel
theorem dX12_say_95 : decode cX12_say 95 = .ok (.iaload, 1) := by decide +kernel
theorem dX12_say_96 : decode cX12_say 96 = .ok (.invokestatic 215, 3) := by decide +kernel
theorem wl_X12_215 : Cond.methodLink RX12 215 yX12_wantsOf ∈ TB := tbm (tq6 (List.mem_of_getElem? (i := 90) (by decide +kernel))) (by decide +kernel)
theorem wc_X12_wantsOf : Cond.code yX12_wantsOf cX12_wantsOf 1 (some .int) ∈ TB := tbm (tq6 (List.mem_of_getElem? (i := 92) (rfl))) (by decide +kernel)
theorem wt_X12_wantsOf : Cond.static yX12_wantsOf ∈ TB := tbm (tq6 (List.mem_of_getElem? (i := 91) (by decide +kernel))) (by decide +kernel)
theorem ms_X12_wantsOf : MS yX12_wantsOf cX12_wantsOf 1 (some .int) 1 := ⟨wc_X12_wantsOf, wn_X12, ⟨by decide +kernel, by decide +kernel, by decide +kernel⟩, wt_X12_wantsOf⟩
theorem dX12_say_99 : decode cX12_say 99 = .ok (.iconst 1, 1) := by decide +kernel
theorem dX12_say_100 : decode cX12_say 100 = .ok (.isub, 1) := by decide +kernel
theorem dX12_say_101 : decode cX12_say 101 = .ok (.goto 4, 3) := by decide +kernel
theorem dX12_say_105 : decode cX12_say 105 = .ok (.iadd, 1) := by decide +kernel
theorem dX12_say_106 : decode cX12_say 106 = .ok (.istore_n 2, 1) := by decide +kernel
theorem dX12_say_107 : decode cX12_say 107 = .ok (.goto (-52), 3) := by decide +kernel
theorem dX12_say_104 : decode cX12_say 104 = .ok (.iconst 0, 1) := by decide +kernel
theorem dX12_say_12 : decode cX12_say 12 = .ok (.iconst (-1), 1) := by decide +kernel
theorem dX12_say_13 : decode cX12_say 13 = .ok (.ireturn, 1) := by decide +kernel
set_option maxRecDepth 100000 in
set_option maxHeartbeats 4000000 in
theorem y_say (l : Launch) (E : EV) (ro : va_W) (hm : Nat) (v0 : Int32) (m_manys : Nat) (m_reals : Nat) (m_factsOf : Nat) (m_possible : Nat) (q_undos : Nat) (q_models : Nat) (m_tape : Nat) (q_taped : Nat) (q_fault : Int32) (q_wrong : Int32) (q_wrongAt : Int32) (q_spot : Int32) (q_place : Int32) (q_token : Nat) (q_value : Nat) (m_ends : Nat) (m_letters : Nat) (m_actOf : Nat) (m_whom : Nat) (m_actMany : Nat) (m_tokens : Nat) (m_afters : Nat) (m_afterOf : Nat) (q_counted : Int32) (m_pile : Nat) (m_caseMany : Nat) (m_happen : Nat) (m_hasIf : Nat) (m_becomes : Nat) (m_goneOf : Nat) (m_heard : Nat) (m_pairs : Nat) (m_heaps : Nat) (q_rounds : Int32) (q_heapMany : Int32) (m_led : Nat) (m_newAt : Nat) (m_knowing : Nat) (m_firsts : Nat) (q_people : Nat) (m_secrets : Nat) (m_tried : Nat) (m_lanes : Nat) (m_lengths : Nat) (m_cells : Nat) (f_tape : Nat → Int32) (f_ends : Nat → Int32) (f_letters : Nat → Int32) (f_actMany : Nat → Int32) (f_actOf : Nat → Int32) (f_whom : Nat → Int32) (f_tokens : Nat → Int32) (f_afters : Nat → Int32) (f_afterOf : Nat → Int32) (hb_ends : EN f_ends) (hb_actMany : NB 25 32 f_actMany) (hb_afters : NB 9 2 f_afters) (hb_afterOf : NB 18 3 f_afterOf) (hsv : SV f_actOf f_actMany) (hq_taped : q_taped ≤ 160) (hq_value : q_value ≤ 9) (hq_token : q_token ≤ 2) : CT l yX12_say (Cond.code yX12_say cX12_say 3 (some .int) :: TB) ({ frames := 3, cells := 0, slots := 0, locals := 72 }) E ro [.ref hm, .int v0] [(hm, .inr (12, [.ref m_manys, .ref m_reals, .ref m_factsOf, .ref m_possible, .int (nI q_undos), .int (nI q_models), .ref m_tape, .int (nI q_taped), .int q_fault, .int q_wrong, .int q_wrongAt, .int q_spot, .int q_place, .int (nI q_token), .int (nI q_value), .ref m_ends, .ref m_letters, .ref m_actOf, .ref m_whom, .ref m_actMany, .ref m_tokens, .ref m_afters, .ref m_afterOf, .int q_counted, .ref m_pile, .ref m_caseMany, .ref m_happen, .ref m_hasIf, .ref m_becomes, .ref m_goneOf, .ref m_heard, .ref m_pairs, .ref m_heaps, .int q_rounds, .int q_heapMany, .ref m_led, .ref m_newAt, .ref m_knowing, .ref m_firsts, .int (nI q_people), .ref m_secrets, .ref m_tried, .ref m_lanes, .ref m_lengths, .ref m_cells])), (m_tape, .inl (E.2.1 1, 160, .inl f_tape)), (m_ends, .inl (E.2.1 1, 15, .inl f_ends)), (m_letters, .inl (E.2.1 1, 50, .inl f_letters)), (m_actMany, .inl (E.2.1 1, 25, .inl f_actMany)), (m_actOf, .inl (E.2.1 1, 800, .inl f_actOf)), (m_whom, .inl (E.2.1 1, 800, .inl f_whom)), (m_tokens, .inl (E.2.1 1, 9, .inl f_tokens)), (m_afters, .inl (E.2.1 1, 9, .inl f_afters)), (m_afterOf, .inl (E.2.1 1, 18, .inl f_afterOf))] (Qi E (fun (rz : Int32) uz => (rz = (-1) ∧ uz = [(hm, .inr (12, [.ref m_manys, .ref m_reals, .ref m_factsOf, .ref m_possible, .int (nI q_undos), .int (nI q_models), .ref m_tape, .int (nI q_taped), .int q_fault, .int q_wrong, .int q_wrongAt, .int q_spot, .int q_place, .int (nI q_token), .int (nI q_value), .ref m_ends, .ref m_letters, .ref m_actOf, .ref m_whom, .ref m_actMany, .ref m_tokens, .ref m_afters, .ref m_afterOf, .int q_counted, .ref m_pile, .ref m_caseMany, .ref m_happen, .ref m_hasIf, .ref m_becomes, .ref m_goneOf, .ref m_heard, .ref m_pairs, .ref m_heaps, .int q_rounds, .int q_heapMany, .ref m_led, .ref m_newAt, .ref m_knowing, .ref m_firsts, .int (nI q_people), .ref m_secrets, .ref m_tried, .ref m_lanes, .ref m_lengths, .ref m_cells])), (m_tape, .inl (E.2.1 1, 160, .inl f_tape)), (m_ends, .inl (E.2.1 1, 15, .inl f_ends)), (m_letters, .inl (E.2.1 1, 50, .inl f_letters)), (m_actMany, .inl (E.2.1 1, 25, .inl f_actMany)), (m_actOf, .inl (E.2.1 1, 800, .inl f_actOf)), (m_whom, .inl (E.2.1 1, 800, .inl f_whom)), (m_tokens, .inl (E.2.1 1, 9, .inl f_tokens)), (m_afters, .inl (E.2.1 1, 9, .inl f_afters)), (m_afterOf, .inl (E.2.1 1, 18, .inl f_afterOf))] ∧ (v0.toInt < 0 ∨ 7 < v0.toInt)) ∨ (∃ (fa_ : Int32) (wr_ : Int32) (wa_ : Int32) (sp_ : Int32) (pl_ : Int32) (ct_ : Int32) (tk2 : Nat) (vl2 : Nat) (f_actManyz : Nat → Int32) (f_actOfz : Nat → Int32) (f_whomz : Nat → Int32) (f_tokensz : Nat → Int32) (f_aftersz : Nat → Int32) (f_afterOfz : Nat → Int32), uz = [(hm, .inr (12, [.ref m_manys, .ref m_reals, .ref m_factsOf, .ref m_possible, .int (nI q_undos), .int (nI q_models), .ref m_tape, .int 0, .int fa_, .int wr_, .int wa_, .int sp_, .int pl_, .int (nI tk2), .int (nI vl2), .ref m_ends, .ref m_letters, .ref m_actOf, .ref m_whom, .ref m_actMany, .ref m_tokens, .ref m_afters, .ref m_afterOf, .int ct_, .ref m_pile, .ref m_caseMany, .ref m_happen, .ref m_hasIf, .ref m_becomes, .ref m_goneOf, .ref m_heard, .ref m_pairs, .ref m_heaps, .int q_rounds, .int q_heapMany, .ref m_led, .ref m_newAt, .ref m_knowing, .ref m_firsts, .int (nI q_people), .ref m_secrets, .ref m_tried, .ref m_lanes, .ref m_lengths, .ref m_cells])), (m_tape, .inl (E.2.1 1, 160, .inl f_tape)), (m_ends, .inl (E.2.1 1, 15, .inl f_ends)), (m_letters, .inl (E.2.1 1, 50, .inl f_letters)), (m_actMany, .inl (E.2.1 1, 25, .inl f_actManyz)), (m_actOf, .inl (E.2.1 1, 800, .inl f_actOfz)), (m_whom, .inl (E.2.1 1, 800, .inl f_whomz)), (m_tokens, .inl (E.2.1 1, 9, .inl f_tokensz)), (m_afters, .inl (E.2.1 1, 9, .inl f_aftersz)), (m_afterOf, .inl (E.2.1 1, 18, .inl f_afterOfz))] ∧ (NB 25 32 f_actManyz) ∧ (NB 9 2 f_aftersz) ∧ (NB 18 3 f_afterOfz) ∧ (SV f_actOfz f_actManyz) ∧ (tk2 ≤ 2) ∧ (vl2 ≤ 9) ∧ (0 ≤ v0.toInt) ∧ (v0.toInt ≤ 7)))) 0 0 := by
  refine ct_of rfl rfl ?_
  intro X C hT hin hro
  show WW X 3 E 0 [(0, .ref hm), (1, .int v0)] [] [(hm, .inr (12, [.ref m_manys, .ref m_reals, .ref m_factsOf, .ref m_possible, .int (nI q_undos), .int (nI q_models), .ref m_tape, .int (nI q_taped), .int q_fault, .int q_wrong, .int q_wrongAt, .int q_spot, .int q_place, .int (nI q_token), .int (nI q_value), .ref m_ends, .ref m_letters, .ref m_actOf, .ref m_whom, .ref m_actMany, .ref m_tokens, .ref m_afters, .ref m_afterOf, .int q_counted, .ref m_pile, .ref m_caseMany, .ref m_happen, .ref m_hasIf, .ref m_becomes, .ref m_goneOf, .ref m_heard, .ref m_pairs, .ref m_heaps, .int q_rounds, .int q_heapMany, .ref m_led, .ref m_newAt, .ref m_knowing, .ref m_firsts, .int (nI q_people), .ref m_secrets, .ref m_tried, .ref m_lanes, .ref m_lengths, .ref m_cells])), (m_tape, .inl (E.2.1 1, 160, .inl f_tape)), (m_ends, .inl (E.2.1 1, 15, .inl f_ends)), (m_letters, .inl (E.2.1 1, 50, .inl f_letters)), (m_actMany, .inl (E.2.1 1, 25, .inl f_actMany)), (m_actOf, .inl (E.2.1 1, 800, .inl f_actOf)), (m_whom, .inl (E.2.1 1, 800, .inl f_whom)), (m_tokens, .inl (E.2.1 1, 9, .inl f_tokens)), (m_afters, .inl (E.2.1 1, 9, .inl f_afters)), (m_afterOf, .inl (E.2.1 1, 18, .inl f_afterOf))] 0 0
  refine ww_iload_n C dX12_say_0 1 rfl rfl ?_
  refine ww_i2l (v := v0.toInt64) C dX12_say_1 rfl ?_
  refine ww_lconst (v := 0) C dX12_say_2 rfl ?_
  refine ww_ldc2 C wv_X12_207 dX12_say_3 ?_
  refine ww_ci (wr := [(hm, .inr (12, [.ref m_manys, .ref m_reals, .ref m_factsOf, .ref m_possible, .int (nI q_undos), .int (nI q_models), .ref m_tape, .int (nI q_taped), .int q_fault, .int q_wrong, .int q_wrongAt, .int q_spot, .int q_place, .int (nI q_token), .int (nI q_value), .ref m_ends, .ref m_letters, .ref m_actOf, .ref m_whom, .ref m_actMany, .ref m_tokens, .ref m_afters, .ref m_afterOf, .int q_counted, .ref m_pile, .ref m_caseMany, .ref m_happen, .ref m_hasIf, .ref m_becomes, .ref m_goneOf, .ref m_heard, .ref m_pairs, .ref m_heaps, .int q_rounds, .int q_heapMany, .ref m_led, .ref m_newAt, .ref m_knowing, .ref m_firsts, .int (nI q_people), .ref m_secrets, .ref m_tried, .ref m_lanes, .ref m_lengths, .ref m_cells])), (m_tape, .inl (E.2.1 1, 160, .inl f_tape)), (m_ends, .inl (E.2.1 1, 15, .inl f_ends)), (m_letters, .inl (E.2.1 1, 50, .inl f_letters)), (m_actMany, .inl (E.2.1 1, 25, .inl f_actMany)), (m_actOf, .inl (E.2.1 1, 800, .inl f_actOf)), (m_whom, .inl (E.2.1 1, 800, .inl f_whom)), (m_tokens, .inl (E.2.1 1, 9, .inl f_tokens)), (m_afters, .inl (E.2.1 1, 9, .inl f_afters)), (m_afterOf, .inl (E.2.1 1, 18, .inl f_afterOf))]) (k' := 0) (n' := 0) C (run_S (As := [.long v0.toInt64, .long 0, .long 7]) (rest := []) C (r_in X.2.1 E ro v0.toInt64 0 7 v0.toInt 0 7 (Int32.toInt_toInt64 _) rfl rfl) ms_X12_in wl_X12_115 rfl rfl rfl rfl dX12_say_6) (roK hro) [] [0, 1, 2, 3, 4, 5, 6, 7, 8, 9] rfl rfl rfl rfl (fun r_1 uz hw => ?_)
  rcases hw with hw | hw
  · refine an3 hw ?_
    clear hw
    intro he_4 he_5 h_2 hw
    have h_3 := hw
    clear hw
    have he_4 := he_4.symm
    subst he_4
    subst he_5
    refine ww_eq (ws' := [(hm, .inr (12, [.ref m_manys, .ref m_reals, .ref m_factsOf, .ref m_possible, .int (nI q_undos), .int (nI q_models), .ref m_tape, .int (nI q_taped), .int q_fault, .int q_wrong, .int q_wrongAt, .int q_spot, .int q_place, .int (nI q_token), .int (nI q_value), .ref m_ends, .ref m_letters, .ref m_actOf, .ref m_whom, .ref m_actMany, .ref m_tokens, .ref m_afters, .ref m_afterOf, .int q_counted, .ref m_pile, .ref m_caseMany, .ref m_happen, .ref m_hasIf, .ref m_becomes, .ref m_goneOf, .ref m_heard, .ref m_pairs, .ref m_heaps, .int q_rounds, .int q_heapMany, .ref m_led, .ref m_newAt, .ref m_knowing, .ref m_firsts, .int (nI q_people), .ref m_secrets, .ref m_tried, .ref m_lanes, .ref m_lengths, .ref m_cells])), (m_tape, .inl (E.2.1 1, 160, .inl f_tape)), (m_ends, .inl (E.2.1 1, 15, .inl f_ends)), (m_letters, .inl (E.2.1 1, 50, .inl f_letters)), (m_actMany, .inl (E.2.1 1, 25, .inl f_actMany)), (m_actOf, .inl (E.2.1 1, 800, .inl f_actOf)), (m_whom, .inl (E.2.1 1, 800, .inl f_whom)), (m_tokens, .inl (E.2.1 1, 9, .inl f_tokens)), (m_afters, .inl (E.2.1 1, 9, .inl f_afters)), (m_afterOf, .inl (E.2.1 1, 18, .inl f_afterOf))]) ?_ rfl rfl rfl
    refine ww_if_ne_t (tgt := 14) C dX12_say_9 (by decide) (by decide) ?_
    refine ww_aload_n C dX12_say_14 0 rfl rfl ?_
    refine ww_iconst (v := 0) C dX12_say_15 rfl ?_
    refine ww_put (ws' := [(hm, .inr (12, [.ref m_manys, .ref m_reals, .ref m_factsOf, .ref m_possible, .int (nI q_undos), .int (nI q_models), .ref m_tape, .int (nI q_taped), .int q_fault, .int 0, .int q_wrongAt, .int q_spot, .int q_place, .int (nI q_token), .int (nI q_value), .ref m_ends, .ref m_letters, .ref m_actOf, .ref m_whom, .ref m_actMany, .ref m_tokens, .ref m_afters, .ref m_afterOf, .int q_counted, .ref m_pile, .ref m_caseMany, .ref m_happen, .ref m_hasIf, .ref m_becomes, .ref m_goneOf, .ref m_heard, .ref m_pairs, .ref m_heaps, .int q_rounds, .int q_heapMany, .ref m_led, .ref m_newAt, .ref m_knowing, .ref m_firsts, .int (nI q_people), .ref m_secrets, .ref m_tried, .ref m_lanes, .ref m_lengths, .ref m_cells])), (m_tape, .inl (E.2.1 1, 160, .inl f_tape)), (m_ends, .inl (E.2.1 1, 15, .inl f_ends)), (m_letters, .inl (E.2.1 1, 50, .inl f_letters)), (m_actMany, .inl (E.2.1 1, 25, .inl f_actMany)), (m_actOf, .inl (E.2.1 1, 800, .inl f_actOf)), (m_whom, .inl (E.2.1 1, 800, .inl f_whom)), (m_tokens, .inl (E.2.1 1, 9, .inl f_tokens)), (m_afters, .inl (E.2.1 1, 9, .inl f_afters)), (m_afterOf, .inl (E.2.1 1, 18, .inl f_afterOf))]) C fp_X12_157 0 rfl rfl rfl rfl rfl dX12_say_16 ?_
    refine ww_aload_n C dX12_say_19 0 rfl rfl ?_
    refine ww_iconst (v := 0) C dX12_say_20 rfl ?_
    refine ww_put (ws' := [(hm, .inr (12, [.ref m_manys, .ref m_reals, .ref m_factsOf, .ref m_possible, .int (nI q_undos), .int (nI q_models), .ref m_tape, .int (nI q_taped), .int q_fault, .int 0, .int q_wrongAt, .int 0, .int q_place, .int (nI q_token), .int (nI q_value), .ref m_ends, .ref m_letters, .ref m_actOf, .ref m_whom, .ref m_actMany, .ref m_tokens, .ref m_afters, .ref m_afterOf, .int q_counted, .ref m_pile, .ref m_caseMany, .ref m_happen, .ref m_hasIf, .ref m_becomes, .ref m_goneOf, .ref m_heard, .ref m_pairs, .ref m_heaps, .int q_rounds, .int q_heapMany, .ref m_led, .ref m_newAt, .ref m_knowing, .ref m_firsts, .int (nI q_people), .ref m_secrets, .ref m_tried, .ref m_lanes, .ref m_lengths, .ref m_cells])), (m_tape, .inl (E.2.1 1, 160, .inl f_tape)), (m_ends, .inl (E.2.1 1, 15, .inl f_ends)), (m_letters, .inl (E.2.1 1, 50, .inl f_letters)), (m_actMany, .inl (E.2.1 1, 25, .inl f_actMany)), (m_actOf, .inl (E.2.1 1, 800, .inl f_actOf)), (m_whom, .inl (E.2.1 1, 800, .inl f_whom)), (m_tokens, .inl (E.2.1 1, 9, .inl f_tokens)), (m_afters, .inl (E.2.1 1, 9, .inl f_afters)), (m_afterOf, .inl (E.2.1 1, 18, .inl f_afterOf))]) C fp_X12_166 0 rfl rfl rfl rfl rfl dX12_say_21 ?_
    refine ww_aload_n C dX12_say_24 0 rfl rfl ?_
    refine ww_iconst (v := 0) C dX12_say_25 rfl ?_
    refine ww_put (ws' := [(hm, .inr (12, [.ref m_manys, .ref m_reals, .ref m_factsOf, .ref m_possible, .int (nI q_undos), .int (nI q_models), .ref m_tape, .int (nI q_taped), .int q_fault, .int 0, .int q_wrongAt, .int 0, .int q_place, .int (nI q_token), .int (nI q_value), .ref m_ends, .ref m_letters, .ref m_actOf, .ref m_whom, .ref m_actMany, .ref m_tokens, .ref m_afters, .ref m_afterOf, .int 0, .ref m_pile, .ref m_caseMany, .ref m_happen, .ref m_hasIf, .ref m_becomes, .ref m_goneOf, .ref m_heard, .ref m_pairs, .ref m_heaps, .int q_rounds, .int q_heapMany, .ref m_led, .ref m_newAt, .ref m_knowing, .ref m_firsts, .int (nI q_people), .ref m_secrets, .ref m_tried, .ref m_lanes, .ref m_lengths, .ref m_cells])), (m_tape, .inl (E.2.1 1, 160, .inl f_tape)), (m_ends, .inl (E.2.1 1, 15, .inl f_ends)), (m_letters, .inl (E.2.1 1, 50, .inl f_letters)), (m_actMany, .inl (E.2.1 1, 25, .inl f_actMany)), (m_actOf, .inl (E.2.1 1, 800, .inl f_actOf)), (m_whom, .inl (E.2.1 1, 800, .inl f_whom)), (m_tokens, .inl (E.2.1 1, 9, .inl f_tokens)), (m_afters, .inl (E.2.1 1, 9, .inl f_afters)), (m_afterOf, .inl (E.2.1 1, 18, .inl f_afterOf))]) C fp_X12_191 0 rfl rfl rfl rfl rfl dX12_say_26 ?_
    refine ww_aload_n C dX12_say_29 0 rfl rfl ?_
    refine ww_get C fg_X12_37 0 rfl rfl dX12_say_30 ?_
    refine ww_bipush (v := 24) C dX12_say_33 rfl ?_
    refine ww_iconst (v := 0) C dX12_say_35 rfl ?_
    obtain ⟨f_9, ef_9⟩ : ∃ z : Nat → Int32, upd f_actMany 24 0 = z := ⟨_, rfl⟩
    refine ww_iast (ws' := [(hm, .inr (12, [.ref m_manys, .ref m_reals, .ref m_factsOf, .ref m_possible, .int (nI q_undos), .int (nI q_models), .ref m_tape, .int (nI q_taped), .int q_fault, .int 0, .int q_wrongAt, .int 0, .int q_place, .int (nI q_token), .int (nI q_value), .ref m_ends, .ref m_letters, .ref m_actOf, .ref m_whom, .ref m_actMany, .ref m_tokens, .ref m_afters, .ref m_afterOf, .int 0, .ref m_pile, .ref m_caseMany, .ref m_happen, .ref m_hasIf, .ref m_becomes, .ref m_goneOf, .ref m_heard, .ref m_pairs, .ref m_heaps, .int q_rounds, .int q_heapMany, .ref m_led, .ref m_newAt, .ref m_knowing, .ref m_firsts, .int (nI q_people), .ref m_secrets, .ref m_tried, .ref m_lanes, .ref m_lengths, .ref m_cells])), (m_tape, .inl (E.2.1 1, 160, .inl f_tape)), (m_ends, .inl (E.2.1 1, 15, .inl f_ends)), (m_letters, .inl (E.2.1 1, 50, .inl f_letters)), (m_actMany, .inl (E.2.1 1, 25, .inl f_9)), (m_actOf, .inl (E.2.1 1, 800, .inl f_actOf)), (m_whom, .inl (E.2.1 1, 800, .inl f_whom)), (m_tokens, .inl (E.2.1 1, 9, .inl f_tokens)), (m_afters, .inl (E.2.1 1, 9, .inl f_afters)), (m_afterOf, .inl (E.2.1 1, 18, .inl f_afterOf))]) C 4 rfl (vin rfl) ef_9 rfl dX12_say_36 ?_
    refine ww_aload_n C dX12_say_37 0 rfl rfl ?_
    refine ww_get C fg_X12_43 0 rfl rfl dX12_say_38 ?_
    refine ww_bipush (v := 8) C dX12_say_41 rfl ?_
    refine ww_iconst (v := 0) C dX12_say_43 rfl ?_
    obtain ⟨f_10, ef_10⟩ : ∃ z : Nat → Int32, upd f_afters 8 0 = z := ⟨_, rfl⟩
    refine ww_iast (ws' := [(hm, .inr (12, [.ref m_manys, .ref m_reals, .ref m_factsOf, .ref m_possible, .int (nI q_undos), .int (nI q_models), .ref m_tape, .int (nI q_taped), .int q_fault, .int 0, .int q_wrongAt, .int 0, .int q_place, .int (nI q_token), .int (nI q_value), .ref m_ends, .ref m_letters, .ref m_actOf, .ref m_whom, .ref m_actMany, .ref m_tokens, .ref m_afters, .ref m_afterOf, .int 0, .ref m_pile, .ref m_caseMany, .ref m_happen, .ref m_hasIf, .ref m_becomes, .ref m_goneOf, .ref m_heard, .ref m_pairs, .ref m_heaps, .int q_rounds, .int q_heapMany, .ref m_led, .ref m_newAt, .ref m_knowing, .ref m_firsts, .int (nI q_people), .ref m_secrets, .ref m_tried, .ref m_lanes, .ref m_lengths, .ref m_cells])), (m_tape, .inl (E.2.1 1, 160, .inl f_tape)), (m_ends, .inl (E.2.1 1, 15, .inl f_ends)), (m_letters, .inl (E.2.1 1, 50, .inl f_letters)), (m_actMany, .inl (E.2.1 1, 25, .inl f_9)), (m_actOf, .inl (E.2.1 1, 800, .inl f_actOf)), (m_whom, .inl (E.2.1 1, 800, .inl f_whom)), (m_tokens, .inl (E.2.1 1, 9, .inl f_tokens)), (m_afters, .inl (E.2.1 1, 9, .inl f_10)), (m_afterOf, .inl (E.2.1 1, 18, .inl f_afterOf))]) C 8 rfl (vin rfl) ef_10 rfl dX12_say_44 ?_
    refine ww_aload_n C dX12_say_45 0 rfl rfl ?_
    refine ww_cv (wr := [(m_ends, .inl (E.2.1 1, 15, .inl f_ends)), (m_letters, .inl (E.2.1 1, 50, .inl f_letters)), (m_actMany, .inl (E.2.1 1, 25, .inl f_9)), (m_actOf, .inl (E.2.1 1, 800, .inl f_actOf)), (m_whom, .inl (E.2.1 1, 800, .inl f_whom)), (m_tokens, .inl (E.2.1 1, 9, .inl f_tokens)), (m_afters, .inl (E.2.1 1, 9, .inl f_10)), (m_afterOf, .inl (E.2.1 1, 18, .inl f_afterOf))]) (k' := 0) (n' := 0) C (run_V (As := []) (rest := []) C (r_next X.2.1 E ro hm m_manys m_reals m_factsOf m_possible q_undos q_models m_tape q_taped q_fault 0 q_wrongAt 0 q_place q_token q_value m_ends m_letters m_actOf m_whom m_actMany m_tokens m_afters m_afterOf 0 m_pile m_caseMany m_happen m_hasIf m_becomes m_goneOf m_heard m_pairs m_heaps q_rounds q_heapMany m_led m_newAt m_knowing m_firsts q_people m_secrets m_tried m_lanes m_lengths m_cells f_tape (by omega) (by omega) (by omega) (by omega) (by omega)) mi_X12_next wl_X12_201 rfl 0 12 rfl rfl rfl rfl rfl dX12_say_46) (roK hro) [0, 1] [2, 3, 4, 5, 6, 7, 8, 9] rfl rfl rfl rfl (fun uz hw => ?_)
    rcases hw with hw | hw | hw
    · refine an1 hw ?_
      clear hw
      intro he_13 hw
      have h_12 := hw
      clear hw
      subst he_13
      omega
    · refine ex4 hw ?_
      clear hw
      intro sp2_14 pl2_15 tk2_16 vl2_17 hw
      refine an5 hw ?_
      clear hw
      intro he_23 h_18 h_19 h_20 h_21 hw
      have h_22 := hw
      clear hw
      subst he_23
      refine ww_eq (ws' := [(m_ends, .inl (E.2.1 1, 15, .inl f_ends)), (m_letters, .inl (E.2.1 1, 50, .inl f_letters)), (m_actMany, .inl (E.2.1 1, 25, .inl f_9)), (m_actOf, .inl (E.2.1 1, 800, .inl f_actOf)), (m_whom, .inl (E.2.1 1, 800, .inl f_whom)), (m_tokens, .inl (E.2.1 1, 9, .inl f_tokens)), (m_afters, .inl (E.2.1 1, 9, .inl f_10)), (m_afterOf, .inl (E.2.1 1, 18, .inl f_afterOf)), (hm, .inr (12, [.ref m_manys, .ref m_reals, .ref m_factsOf, .ref m_possible, .int (nI q_undos), .int (nI q_models), .ref m_tape, .int (nI q_taped), .int q_fault, .int 0, .int q_wrongAt, .int (nI sp2_14), .int (nI pl2_15), .int (nI tk2_16), .int (nI vl2_17), .ref m_ends, .ref m_letters, .ref m_actOf, .ref m_whom, .ref m_actMany, .ref m_tokens, .ref m_afters, .ref m_afterOf, .int 0, .ref m_pile, .ref m_caseMany, .ref m_happen, .ref m_hasIf, .ref m_becomes, .ref m_goneOf, .ref m_heard, .ref m_pairs, .ref m_heaps, .int q_rounds, .int q_heapMany, .ref m_led, .ref m_newAt, .ref m_knowing, .ref m_firsts, .int (nI q_people), .ref m_secrets, .ref m_tried, .ref m_lanes, .ref m_lengths, .ref m_cells])), (m_tape, .inl (E.2.1 1, 160, .inl f_tape))]) ?_ rfl rfl rfl
      refine ww_aload_n C dX12_say_49 0 rfl rfl ?_
      refine ww_cv (wr := [(m_actMany, .inl (E.2.1 1, 25, .inl f_9)), (m_actOf, .inl (E.2.1 1, 800, .inl f_actOf)), (m_whom, .inl (E.2.1 1, 800, .inl f_whom)), (m_tokens, .inl (E.2.1 1, 9, .inl f_tokens))]) (k' := 0) (n' := 0) C (run_V (As := []) (rest := []) C (r_readAfters X.2.1 E ro hm m_manys m_reals m_factsOf m_possible q_undos q_models m_tape q_taped q_fault 0 q_wrongAt sp2_14 pl2_15 tk2_16 vl2_17 m_ends m_letters m_actOf m_whom m_actMany m_tokens m_afters m_afterOf 0 m_pile m_caseMany m_happen m_hasIf m_becomes m_goneOf m_heard m_pairs m_heaps q_rounds q_heapMany m_led m_newAt m_knowing m_firsts q_people m_secrets m_tried m_lanes m_lengths m_cells f_tape f_ends f_letters f_10 f_afterOf hb_ends (NB.put hb_afters (t := 0) (by omega) (by decide) ef_10) hb_afterOf (by omega) (by omega) (by omega) (by omega) (by omega) (by omega)) mi_X12_readAfters wl_X12_209 rfl 0 12 rfl rfl rfl rfl rfl dX12_say_50) (roK hro) [8, 9, 0, 1, 6, 7] [2, 3, 4, 5] rfl rfl rfl rfl (fun uz hw => ?_)
      refine ex8 hw ?_
      clear hw
      intro sp2_35 pl2_36 tk2_37 vl2_38 wr2_39 wa2_40 f_aftersz_41 f_afterOfz_42 hw
      refine an7 hw ?_
      clear hw
      intro he_50 h_43 h_44 h_45 h_46 h_47 h_48 hw
      have h_49 := hw
      clear hw
      subst he_50
      refine ww_eq (ws' := [(m_actMany, .inl (E.2.1 1, 25, .inl f_9)), (m_actOf, .inl (E.2.1 1, 800, .inl f_actOf)), (m_whom, .inl (E.2.1 1, 800, .inl f_whom)), (m_tokens, .inl (E.2.1 1, 9, .inl f_tokens)), (hm, .inr (12, [.ref m_manys, .ref m_reals, .ref m_factsOf, .ref m_possible, .int (nI q_undos), .int (nI q_models), .ref m_tape, .int (nI q_taped), .int q_fault, .int (nI wr2_39), .int wa2_40, .int (nI sp2_35), .int (nI pl2_36), .int (nI tk2_37), .int (nI vl2_38), .ref m_ends, .ref m_letters, .ref m_actOf, .ref m_whom, .ref m_actMany, .ref m_tokens, .ref m_afters, .ref m_afterOf, .int 0, .ref m_pile, .ref m_caseMany, .ref m_happen, .ref m_hasIf, .ref m_becomes, .ref m_goneOf, .ref m_heard, .ref m_pairs, .ref m_heaps, .int q_rounds, .int q_heapMany, .ref m_led, .ref m_newAt, .ref m_knowing, .ref m_firsts, .int (nI q_people), .ref m_secrets, .ref m_tried, .ref m_lanes, .ref m_lengths, .ref m_cells])), (m_tape, .inl (E.2.1 1, 160, .inl f_tape)), (m_ends, .inl (E.2.1 1, 15, .inl f_ends)), (m_letters, .inl (E.2.1 1, 50, .inl f_letters)), (m_afters, .inl (E.2.1 1, 9, .inl f_aftersz_41)), (m_afterOf, .inl (E.2.1 1, 18, .inl f_afterOfz_42))]) ?_ rfl rfl rfl
      refine ww_iconst (v := 1) C dX12_say_53 rfl ?_
      refine ww_istore_n (lv' := [(2, .int 1), (0, .ref hm), (1, .int v0)]) C dX12_say_54 rfl rfl rfl ?_
      have hsa0 := cN_s (t := 0) (by omega) ef_9
      have loop_55 : ∀ (fu : Nat) (op1 : Nat) (wr1 : Nat) (sp1 : Nat) (pl1 : Nat) (tk1 : Nat) (vl1 : Nat) (ct1 : Nat) (wa1 : Int32) (g_am : Nat → Int32) (g_ac : Nat → Int32) (g_wh : Nat → Int32), (wr1 ≤ 5) → (pl1 ≤ sp1) → (sp1 ≤ q_taped) → (tk1 ≤ 2) → (vl1 ≤ 9) → (ct1 ≤ 40) → (op1 ≤ 1000 - 2 * (50 - ct1)) → (KP 768 f_actOf g_ac) → (KP 24 f_actMany g_am) → (wr1 = 0 → OPR (cN g_am 24) (slot g_ac 24) ∧ (op1 : Int) = opr (slot g_ac 24) (cN g_am 24) ∧ cN g_am 24 ≤ ct1 ∧ ct1 ≤ 32) → (NB 25 32 g_am) → (50 - ct1) - 12 * min wr1 1 < fu → WW X 3 E 55 [(2, .int (nI op1)), (0, .ref hm), (1, .int v0)] [] [(m_actMany, .inl (E.2.1 1, 25, .inl g_am)), (m_actOf, .inl (E.2.1 1, 800, .inl g_ac)), (m_whom, .inl (E.2.1 1, 800, .inl g_wh)), (m_tokens, .inl (E.2.1 1, 9, .inl f_tokens)), (hm, .inr (12, [.ref m_manys, .ref m_reals, .ref m_factsOf, .ref m_possible, .int (nI q_undos), .int (nI q_models), .ref m_tape, .int (nI q_taped), .int q_fault, .int (nI wr1), .int wa1, .int (nI sp1), .int (nI pl1), .int (nI tk1), .int (nI vl1), .ref m_ends, .ref m_letters, .ref m_actOf, .ref m_whom, .ref m_actMany, .ref m_tokens, .ref m_afters, .ref m_afterOf, .int (nI ct1), .ref m_pile, .ref m_caseMany, .ref m_happen, .ref m_hasIf, .ref m_becomes, .ref m_goneOf, .ref m_heard, .ref m_pairs, .ref m_heaps, .int q_rounds, .int q_heapMany, .ref m_led, .ref m_newAt, .ref m_knowing, .ref m_firsts, .int (nI q_people), .ref m_secrets, .ref m_tried, .ref m_lanes, .ref m_lengths, .ref m_cells])), (m_tape, .inl (E.2.1 1, 160, .inl f_tape)), (m_ends, .inl (E.2.1 1, 15, .inl f_ends)), (m_letters, .inl (E.2.1 1, 50, .inl f_letters)), (m_afters, .inl (E.2.1 1, 9, .inl f_aftersz_41)), (m_afterOf, .inl (E.2.1 1, 18, .inl f_afterOfz_42))] 0 0 := by
        intro fu
        induction fu with
        | zero => intro op1 wr1 sp1 pl1 tk1 vl1 ct1 wa1 g_am g_ac g_wh hwr1 hpl1 hsp1 htk1 hvl1 hct1 hop1 hko hkm hop hnb_m_actMany_55 hmeas; exact absurd hmeas (Nat.not_lt_zero _)
        | succ fu ih_55 =>
          intro op1 wr1 sp1 pl1 tk1 vl1 ct1 wa1 g_am g_ac g_wh hwr1 hpl1 hsp1 htk1 hvl1 hct1 hop1 hko hkm hop hnb_m_actMany_55 hmeas
          refine ww_aload_n C dX12_say_55 1 rfl rfl ?_
          refine ww_get C fg_X12_157 4 rfl rfl dX12_say_56 ?_
          refine ww_if_ne (tgt := 110) C dX12_say_59 (by decide) (fun c_51 => ?_) (fun c_51 => ?_)
          · have zc_51 : ((wr1 : Nat) : Int) ≠ 0 := i_ne (nI_toInt (n := wr1) (by omega)) rfl c_51
            refine ww_aload_n C dX12_say_110 1 rfl rfl ?_
            refine ww_get C fg_X12_157 4 rfl rfl dX12_say_111 ?_
            refine ww_if_ne (tgt := 129) C dX12_say_114 (by decide) (fun c_52 => ?_) (fun c_52 => ?_)
            · have zc_52 : ((wr1 : Nat) : Int) ≠ 0 := i_ne (nI_toInt (n := wr1) (by omega)) rfl c_52
              refine ww_aload_n C dX12_say_129 1 rfl rfl ?_
              refine ww_iconst (v := 0) C dX12_say_130 rfl ?_
              refine ww_put (ws' := [(m_actMany, .inl (E.2.1 1, 25, .inl g_am)), (m_actOf, .inl (E.2.1 1, 800, .inl g_ac)), (m_whom, .inl (E.2.1 1, 800, .inl g_wh)), (m_tokens, .inl (E.2.1 1, 9, .inl f_tokens)), (hm, .inr (12, [.ref m_manys, .ref m_reals, .ref m_factsOf, .ref m_possible, .int (nI q_undos), .int (nI q_models), .ref m_tape, .int 0, .int q_fault, .int (nI wr1), .int wa1, .int (nI sp1), .int (nI pl1), .int (nI tk1), .int (nI vl1), .ref m_ends, .ref m_letters, .ref m_actOf, .ref m_whom, .ref m_actMany, .ref m_tokens, .ref m_afters, .ref m_afterOf, .int (nI ct1), .ref m_pile, .ref m_caseMany, .ref m_happen, .ref m_hasIf, .ref m_becomes, .ref m_goneOf, .ref m_heard, .ref m_pairs, .ref m_heaps, .int q_rounds, .int q_heapMany, .ref m_led, .ref m_newAt, .ref m_knowing, .ref m_firsts, .int (nI q_people), .ref m_secrets, .ref m_tried, .ref m_lanes, .ref m_lengths, .ref m_cells])), (m_tape, .inl (E.2.1 1, 160, .inl f_tape)), (m_ends, .inl (E.2.1 1, 15, .inl f_ends)), (m_letters, .inl (E.2.1 1, 50, .inl f_letters)), (m_afters, .inl (E.2.1 1, 9, .inl f_aftersz_41)), (m_afterOf, .inl (E.2.1 1, 18, .inl f_afterOfz_42))]) C fp_X12_154 4 rfl rfl rfl rfl rfl dX12_say_131 ?_
              refine ww_aload_n C dX12_say_134 1 rfl rfl ?_
              refine ww_aload_n C dX12_say_135 1 rfl rfl ?_
              refine ww_get C fg_X12_157 4 rfl rfl dX12_say_136 ?_
              refine ww_put (ws' := [(m_actMany, .inl (E.2.1 1, 25, .inl g_am)), (m_actOf, .inl (E.2.1 1, 800, .inl g_ac)), (m_whom, .inl (E.2.1 1, 800, .inl g_wh)), (m_tokens, .inl (E.2.1 1, 9, .inl f_tokens)), (hm, .inr (12, [.ref m_manys, .ref m_reals, .ref m_factsOf, .ref m_possible, .int (nI q_undos), .int (nI q_models), .ref m_tape, .int 0, .int (nI wr1), .int (nI wr1), .int wa1, .int (nI sp1), .int (nI pl1), .int (nI tk1), .int (nI vl1), .ref m_ends, .ref m_letters, .ref m_actOf, .ref m_whom, .ref m_actMany, .ref m_tokens, .ref m_afters, .ref m_afterOf, .int (nI ct1), .ref m_pile, .ref m_caseMany, .ref m_happen, .ref m_hasIf, .ref m_becomes, .ref m_goneOf, .ref m_heard, .ref m_pairs, .ref m_heaps, .int q_rounds, .int q_heapMany, .ref m_led, .ref m_newAt, .ref m_knowing, .ref m_firsts, .int (nI q_people), .ref m_secrets, .ref m_tried, .ref m_lanes, .ref m_lengths, .ref m_cells])), (m_tape, .inl (E.2.1 1, 160, .inl f_tape)), (m_ends, .inl (E.2.1 1, 15, .inl f_ends)), (m_letters, .inl (E.2.1 1, 50, .inl f_letters)), (m_afters, .inl (E.2.1 1, 9, .inl f_aftersz_41)), (m_afterOf, .inl (E.2.1 1, 18, .inl f_afterOfz_42))]) C fp_X12_218 4 rfl rfl rfl rfl rfl dX12_say_139 ?_
              refine ww_aload_n C dX12_say_142 1 rfl rfl ?_
              refine ww_get C fg_X12_157 4 rfl rfl dX12_say_143 ?_
              refine ww_if_le (tgt := 157) C dX12_say_146 (by decide) (fun c_53 => ?_) (fun c_53 => ?_)
              · have zc_53 : ((wr1 : Nat) : Int) ≤ 0 := i_le (nI_toInt (n := wr1) (by omega)) rfl c_53
                obtain ⟨j_54, hj_54, rfl⟩ := i_nat (x := v0) (N := 7) (by omega) (by omega)
                have hzj_54 := nI_toInt (n := j_54) (by omega)
                have hw0 : wr1 = 0 := by omega
                obtain ⟨hop_1, hop_2, hop_3, hop_4⟩ := hop hw0
                have hsv2 := SV.keep hsv hko hkm
                have hop0 : opr (slot g_ac 24) (cN g_am 24) = 0 := by omega
                refine ww_aload_n C dX12_say_157 1 rfl rfl ?_
                refine ww_bipush (v := 24) C dX12_say_158 rfl ?_
                refine ww_iload_n C dX12_say_160 2 rfl rfl ?_
                refine ww_cv (wr := [(m_tokens, .inl (E.2.1 1, 9, .inl f_tokens)), (m_tape, .inl (E.2.1 1, 160, .inl f_tape)), (m_ends, .inl (E.2.1 1, 15, .inl f_ends)), (m_letters, .inl (E.2.1 1, 50, .inl f_letters)), (m_afters, .inl (E.2.1 1, 9, .inl f_aftersz_41)), (m_afterOf, .inl (E.2.1 1, 18, .inl f_afterOfz_42))]) (k' := 0) (n' := 0) C (run_V (As := [.int 24, .int (nI j_54)]) (rest := []) C (r_copyActs X.2.1 E ro hm 24 j_54 m_manys m_reals m_factsOf m_possible q_undos q_models m_tape 0 (nI wr1) (nI wr1) wa1 (nI sp1) (nI pl1) (nI tk1) (nI vl1) m_ends m_letters m_actOf m_whom m_actMany m_tokens m_afters m_afterOf (nI ct1) m_pile m_caseMany m_happen m_hasIf m_becomes m_goneOf m_heard m_pairs m_heaps q_rounds q_heapMany m_led m_newAt m_knowing m_firsts q_people m_secrets m_tried m_lanes m_lengths m_cells g_am g_ac g_wh hnb_m_actMany_55 hsv2 (by omega) (by omega) ⟨by omega, hop_1, Or.inr hop0⟩) mi_X12_copyActs wl_X12_221 rfl 0 12 rfl rfl rfl rfl rfl dX12_say_161) (roK hro) [4, 0, 1, 2] [3, 5, 6, 7, 8, 9] rfl rfl rfl rfl (fun uz hw => ?_)
                refine ex3 hw ?_
                clear hw
                intro f_actManyz_56 f_actOfz_57 f_whomz_58 hw
                refine an5 hw ?_
                clear hw
                intro he_64 h_59 h_60 h_61 h_62 hw
                have h_63 := hw
                clear hw
                subst he_64
                refine ww_eq (ws' := [(m_tokens, .inl (E.2.1 1, 9, .inl f_tokens)), (m_tape, .inl (E.2.1 1, 160, .inl f_tape)), (m_ends, .inl (E.2.1 1, 15, .inl f_ends)), (m_letters, .inl (E.2.1 1, 50, .inl f_letters)), (m_afters, .inl (E.2.1 1, 9, .inl f_aftersz_41)), (m_afterOf, .inl (E.2.1 1, 18, .inl f_afterOfz_42)), (hm, .inr (12, [.ref m_manys, .ref m_reals, .ref m_factsOf, .ref m_possible, .int (nI q_undos), .int (nI q_models), .ref m_tape, .int 0, .int (nI wr1), .int (nI wr1), .int wa1, .int (nI sp1), .int (nI pl1), .int (nI tk1), .int (nI vl1), .ref m_ends, .ref m_letters, .ref m_actOf, .ref m_whom, .ref m_actMany, .ref m_tokens, .ref m_afters, .ref m_afterOf, .int (nI ct1), .ref m_pile, .ref m_caseMany, .ref m_happen, .ref m_hasIf, .ref m_becomes, .ref m_goneOf, .ref m_heard, .ref m_pairs, .ref m_heaps, .int q_rounds, .int q_heapMany, .ref m_led, .ref m_newAt, .ref m_knowing, .ref m_firsts, .int (nI q_people), .ref m_secrets, .ref m_tried, .ref m_lanes, .ref m_lengths, .ref m_cells])), (m_actMany, .inl (E.2.1 1, 25, .inl f_actManyz_56)), (m_actOf, .inl (E.2.1 1, 800, .inl f_actOfz_57)), (m_whom, .inl (E.2.1 1, 800, .inl f_whomz_58))]) ?_ rfl rfl rfl
                refine ww_aload_n C dX12_say_164 1 rfl rfl ?_
                refine ww_get C fg_X12_40 6 rfl rfl dX12_say_165 ?_
                refine ww_iload_n C dX12_say_168 2 rfl rfl ?_
                refine ww_aload_n C dX12_say_169 1 rfl rfl ?_
                refine ww_get C fg_X12_191 6 rfl rfl dX12_say_170 ?_
                obtain ⟨f_65, ef_65⟩ : ∃ z : Nat → Int32, upd f_tokens j_54 (nI ct1) = z := ⟨_, rfl⟩
                refine ww_iast (ws' := [(m_tokens, .inl (E.2.1 1, 9, .inl f_65)), (m_tape, .inl (E.2.1 1, 160, .inl f_tape)), (m_ends, .inl (E.2.1 1, 15, .inl f_ends)), (m_letters, .inl (E.2.1 1, 50, .inl f_letters)), (m_afters, .inl (E.2.1 1, 9, .inl f_aftersz_41)), (m_afterOf, .inl (E.2.1 1, 18, .inl f_afterOfz_42)), (hm, .inr (12, [.ref m_manys, .ref m_reals, .ref m_factsOf, .ref m_possible, .int (nI q_undos), .int (nI q_models), .ref m_tape, .int 0, .int (nI wr1), .int (nI wr1), .int wa1, .int (nI sp1), .int (nI pl1), .int (nI tk1), .int (nI vl1), .ref m_ends, .ref m_letters, .ref m_actOf, .ref m_whom, .ref m_actMany, .ref m_tokens, .ref m_afters, .ref m_afterOf, .int (nI ct1), .ref m_pile, .ref m_caseMany, .ref m_happen, .ref m_hasIf, .ref m_becomes, .ref m_goneOf, .ref m_heard, .ref m_pairs, .ref m_heaps, .int q_rounds, .int q_heapMany, .ref m_led, .ref m_newAt, .ref m_knowing, .ref m_firsts, .int (nI q_people), .ref m_secrets, .ref m_tried, .ref m_lanes, .ref m_lengths, .ref m_cells])), (m_actMany, .inl (E.2.1 1, 25, .inl f_actManyz_56)), (m_actOf, .inl (E.2.1 1, 800, .inl f_actOfz_57)), (m_whom, .inl (E.2.1 1, 800, .inl f_whomz_58))]) C 0 rfl (vp_in_nI (by omega) (by omega)) (ldn2 (by omega) ef_65) rfl dX12_say_173 ?_
                refine ww_aload_n C dX12_say_174 1 rfl rfl ?_
                refine ww_get C fg_X12_43 6 rfl rfl dX12_say_175 ?_
                refine ww_iload_n C dX12_say_178 2 rfl rfl ?_
                refine ww_aload_n C dX12_say_179 1 rfl rfl ?_
                refine ww_get C fg_X12_43 6 rfl rfl dX12_say_180 ?_
                refine ww_bipush (v := 8) C dX12_say_183 rfl ?_
                have hbx_66 := (h_47 8 (by omega)).2
                refine ww_iald (v := (nI (cN f_aftersz_41 8))) C 4 rfl (vin rfl) (h_47 8 (by omega)).1 dX12_say_185 ?_
                obtain ⟨f_67, ef_67⟩ : ∃ z : Nat → Int32, upd f_aftersz_41 j_54 (nI (cN f_aftersz_41 8)) = z := ⟨_, rfl⟩
                refine ww_iast (ws' := [(m_tokens, .inl (E.2.1 1, 9, .inl f_65)), (m_tape, .inl (E.2.1 1, 160, .inl f_tape)), (m_ends, .inl (E.2.1 1, 15, .inl f_ends)), (m_letters, .inl (E.2.1 1, 50, .inl f_letters)), (m_afters, .inl (E.2.1 1, 9, .inl f_67)), (m_afterOf, .inl (E.2.1 1, 18, .inl f_afterOfz_42)), (hm, .inr (12, [.ref m_manys, .ref m_reals, .ref m_factsOf, .ref m_possible, .int (nI q_undos), .int (nI q_models), .ref m_tape, .int 0, .int (nI wr1), .int (nI wr1), .int wa1, .int (nI sp1), .int (nI pl1), .int (nI tk1), .int (nI vl1), .ref m_ends, .ref m_letters, .ref m_actOf, .ref m_whom, .ref m_actMany, .ref m_tokens, .ref m_afters, .ref m_afterOf, .int (nI ct1), .ref m_pile, .ref m_caseMany, .ref m_happen, .ref m_hasIf, .ref m_becomes, .ref m_goneOf, .ref m_heard, .ref m_pairs, .ref m_heaps, .int q_rounds, .int q_heapMany, .ref m_led, .ref m_newAt, .ref m_knowing, .ref m_firsts, .int (nI q_people), .ref m_secrets, .ref m_tried, .ref m_lanes, .ref m_lengths, .ref m_cells])), (m_actMany, .inl (E.2.1 1, 25, .inl f_actManyz_56)), (m_actOf, .inl (E.2.1 1, 800, .inl f_actOfz_57)), (m_whom, .inl (E.2.1 1, 800, .inl f_whomz_58))]) C 4 rfl (vp_in_nI (by omega) (by omega)) (ldn2 (by omega) ef_67) rfl dX12_say_186 ?_
                refine ww_aload_n C dX12_say_187 1 rfl rfl ?_
                refine ww_get C fg_X12_46 6 rfl rfl dX12_say_188 ?_
                refine ww_iconst (v := 2) C dX12_say_191 rfl ?_
                refine ww_iload_n C dX12_say_192 2 rfl rfl ?_
                refine ww_imul (v := (nI (2 * j_54))) C dX12_say_193 (pk_mul 2 j_54) ?_
                refine ww_aload_n C dX12_say_194 1 rfl rfl ?_
                refine ww_get C fg_X12_46 6 rfl rfl dX12_say_195 ?_
                refine ww_bipush (v := 16) C dX12_say_198 rfl ?_
                have hbx_68 := (h_48 16 (by omega)).2
                refine ww_iald (v := (nI (cN f_afterOfz_42 16))) C 5 rfl (vin rfl) (h_48 16 (by omega)).1 dX12_say_200 ?_
                obtain ⟨f_69, ef_69⟩ : ∃ z : Nat → Int32, upd f_afterOfz_42 (2 * j_54) (nI (cN f_afterOfz_42 16)) = z := ⟨_, rfl⟩
                refine ww_iast (ws' := [(m_tokens, .inl (E.2.1 1, 9, .inl f_65)), (m_tape, .inl (E.2.1 1, 160, .inl f_tape)), (m_ends, .inl (E.2.1 1, 15, .inl f_ends)), (m_letters, .inl (E.2.1 1, 50, .inl f_letters)), (m_afters, .inl (E.2.1 1, 9, .inl f_67)), (m_afterOf, .inl (E.2.1 1, 18, .inl f_69)), (hm, .inr (12, [.ref m_manys, .ref m_reals, .ref m_factsOf, .ref m_possible, .int (nI q_undos), .int (nI q_models), .ref m_tape, .int 0, .int (nI wr1), .int (nI wr1), .int wa1, .int (nI sp1), .int (nI pl1), .int (nI tk1), .int (nI vl1), .ref m_ends, .ref m_letters, .ref m_actOf, .ref m_whom, .ref m_actMany, .ref m_tokens, .ref m_afters, .ref m_afterOf, .int (nI ct1), .ref m_pile, .ref m_caseMany, .ref m_happen, .ref m_hasIf, .ref m_becomes, .ref m_goneOf, .ref m_heard, .ref m_pairs, .ref m_heaps, .int q_rounds, .int q_heapMany, .ref m_led, .ref m_newAt, .ref m_knowing, .ref m_firsts, .int (nI q_people), .ref m_secrets, .ref m_tried, .ref m_lanes, .ref m_lengths, .ref m_cells])), (m_actMany, .inl (E.2.1 1, 25, .inl f_actManyz_56)), (m_actOf, .inl (E.2.1 1, 800, .inl f_actOfz_57)), (m_whom, .inl (E.2.1 1, 800, .inl f_whomz_58))]) C 5 rfl (vp_in_nI (by omega) (by omega)) (ldn2 (by omega) ef_69) rfl dX12_say_201 ?_
                refine ww_aload_n C dX12_say_202 1 rfl rfl ?_
                refine ww_get C fg_X12_46 6 rfl rfl dX12_say_203 ?_
                refine ww_iconst (v := 2) C dX12_say_206 rfl ?_
                refine ww_iload_n C dX12_say_207 2 rfl rfl ?_
                refine ww_imul (v := (nI (2 * j_54))) C dX12_say_208 (pk_mul 2 j_54) ?_
                refine ww_iconst (v := 1) C dX12_say_209 rfl ?_
                refine ww_iadd (v := (nI ((2 * j_54) + 1))) C dX12_say_210 (nI_add (2 * j_54) 1) ?_
                refine ww_aload_n C dX12_say_211 1 rfl rfl ?_
                refine ww_get C fg_X12_46 6 rfl rfl dX12_say_212 ?_
                refine ww_bipush (v := 17) C dX12_say_215 rfl ?_
                have hbx_70 := ((NB.put h_48 (t := cN f_afterOfz_42 16) (by omega) (by decide) ef_69) 17 (by omega)).2
                refine ww_iald (v := (nI (cN f_69 17))) C 5 rfl (vin rfl) ((NB.put h_48 (t := cN f_afterOfz_42 16) (by omega) (by decide) ef_69) 17 (by omega)).1 dX12_say_217 ?_
                obtain ⟨f_71, ef_71⟩ : ∃ z : Nat → Int32, upd f_69 ((2 * j_54) + 1) (nI (cN f_69 17)) = z := ⟨_, rfl⟩
                refine ww_iast (ws' := [(m_tokens, .inl (E.2.1 1, 9, .inl f_65)), (m_tape, .inl (E.2.1 1, 160, .inl f_tape)), (m_ends, .inl (E.2.1 1, 15, .inl f_ends)), (m_letters, .inl (E.2.1 1, 50, .inl f_letters)), (m_afters, .inl (E.2.1 1, 9, .inl f_67)), (m_afterOf, .inl (E.2.1 1, 18, .inl f_71)), (hm, .inr (12, [.ref m_manys, .ref m_reals, .ref m_factsOf, .ref m_possible, .int (nI q_undos), .int (nI q_models), .ref m_tape, .int 0, .int (nI wr1), .int (nI wr1), .int wa1, .int (nI sp1), .int (nI pl1), .int (nI tk1), .int (nI vl1), .ref m_ends, .ref m_letters, .ref m_actOf, .ref m_whom, .ref m_actMany, .ref m_tokens, .ref m_afters, .ref m_afterOf, .int (nI ct1), .ref m_pile, .ref m_caseMany, .ref m_happen, .ref m_hasIf, .ref m_becomes, .ref m_goneOf, .ref m_heard, .ref m_pairs, .ref m_heaps, .int q_rounds, .int q_heapMany, .ref m_led, .ref m_newAt, .ref m_knowing, .ref m_firsts, .int (nI q_people), .ref m_secrets, .ref m_tried, .ref m_lanes, .ref m_lengths, .ref m_cells])), (m_actMany, .inl (E.2.1 1, 25, .inl f_actManyz_56)), (m_actOf, .inl (E.2.1 1, 800, .inl f_actOfz_57)), (m_whom, .inl (E.2.1 1, 800, .inl f_whomz_58))]) C 5 rfl (vp_in_nI (by omega) (by omega)) (ldn2 (by omega) ef_71) rfl dX12_say_218 ?_
                refine ww_aload_n C dX12_say_219 1 rfl rfl ?_
                refine ww_get C fg_X12_191 6 rfl rfl dX12_say_220 ?_
                exact ww_iret (u := [(hm, .inr (12, [.ref m_manys, .ref m_reals, .ref m_factsOf, .ref m_possible, .int (nI q_undos), .int (nI q_models), .ref m_tape, .int 0, .int (nI wr1), .int (nI wr1), .int wa1, .int (nI sp1), .int (nI pl1), .int (nI tk1), .int (nI vl1), .ref m_ends, .ref m_letters, .ref m_actOf, .ref m_whom, .ref m_actMany, .ref m_tokens, .ref m_afters, .ref m_afterOf, .int (nI ct1), .ref m_pile, .ref m_caseMany, .ref m_happen, .ref m_hasIf, .ref m_becomes, .ref m_goneOf, .ref m_heard, .ref m_pairs, .ref m_heaps, .int q_rounds, .int q_heapMany, .ref m_led, .ref m_newAt, .ref m_knowing, .ref m_firsts, .int (nI q_people), .ref m_secrets, .ref m_tried, .ref m_lanes, .ref m_lengths, .ref m_cells])), (m_tape, .inl (E.2.1 1, 160, .inl f_tape)), (m_ends, .inl (E.2.1 1, 15, .inl f_ends)), (m_letters, .inl (E.2.1 1, 50, .inl f_letters)), (m_actMany, .inl (E.2.1 1, 25, .inl f_actManyz_56)), (m_actOf, .inl (E.2.1 1, 800, .inl f_actOfz_57)), (m_whom, .inl (E.2.1 1, 800, .inl f_whomz_58)), (m_tokens, .inl (E.2.1 1, 9, .inl f_65)), (m_afters, .inl (E.2.1 1, 9, .inl f_67)), (m_afterOf, .inl (E.2.1 1, 18, .inl f_71))]) C hT [6, 1, 2, 3, 7, 8, 9, 0, 4, 5] rfl rfl rfl rfl dX12_say_223 (Or.inr ⟨(nI wr1), (nI wr1), wa1, (nI sp1), (nI pl1), (nI ct1), tk1, vl1, f_actManyz_56, f_actOfz_57, f_whomz_58, f_65, f_67, f_71, rfl, h_59, (NB.put h_47 (t := cN f_aftersz_41 8) (by omega) (by decide) ef_67), (NB.put (NB.put h_48 (t := cN f_afterOfz_42 16) (by omega) (by decide) ef_69) (t := cN f_69 17) (by omega) (by decide) ef_71), h_60, (by omega), (by omega), (by omega), (by omega)⟩)
              · have zc_53 : ((wr1 : Nat) : Int) > 0 := i_nle (nI_toInt (n := wr1) (by omega)) rfl c_53
                refine ww_bipush (v := (-10)) C dX12_say_149 rfl ?_
                refine ww_aload_n C dX12_say_151 1 rfl rfl ?_
                refine ww_get C fg_X12_163 4 rfl rfl dX12_say_152 ?_
                obtain ⟨x_72, ex_72⟩ : ∃ z : Int32, ((-10) : Int32) - wa1 = z := ⟨_, rfl⟩
                refine ww_isub (v := x_72) C dX12_say_155 ex_72 ?_
                exact ww_iret (u := [(hm, .inr (12, [.ref m_manys, .ref m_reals, .ref m_factsOf, .ref m_possible, .int (nI q_undos), .int (nI q_models), .ref m_tape, .int 0, .int (nI wr1), .int (nI wr1), .int wa1, .int (nI sp1), .int (nI pl1), .int (nI tk1), .int (nI vl1), .ref m_ends, .ref m_letters, .ref m_actOf, .ref m_whom, .ref m_actMany, .ref m_tokens, .ref m_afters, .ref m_afterOf, .int (nI ct1), .ref m_pile, .ref m_caseMany, .ref m_happen, .ref m_hasIf, .ref m_becomes, .ref m_goneOf, .ref m_heard, .ref m_pairs, .ref m_heaps, .int q_rounds, .int q_heapMany, .ref m_led, .ref m_newAt, .ref m_knowing, .ref m_firsts, .int (nI q_people), .ref m_secrets, .ref m_tried, .ref m_lanes, .ref m_lengths, .ref m_cells])), (m_tape, .inl (E.2.1 1, 160, .inl f_tape)), (m_ends, .inl (E.2.1 1, 15, .inl f_ends)), (m_letters, .inl (E.2.1 1, 50, .inl f_letters)), (m_actMany, .inl (E.2.1 1, 25, .inl g_am)), (m_actOf, .inl (E.2.1 1, 800, .inl g_ac)), (m_whom, .inl (E.2.1 1, 800, .inl g_wh)), (m_tokens, .inl (E.2.1 1, 9, .inl f_tokens)), (m_afters, .inl (E.2.1 1, 9, .inl f_aftersz_41)), (m_afterOf, .inl (E.2.1 1, 18, .inl f_afterOfz_42))]) C hT [4, 5, 6, 7, 0, 1, 2, 3, 8, 9] rfl rfl rfl rfl dX12_say_156 (Or.inr ⟨(nI wr1), (nI wr1), wa1, (nI sp1), (nI pl1), (nI ct1), tk1, vl1, g_am, g_ac, g_wh, f_tokens, f_aftersz_41, f_afterOfz_42, rfl, hnb_m_actMany_55, h_47, h_48, (SV.keep hsv hko hkm), (by omega), (by omega), (by omega), (by omega)⟩)
            · have zc_52 : ((wr1 : Nat) : Int) = 0 := i_eq (nI_toInt (n := wr1) (by omega)) rfl c_52
              refine ww_aload_n C dX12_say_117 1 rfl rfl ?_
              refine ww_get C fg_X12_175 4 rfl rfl dX12_say_118 ?_
              refine ww_if_eq (tgt := 129) C dX12_say_121 (by decide) (fun c_73 => ?_) (fun c_73 => ?_)
              · have zc_73 : ((tk1 : Nat) : Int) = 0 := i_eq (nI_toInt (n := tk1) (by omega)) rfl c_73
                refine ww_aload_n C dX12_say_129 1 rfl rfl ?_
                refine ww_iconst (v := 0) C dX12_say_130 rfl ?_
                refine ww_put (ws' := [(m_actMany, .inl (E.2.1 1, 25, .inl g_am)), (m_actOf, .inl (E.2.1 1, 800, .inl g_ac)), (m_whom, .inl (E.2.1 1, 800, .inl g_wh)), (m_tokens, .inl (E.2.1 1, 9, .inl f_tokens)), (hm, .inr (12, [.ref m_manys, .ref m_reals, .ref m_factsOf, .ref m_possible, .int (nI q_undos), .int (nI q_models), .ref m_tape, .int 0, .int q_fault, .int (nI wr1), .int wa1, .int (nI sp1), .int (nI pl1), .int (nI tk1), .int (nI vl1), .ref m_ends, .ref m_letters, .ref m_actOf, .ref m_whom, .ref m_actMany, .ref m_tokens, .ref m_afters, .ref m_afterOf, .int (nI ct1), .ref m_pile, .ref m_caseMany, .ref m_happen, .ref m_hasIf, .ref m_becomes, .ref m_goneOf, .ref m_heard, .ref m_pairs, .ref m_heaps, .int q_rounds, .int q_heapMany, .ref m_led, .ref m_newAt, .ref m_knowing, .ref m_firsts, .int (nI q_people), .ref m_secrets, .ref m_tried, .ref m_lanes, .ref m_lengths, .ref m_cells])), (m_tape, .inl (E.2.1 1, 160, .inl f_tape)), (m_ends, .inl (E.2.1 1, 15, .inl f_ends)), (m_letters, .inl (E.2.1 1, 50, .inl f_letters)), (m_afters, .inl (E.2.1 1, 9, .inl f_aftersz_41)), (m_afterOf, .inl (E.2.1 1, 18, .inl f_afterOfz_42))]) C fp_X12_154 4 rfl rfl rfl rfl rfl dX12_say_131 ?_
                refine ww_aload_n C dX12_say_134 1 rfl rfl ?_
                refine ww_aload_n C dX12_say_135 1 rfl rfl ?_
                refine ww_get C fg_X12_157 4 rfl rfl dX12_say_136 ?_
                refine ww_put (ws' := [(m_actMany, .inl (E.2.1 1, 25, .inl g_am)), (m_actOf, .inl (E.2.1 1, 800, .inl g_ac)), (m_whom, .inl (E.2.1 1, 800, .inl g_wh)), (m_tokens, .inl (E.2.1 1, 9, .inl f_tokens)), (hm, .inr (12, [.ref m_manys, .ref m_reals, .ref m_factsOf, .ref m_possible, .int (nI q_undos), .int (nI q_models), .ref m_tape, .int 0, .int (nI wr1), .int (nI wr1), .int wa1, .int (nI sp1), .int (nI pl1), .int (nI tk1), .int (nI vl1), .ref m_ends, .ref m_letters, .ref m_actOf, .ref m_whom, .ref m_actMany, .ref m_tokens, .ref m_afters, .ref m_afterOf, .int (nI ct1), .ref m_pile, .ref m_caseMany, .ref m_happen, .ref m_hasIf, .ref m_becomes, .ref m_goneOf, .ref m_heard, .ref m_pairs, .ref m_heaps, .int q_rounds, .int q_heapMany, .ref m_led, .ref m_newAt, .ref m_knowing, .ref m_firsts, .int (nI q_people), .ref m_secrets, .ref m_tried, .ref m_lanes, .ref m_lengths, .ref m_cells])), (m_tape, .inl (E.2.1 1, 160, .inl f_tape)), (m_ends, .inl (E.2.1 1, 15, .inl f_ends)), (m_letters, .inl (E.2.1 1, 50, .inl f_letters)), (m_afters, .inl (E.2.1 1, 9, .inl f_aftersz_41)), (m_afterOf, .inl (E.2.1 1, 18, .inl f_afterOfz_42))]) C fp_X12_218 4 rfl rfl rfl rfl rfl dX12_say_139 ?_
                refine ww_aload_n C dX12_say_142 1 rfl rfl ?_
                refine ww_get C fg_X12_157 4 rfl rfl dX12_say_143 ?_
                refine ww_if_le (tgt := 157) C dX12_say_146 (by decide) (fun c_74 => ?_) (fun c_74 => ?_)
                · have zc_74 : ((wr1 : Nat) : Int) ≤ 0 := i_le (nI_toInt (n := wr1) (by omega)) rfl c_74
                  obtain ⟨j_75, hj_75, rfl⟩ := i_nat (x := v0) (N := 7) (by omega) (by omega)
                  have hzj_75 := nI_toInt (n := j_75) (by omega)
                  have hw0 : wr1 = 0 := by omega
                  obtain ⟨hop_1, hop_2, hop_3, hop_4⟩ := hop hw0
                  have hsv2 := SV.keep hsv hko hkm
                  have hop0 : opr (slot g_ac 24) (cN g_am 24) = 0 := by omega
                  refine ww_aload_n C dX12_say_157 1 rfl rfl ?_
                  refine ww_bipush (v := 24) C dX12_say_158 rfl ?_
                  refine ww_iload_n C dX12_say_160 2 rfl rfl ?_
                  refine ww_cv (wr := [(m_tokens, .inl (E.2.1 1, 9, .inl f_tokens)), (m_tape, .inl (E.2.1 1, 160, .inl f_tape)), (m_ends, .inl (E.2.1 1, 15, .inl f_ends)), (m_letters, .inl (E.2.1 1, 50, .inl f_letters)), (m_afters, .inl (E.2.1 1, 9, .inl f_aftersz_41)), (m_afterOf, .inl (E.2.1 1, 18, .inl f_afterOfz_42))]) (k' := 0) (n' := 0) C (run_V (As := [.int 24, .int (nI j_75)]) (rest := []) C (r_copyActs X.2.1 E ro hm 24 j_75 m_manys m_reals m_factsOf m_possible q_undos q_models m_tape 0 (nI wr1) (nI wr1) wa1 (nI sp1) (nI pl1) (nI tk1) (nI vl1) m_ends m_letters m_actOf m_whom m_actMany m_tokens m_afters m_afterOf (nI ct1) m_pile m_caseMany m_happen m_hasIf m_becomes m_goneOf m_heard m_pairs m_heaps q_rounds q_heapMany m_led m_newAt m_knowing m_firsts q_people m_secrets m_tried m_lanes m_lengths m_cells g_am g_ac g_wh hnb_m_actMany_55 hsv2 (by omega) (by omega) ⟨by omega, hop_1, Or.inr hop0⟩) mi_X12_copyActs wl_X12_221 rfl 0 12 rfl rfl rfl rfl rfl dX12_say_161) (roK hro) [4, 0, 1, 2] [3, 5, 6, 7, 8, 9] rfl rfl rfl rfl (fun uz hw => ?_)
                  refine ex3 hw ?_
                  clear hw
                  intro f_actManyz_77 f_actOfz_78 f_whomz_79 hw
                  refine an5 hw ?_
                  clear hw
                  intro he_85 h_80 h_81 h_82 h_83 hw
                  have h_84 := hw
                  clear hw
                  subst he_85
                  refine ww_eq (ws' := [(m_tokens, .inl (E.2.1 1, 9, .inl f_tokens)), (m_tape, .inl (E.2.1 1, 160, .inl f_tape)), (m_ends, .inl (E.2.1 1, 15, .inl f_ends)), (m_letters, .inl (E.2.1 1, 50, .inl f_letters)), (m_afters, .inl (E.2.1 1, 9, .inl f_aftersz_41)), (m_afterOf, .inl (E.2.1 1, 18, .inl f_afterOfz_42)), (hm, .inr (12, [.ref m_manys, .ref m_reals, .ref m_factsOf, .ref m_possible, .int (nI q_undos), .int (nI q_models), .ref m_tape, .int 0, .int (nI wr1), .int (nI wr1), .int wa1, .int (nI sp1), .int (nI pl1), .int (nI tk1), .int (nI vl1), .ref m_ends, .ref m_letters, .ref m_actOf, .ref m_whom, .ref m_actMany, .ref m_tokens, .ref m_afters, .ref m_afterOf, .int (nI ct1), .ref m_pile, .ref m_caseMany, .ref m_happen, .ref m_hasIf, .ref m_becomes, .ref m_goneOf, .ref m_heard, .ref m_pairs, .ref m_heaps, .int q_rounds, .int q_heapMany, .ref m_led, .ref m_newAt, .ref m_knowing, .ref m_firsts, .int (nI q_people), .ref m_secrets, .ref m_tried, .ref m_lanes, .ref m_lengths, .ref m_cells])), (m_actMany, .inl (E.2.1 1, 25, .inl f_actManyz_77)), (m_actOf, .inl (E.2.1 1, 800, .inl f_actOfz_78)), (m_whom, .inl (E.2.1 1, 800, .inl f_whomz_79))]) ?_ rfl rfl rfl
                  refine ww_aload_n C dX12_say_164 1 rfl rfl ?_
                  refine ww_get C fg_X12_40 6 rfl rfl dX12_say_165 ?_
                  refine ww_iload_n C dX12_say_168 2 rfl rfl ?_
                  refine ww_aload_n C dX12_say_169 1 rfl rfl ?_
                  refine ww_get C fg_X12_191 6 rfl rfl dX12_say_170 ?_
                  obtain ⟨f_86, ef_86⟩ : ∃ z : Nat → Int32, upd f_tokens j_75 (nI ct1) = z := ⟨_, rfl⟩
                  refine ww_iast (ws' := [(m_tokens, .inl (E.2.1 1, 9, .inl f_86)), (m_tape, .inl (E.2.1 1, 160, .inl f_tape)), (m_ends, .inl (E.2.1 1, 15, .inl f_ends)), (m_letters, .inl (E.2.1 1, 50, .inl f_letters)), (m_afters, .inl (E.2.1 1, 9, .inl f_aftersz_41)), (m_afterOf, .inl (E.2.1 1, 18, .inl f_afterOfz_42)), (hm, .inr (12, [.ref m_manys, .ref m_reals, .ref m_factsOf, .ref m_possible, .int (nI q_undos), .int (nI q_models), .ref m_tape, .int 0, .int (nI wr1), .int (nI wr1), .int wa1, .int (nI sp1), .int (nI pl1), .int (nI tk1), .int (nI vl1), .ref m_ends, .ref m_letters, .ref m_actOf, .ref m_whom, .ref m_actMany, .ref m_tokens, .ref m_afters, .ref m_afterOf, .int (nI ct1), .ref m_pile, .ref m_caseMany, .ref m_happen, .ref m_hasIf, .ref m_becomes, .ref m_goneOf, .ref m_heard, .ref m_pairs, .ref m_heaps, .int q_rounds, .int q_heapMany, .ref m_led, .ref m_newAt, .ref m_knowing, .ref m_firsts, .int (nI q_people), .ref m_secrets, .ref m_tried, .ref m_lanes, .ref m_lengths, .ref m_cells])), (m_actMany, .inl (E.2.1 1, 25, .inl f_actManyz_77)), (m_actOf, .inl (E.2.1 1, 800, .inl f_actOfz_78)), (m_whom, .inl (E.2.1 1, 800, .inl f_whomz_79))]) C 0 rfl (vp_in_nI (by omega) (by omega)) (ldn2 (by omega) ef_86) rfl dX12_say_173 ?_
                  refine ww_aload_n C dX12_say_174 1 rfl rfl ?_
                  refine ww_get C fg_X12_43 6 rfl rfl dX12_say_175 ?_
                  refine ww_iload_n C dX12_say_178 2 rfl rfl ?_
                  refine ww_aload_n C dX12_say_179 1 rfl rfl ?_
                  refine ww_get C fg_X12_43 6 rfl rfl dX12_say_180 ?_
                  refine ww_bipush (v := 8) C dX12_say_183 rfl ?_
                  have hbx_87 := (h_47 8 (by omega)).2
                  refine ww_iald (v := (nI (cN f_aftersz_41 8))) C 4 rfl (vin rfl) (h_47 8 (by omega)).1 dX12_say_185 ?_
                  obtain ⟨f_88, ef_88⟩ : ∃ z : Nat → Int32, upd f_aftersz_41 j_75 (nI (cN f_aftersz_41 8)) = z := ⟨_, rfl⟩
                  refine ww_iast (ws' := [(m_tokens, .inl (E.2.1 1, 9, .inl f_86)), (m_tape, .inl (E.2.1 1, 160, .inl f_tape)), (m_ends, .inl (E.2.1 1, 15, .inl f_ends)), (m_letters, .inl (E.2.1 1, 50, .inl f_letters)), (m_afters, .inl (E.2.1 1, 9, .inl f_88)), (m_afterOf, .inl (E.2.1 1, 18, .inl f_afterOfz_42)), (hm, .inr (12, [.ref m_manys, .ref m_reals, .ref m_factsOf, .ref m_possible, .int (nI q_undos), .int (nI q_models), .ref m_tape, .int 0, .int (nI wr1), .int (nI wr1), .int wa1, .int (nI sp1), .int (nI pl1), .int (nI tk1), .int (nI vl1), .ref m_ends, .ref m_letters, .ref m_actOf, .ref m_whom, .ref m_actMany, .ref m_tokens, .ref m_afters, .ref m_afterOf, .int (nI ct1), .ref m_pile, .ref m_caseMany, .ref m_happen, .ref m_hasIf, .ref m_becomes, .ref m_goneOf, .ref m_heard, .ref m_pairs, .ref m_heaps, .int q_rounds, .int q_heapMany, .ref m_led, .ref m_newAt, .ref m_knowing, .ref m_firsts, .int (nI q_people), .ref m_secrets, .ref m_tried, .ref m_lanes, .ref m_lengths, .ref m_cells])), (m_actMany, .inl (E.2.1 1, 25, .inl f_actManyz_77)), (m_actOf, .inl (E.2.1 1, 800, .inl f_actOfz_78)), (m_whom, .inl (E.2.1 1, 800, .inl f_whomz_79))]) C 4 rfl (vp_in_nI (by omega) (by omega)) (ldn2 (by omega) ef_88) rfl dX12_say_186 ?_
                  refine ww_aload_n C dX12_say_187 1 rfl rfl ?_
                  refine ww_get C fg_X12_46 6 rfl rfl dX12_say_188 ?_
                  refine ww_iconst (v := 2) C dX12_say_191 rfl ?_
                  refine ww_iload_n C dX12_say_192 2 rfl rfl ?_
                  refine ww_imul (v := (nI (2 * j_75))) C dX12_say_193 (pk_mul 2 j_75) ?_
                  refine ww_aload_n C dX12_say_194 1 rfl rfl ?_
                  refine ww_get C fg_X12_46 6 rfl rfl dX12_say_195 ?_
                  refine ww_bipush (v := 16) C dX12_say_198 rfl ?_
                  have hbx_89 := (h_48 16 (by omega)).2
                  refine ww_iald (v := (nI (cN f_afterOfz_42 16))) C 5 rfl (vin rfl) (h_48 16 (by omega)).1 dX12_say_200 ?_
                  obtain ⟨f_90, ef_90⟩ : ∃ z : Nat → Int32, upd f_afterOfz_42 (2 * j_75) (nI (cN f_afterOfz_42 16)) = z := ⟨_, rfl⟩
                  refine ww_iast (ws' := [(m_tokens, .inl (E.2.1 1, 9, .inl f_86)), (m_tape, .inl (E.2.1 1, 160, .inl f_tape)), (m_ends, .inl (E.2.1 1, 15, .inl f_ends)), (m_letters, .inl (E.2.1 1, 50, .inl f_letters)), (m_afters, .inl (E.2.1 1, 9, .inl f_88)), (m_afterOf, .inl (E.2.1 1, 18, .inl f_90)), (hm, .inr (12, [.ref m_manys, .ref m_reals, .ref m_factsOf, .ref m_possible, .int (nI q_undos), .int (nI q_models), .ref m_tape, .int 0, .int (nI wr1), .int (nI wr1), .int wa1, .int (nI sp1), .int (nI pl1), .int (nI tk1), .int (nI vl1), .ref m_ends, .ref m_letters, .ref m_actOf, .ref m_whom, .ref m_actMany, .ref m_tokens, .ref m_afters, .ref m_afterOf, .int (nI ct1), .ref m_pile, .ref m_caseMany, .ref m_happen, .ref m_hasIf, .ref m_becomes, .ref m_goneOf, .ref m_heard, .ref m_pairs, .ref m_heaps, .int q_rounds, .int q_heapMany, .ref m_led, .ref m_newAt, .ref m_knowing, .ref m_firsts, .int (nI q_people), .ref m_secrets, .ref m_tried, .ref m_lanes, .ref m_lengths, .ref m_cells])), (m_actMany, .inl (E.2.1 1, 25, .inl f_actManyz_77)), (m_actOf, .inl (E.2.1 1, 800, .inl f_actOfz_78)), (m_whom, .inl (E.2.1 1, 800, .inl f_whomz_79))]) C 5 rfl (vp_in_nI (by omega) (by omega)) (ldn2 (by omega) ef_90) rfl dX12_say_201 ?_
                  refine ww_aload_n C dX12_say_202 1 rfl rfl ?_
                  refine ww_get C fg_X12_46 6 rfl rfl dX12_say_203 ?_
                  refine ww_iconst (v := 2) C dX12_say_206 rfl ?_
                  refine ww_iload_n C dX12_say_207 2 rfl rfl ?_
                  refine ww_imul (v := (nI (2 * j_75))) C dX12_say_208 (pk_mul 2 j_75) ?_
                  refine ww_iconst (v := 1) C dX12_say_209 rfl ?_
                  refine ww_iadd (v := (nI ((2 * j_75) + 1))) C dX12_say_210 (nI_add (2 * j_75) 1) ?_
                  refine ww_aload_n C dX12_say_211 1 rfl rfl ?_
                  refine ww_get C fg_X12_46 6 rfl rfl dX12_say_212 ?_
                  refine ww_bipush (v := 17) C dX12_say_215 rfl ?_
                  have hbx_91 := ((NB.put h_48 (t := cN f_afterOfz_42 16) (by omega) (by decide) ef_90) 17 (by omega)).2
                  refine ww_iald (v := (nI (cN f_90 17))) C 5 rfl (vin rfl) ((NB.put h_48 (t := cN f_afterOfz_42 16) (by omega) (by decide) ef_90) 17 (by omega)).1 dX12_say_217 ?_
                  obtain ⟨f_92, ef_92⟩ : ∃ z : Nat → Int32, upd f_90 ((2 * j_75) + 1) (nI (cN f_90 17)) = z := ⟨_, rfl⟩
                  refine ww_iast (ws' := [(m_tokens, .inl (E.2.1 1, 9, .inl f_86)), (m_tape, .inl (E.2.1 1, 160, .inl f_tape)), (m_ends, .inl (E.2.1 1, 15, .inl f_ends)), (m_letters, .inl (E.2.1 1, 50, .inl f_letters)), (m_afters, .inl (E.2.1 1, 9, .inl f_88)), (m_afterOf, .inl (E.2.1 1, 18, .inl f_92)), (hm, .inr (12, [.ref m_manys, .ref m_reals, .ref m_factsOf, .ref m_possible, .int (nI q_undos), .int (nI q_models), .ref m_tape, .int 0, .int (nI wr1), .int (nI wr1), .int wa1, .int (nI sp1), .int (nI pl1), .int (nI tk1), .int (nI vl1), .ref m_ends, .ref m_letters, .ref m_actOf, .ref m_whom, .ref m_actMany, .ref m_tokens, .ref m_afters, .ref m_afterOf, .int (nI ct1), .ref m_pile, .ref m_caseMany, .ref m_happen, .ref m_hasIf, .ref m_becomes, .ref m_goneOf, .ref m_heard, .ref m_pairs, .ref m_heaps, .int q_rounds, .int q_heapMany, .ref m_led, .ref m_newAt, .ref m_knowing, .ref m_firsts, .int (nI q_people), .ref m_secrets, .ref m_tried, .ref m_lanes, .ref m_lengths, .ref m_cells])), (m_actMany, .inl (E.2.1 1, 25, .inl f_actManyz_77)), (m_actOf, .inl (E.2.1 1, 800, .inl f_actOfz_78)), (m_whom, .inl (E.2.1 1, 800, .inl f_whomz_79))]) C 5 rfl (vp_in_nI (by omega) (by omega)) (ldn2 (by omega) ef_92) rfl dX12_say_218 ?_
                  refine ww_aload_n C dX12_say_219 1 rfl rfl ?_
                  refine ww_get C fg_X12_191 6 rfl rfl dX12_say_220 ?_
                  exact ww_iret (u := [(hm, .inr (12, [.ref m_manys, .ref m_reals, .ref m_factsOf, .ref m_possible, .int (nI q_undos), .int (nI q_models), .ref m_tape, .int 0, .int (nI wr1), .int (nI wr1), .int wa1, .int (nI sp1), .int (nI pl1), .int (nI tk1), .int (nI vl1), .ref m_ends, .ref m_letters, .ref m_actOf, .ref m_whom, .ref m_actMany, .ref m_tokens, .ref m_afters, .ref m_afterOf, .int (nI ct1), .ref m_pile, .ref m_caseMany, .ref m_happen, .ref m_hasIf, .ref m_becomes, .ref m_goneOf, .ref m_heard, .ref m_pairs, .ref m_heaps, .int q_rounds, .int q_heapMany, .ref m_led, .ref m_newAt, .ref m_knowing, .ref m_firsts, .int (nI q_people), .ref m_secrets, .ref m_tried, .ref m_lanes, .ref m_lengths, .ref m_cells])), (m_tape, .inl (E.2.1 1, 160, .inl f_tape)), (m_ends, .inl (E.2.1 1, 15, .inl f_ends)), (m_letters, .inl (E.2.1 1, 50, .inl f_letters)), (m_actMany, .inl (E.2.1 1, 25, .inl f_actManyz_77)), (m_actOf, .inl (E.2.1 1, 800, .inl f_actOfz_78)), (m_whom, .inl (E.2.1 1, 800, .inl f_whomz_79)), (m_tokens, .inl (E.2.1 1, 9, .inl f_86)), (m_afters, .inl (E.2.1 1, 9, .inl f_88)), (m_afterOf, .inl (E.2.1 1, 18, .inl f_92))]) C hT [6, 1, 2, 3, 7, 8, 9, 0, 4, 5] rfl rfl rfl rfl dX12_say_223 (Or.inr ⟨(nI wr1), (nI wr1), wa1, (nI sp1), (nI pl1), (nI ct1), tk1, vl1, f_actManyz_77, f_actOfz_78, f_whomz_79, f_86, f_88, f_92, rfl, h_80, (NB.put h_47 (t := cN f_aftersz_41 8) (by omega) (by decide) ef_88), (NB.put (NB.put h_48 (t := cN f_afterOfz_42 16) (by omega) (by decide) ef_90) (t := cN f_90 17) (by omega) (by decide) ef_92), h_81, (by omega), (by omega), (by omega), (by omega)⟩)
                · have zc_74 : ((wr1 : Nat) : Int) > 0 := i_nle (nI_toInt (n := wr1) (by omega)) rfl c_74
                  omega
              · have zc_73 : ((tk1 : Nat) : Int) ≠ 0 := i_ne (nI_toInt (n := tk1) (by omega)) rfl c_73
                refine ww_aload_n C dX12_say_124 1 rfl rfl ?_
                refine ww_iconst (v := 2) C dX12_say_125 rfl ?_
                refine ww_cv (wr := [(m_actMany, .inl (E.2.1 1, 25, .inl g_am)), (m_actOf, .inl (E.2.1 1, 800, .inl g_ac)), (m_whom, .inl (E.2.1 1, 800, .inl g_wh)), (m_tokens, .inl (E.2.1 1, 9, .inl f_tokens)), (m_tape, .inl (E.2.1 1, 160, .inl f_tape)), (m_ends, .inl (E.2.1 1, 15, .inl f_ends)), (m_letters, .inl (E.2.1 1, 50, .inl f_letters)), (m_afters, .inl (E.2.1 1, 9, .inl f_aftersz_41)), (m_afterOf, .inl (E.2.1 1, 18, .inl f_afterOfz_42))]) (k' := 0) (n' := 0) C (run_V (As := [.int 2]) (rest := []) C (r_fails X.2.1 E ro hm 2 m_manys m_reals m_factsOf m_possible q_undos q_models m_tape q_taped q_fault wr1 wa1 (nI sp1) (nI pl1) (nI tk1) (nI vl1) m_ends m_letters m_actOf m_whom m_actMany m_tokens m_afters m_afterOf (nI ct1) m_pile m_caseMany m_happen m_hasIf m_becomes m_goneOf m_heard m_pairs m_heaps q_rounds q_heapMany m_led m_newAt m_knowing m_firsts q_people m_secrets m_tried m_lanes m_lengths m_cells (by omega)) mi_X12_fails wl_X12_186 rfl 0 12 rfl rfl rfl rfl rfl dX12_say_126) (roK hro) [4] [0, 1, 2, 3, 5, 6, 7, 8, 9] rfl rfl rfl rfl (fun uz hw => ?_)
                rcases hw with hw | hw
                · refine an1 hw ?_
                  clear hw
                  intro he_95 hw
                  have h_94 := hw
                  clear hw
                  subst he_95
                  refine ww_eq (ws' := [(m_actMany, .inl (E.2.1 1, 25, .inl g_am)), (m_actOf, .inl (E.2.1 1, 800, .inl g_ac)), (m_whom, .inl (E.2.1 1, 800, .inl g_wh)), (m_tokens, .inl (E.2.1 1, 9, .inl f_tokens)), (m_tape, .inl (E.2.1 1, 160, .inl f_tape)), (m_ends, .inl (E.2.1 1, 15, .inl f_ends)), (m_letters, .inl (E.2.1 1, 50, .inl f_letters)), (m_afters, .inl (E.2.1 1, 9, .inl f_aftersz_41)), (m_afterOf, .inl (E.2.1 1, 18, .inl f_afterOfz_42)), (hm, .inr (12, [.ref m_manys, .ref m_reals, .ref m_factsOf, .ref m_possible, .int (nI q_undos), .int (nI q_models), .ref m_tape, .int (nI q_taped), .int q_fault, .int 2, .int (nI pl1), .int (nI sp1), .int (nI pl1), .int (nI tk1), .int (nI vl1), .ref m_ends, .ref m_letters, .ref m_actOf, .ref m_whom, .ref m_actMany, .ref m_tokens, .ref m_afters, .ref m_afterOf, .int (nI ct1), .ref m_pile, .ref m_caseMany, .ref m_happen, .ref m_hasIf, .ref m_becomes, .ref m_goneOf, .ref m_heard, .ref m_pairs, .ref m_heaps, .int q_rounds, .int q_heapMany, .ref m_led, .ref m_newAt, .ref m_knowing, .ref m_firsts, .int (nI q_people), .ref m_secrets, .ref m_tried, .ref m_lanes, .ref m_lengths, .ref m_cells]))]) ?_ rfl rfl rfl
                  refine ww_aload_n C dX12_say_129 1 rfl rfl ?_
                  refine ww_iconst (v := 0) C dX12_say_130 rfl ?_
                  refine ww_put (ws' := [(m_actMany, .inl (E.2.1 1, 25, .inl g_am)), (m_actOf, .inl (E.2.1 1, 800, .inl g_ac)), (m_whom, .inl (E.2.1 1, 800, .inl g_wh)), (m_tokens, .inl (E.2.1 1, 9, .inl f_tokens)), (m_tape, .inl (E.2.1 1, 160, .inl f_tape)), (m_ends, .inl (E.2.1 1, 15, .inl f_ends)), (m_letters, .inl (E.2.1 1, 50, .inl f_letters)), (m_afters, .inl (E.2.1 1, 9, .inl f_aftersz_41)), (m_afterOf, .inl (E.2.1 1, 18, .inl f_afterOfz_42)), (hm, .inr (12, [.ref m_manys, .ref m_reals, .ref m_factsOf, .ref m_possible, .int (nI q_undos), .int (nI q_models), .ref m_tape, .int 0, .int q_fault, .int 2, .int (nI pl1), .int (nI sp1), .int (nI pl1), .int (nI tk1), .int (nI vl1), .ref m_ends, .ref m_letters, .ref m_actOf, .ref m_whom, .ref m_actMany, .ref m_tokens, .ref m_afters, .ref m_afterOf, .int (nI ct1), .ref m_pile, .ref m_caseMany, .ref m_happen, .ref m_hasIf, .ref m_becomes, .ref m_goneOf, .ref m_heard, .ref m_pairs, .ref m_heaps, .int q_rounds, .int q_heapMany, .ref m_led, .ref m_newAt, .ref m_knowing, .ref m_firsts, .int (nI q_people), .ref m_secrets, .ref m_tried, .ref m_lanes, .ref m_lengths, .ref m_cells]))]) C fp_X12_154 9 rfl rfl rfl rfl rfl dX12_say_131 ?_
                  refine ww_aload_n C dX12_say_134 1 rfl rfl ?_
                  refine ww_aload_n C dX12_say_135 1 rfl rfl ?_
                  refine ww_get C fg_X12_157 9 rfl rfl dX12_say_136 ?_
                  refine ww_put (ws' := [(m_actMany, .inl (E.2.1 1, 25, .inl g_am)), (m_actOf, .inl (E.2.1 1, 800, .inl g_ac)), (m_whom, .inl (E.2.1 1, 800, .inl g_wh)), (m_tokens, .inl (E.2.1 1, 9, .inl f_tokens)), (m_tape, .inl (E.2.1 1, 160, .inl f_tape)), (m_ends, .inl (E.2.1 1, 15, .inl f_ends)), (m_letters, .inl (E.2.1 1, 50, .inl f_letters)), (m_afters, .inl (E.2.1 1, 9, .inl f_aftersz_41)), (m_afterOf, .inl (E.2.1 1, 18, .inl f_afterOfz_42)), (hm, .inr (12, [.ref m_manys, .ref m_reals, .ref m_factsOf, .ref m_possible, .int (nI q_undos), .int (nI q_models), .ref m_tape, .int 0, .int 2, .int 2, .int (nI pl1), .int (nI sp1), .int (nI pl1), .int (nI tk1), .int (nI vl1), .ref m_ends, .ref m_letters, .ref m_actOf, .ref m_whom, .ref m_actMany, .ref m_tokens, .ref m_afters, .ref m_afterOf, .int (nI ct1), .ref m_pile, .ref m_caseMany, .ref m_happen, .ref m_hasIf, .ref m_becomes, .ref m_goneOf, .ref m_heard, .ref m_pairs, .ref m_heaps, .int q_rounds, .int q_heapMany, .ref m_led, .ref m_newAt, .ref m_knowing, .ref m_firsts, .int (nI q_people), .ref m_secrets, .ref m_tried, .ref m_lanes, .ref m_lengths, .ref m_cells]))]) C fp_X12_218 9 rfl rfl rfl rfl rfl dX12_say_139 ?_
                  refine ww_aload_n C dX12_say_142 1 rfl rfl ?_
                  refine ww_get C fg_X12_157 9 rfl rfl dX12_say_143 ?_
                  refine ww_if_le_f (tgt := 157) C dX12_say_146 (by decide) (by decide) ?_
                  refine ww_bipush (v := (-10)) C dX12_say_149 rfl ?_
                  refine ww_aload_n C dX12_say_151 1 rfl rfl ?_
                  refine ww_get C fg_X12_163 9 rfl rfl dX12_say_152 ?_
                  obtain ⟨x_98, ex_98⟩ : ∃ z : Int32, ((-10) : Int32) - (nI pl1) = z := ⟨_, rfl⟩
                  refine ww_isub (v := x_98) C dX12_say_155 ex_98 ?_
                  exact ww_iret (u := [(hm, .inr (12, [.ref m_manys, .ref m_reals, .ref m_factsOf, .ref m_possible, .int (nI q_undos), .int (nI q_models), .ref m_tape, .int 0, .int 2, .int 2, .int (nI pl1), .int (nI sp1), .int (nI pl1), .int (nI tk1), .int (nI vl1), .ref m_ends, .ref m_letters, .ref m_actOf, .ref m_whom, .ref m_actMany, .ref m_tokens, .ref m_afters, .ref m_afterOf, .int (nI ct1), .ref m_pile, .ref m_caseMany, .ref m_happen, .ref m_hasIf, .ref m_becomes, .ref m_goneOf, .ref m_heard, .ref m_pairs, .ref m_heaps, .int q_rounds, .int q_heapMany, .ref m_led, .ref m_newAt, .ref m_knowing, .ref m_firsts, .int (nI q_people), .ref m_secrets, .ref m_tried, .ref m_lanes, .ref m_lengths, .ref m_cells])), (m_tape, .inl (E.2.1 1, 160, .inl f_tape)), (m_ends, .inl (E.2.1 1, 15, .inl f_ends)), (m_letters, .inl (E.2.1 1, 50, .inl f_letters)), (m_actMany, .inl (E.2.1 1, 25, .inl g_am)), (m_actOf, .inl (E.2.1 1, 800, .inl g_ac)), (m_whom, .inl (E.2.1 1, 800, .inl g_wh)), (m_tokens, .inl (E.2.1 1, 9, .inl f_tokens)), (m_afters, .inl (E.2.1 1, 9, .inl f_aftersz_41)), (m_afterOf, .inl (E.2.1 1, 18, .inl f_afterOfz_42))]) C hT [9, 4, 5, 6, 0, 1, 2, 3, 7, 8] rfl rfl rfl rfl dX12_say_156 (Or.inr ⟨2, 2, (nI pl1), (nI sp1), (nI pl1), (nI ct1), tk1, vl1, g_am, g_ac, g_wh, f_tokens, f_aftersz_41, f_afterOfz_42, rfl, hnb_m_actMany_55, h_47, h_48, (SV.keep hsv hko hkm), (by omega), (by omega), (by omega), (by omega)⟩)
                · refine an1 hw ?_
                  clear hw
                  intro he_97 hw
                  have h_96 := hw
                  clear hw
                  subst he_97
                  omega
          · have zc_51 : ((wr1 : Nat) : Int) = 0 := i_eq (nI_toInt (n := wr1) (by omega)) rfl c_51
            refine ww_iload_n C dX12_say_62 0 rfl rfl ?_
            refine ww_if_le (tgt := 110) C dX12_say_63 (by decide) (fun c_99 => ?_) (fun c_99 => ?_)
            · have zc_99 : ((op1 : Nat) : Int) ≤ 0 := i_le (nI_toInt (n := op1) (by omega)) rfl c_99
              refine ww_aload_n C dX12_say_110 1 rfl rfl ?_
              refine ww_get C fg_X12_157 4 rfl rfl dX12_say_111 ?_
              refine ww_if_ne (tgt := 129) C dX12_say_114 (by decide) (fun c_100 => ?_) (fun c_100 => ?_)
              · have zc_100 : ((wr1 : Nat) : Int) ≠ 0 := i_ne (nI_toInt (n := wr1) (by omega)) rfl c_100
                omega
              · have zc_100 : ((wr1 : Nat) : Int) = 0 := i_eq (nI_toInt (n := wr1) (by omega)) rfl c_100
                refine ww_aload_n C dX12_say_117 1 rfl rfl ?_
                refine ww_get C fg_X12_175 4 rfl rfl dX12_say_118 ?_
                refine ww_if_eq (tgt := 129) C dX12_say_121 (by decide) (fun c_101 => ?_) (fun c_101 => ?_)
                · have zc_101 : ((tk1 : Nat) : Int) = 0 := i_eq (nI_toInt (n := tk1) (by omega)) rfl c_101
                  refine ww_aload_n C dX12_say_129 1 rfl rfl ?_
                  refine ww_iconst (v := 0) C dX12_say_130 rfl ?_
                  refine ww_put (ws' := [(m_actMany, .inl (E.2.1 1, 25, .inl g_am)), (m_actOf, .inl (E.2.1 1, 800, .inl g_ac)), (m_whom, .inl (E.2.1 1, 800, .inl g_wh)), (m_tokens, .inl (E.2.1 1, 9, .inl f_tokens)), (hm, .inr (12, [.ref m_manys, .ref m_reals, .ref m_factsOf, .ref m_possible, .int (nI q_undos), .int (nI q_models), .ref m_tape, .int 0, .int q_fault, .int (nI wr1), .int wa1, .int (nI sp1), .int (nI pl1), .int (nI tk1), .int (nI vl1), .ref m_ends, .ref m_letters, .ref m_actOf, .ref m_whom, .ref m_actMany, .ref m_tokens, .ref m_afters, .ref m_afterOf, .int (nI ct1), .ref m_pile, .ref m_caseMany, .ref m_happen, .ref m_hasIf, .ref m_becomes, .ref m_goneOf, .ref m_heard, .ref m_pairs, .ref m_heaps, .int q_rounds, .int q_heapMany, .ref m_led, .ref m_newAt, .ref m_knowing, .ref m_firsts, .int (nI q_people), .ref m_secrets, .ref m_tried, .ref m_lanes, .ref m_lengths, .ref m_cells])), (m_tape, .inl (E.2.1 1, 160, .inl f_tape)), (m_ends, .inl (E.2.1 1, 15, .inl f_ends)), (m_letters, .inl (E.2.1 1, 50, .inl f_letters)), (m_afters, .inl (E.2.1 1, 9, .inl f_aftersz_41)), (m_afterOf, .inl (E.2.1 1, 18, .inl f_afterOfz_42))]) C fp_X12_154 4 rfl rfl rfl rfl rfl dX12_say_131 ?_
                  refine ww_aload_n C dX12_say_134 1 rfl rfl ?_
                  refine ww_aload_n C dX12_say_135 1 rfl rfl ?_
                  refine ww_get C fg_X12_157 4 rfl rfl dX12_say_136 ?_
                  refine ww_put (ws' := [(m_actMany, .inl (E.2.1 1, 25, .inl g_am)), (m_actOf, .inl (E.2.1 1, 800, .inl g_ac)), (m_whom, .inl (E.2.1 1, 800, .inl g_wh)), (m_tokens, .inl (E.2.1 1, 9, .inl f_tokens)), (hm, .inr (12, [.ref m_manys, .ref m_reals, .ref m_factsOf, .ref m_possible, .int (nI q_undos), .int (nI q_models), .ref m_tape, .int 0, .int (nI wr1), .int (nI wr1), .int wa1, .int (nI sp1), .int (nI pl1), .int (nI tk1), .int (nI vl1), .ref m_ends, .ref m_letters, .ref m_actOf, .ref m_whom, .ref m_actMany, .ref m_tokens, .ref m_afters, .ref m_afterOf, .int (nI ct1), .ref m_pile, .ref m_caseMany, .ref m_happen, .ref m_hasIf, .ref m_becomes, .ref m_goneOf, .ref m_heard, .ref m_pairs, .ref m_heaps, .int q_rounds, .int q_heapMany, .ref m_led, .ref m_newAt, .ref m_knowing, .ref m_firsts, .int (nI q_people), .ref m_secrets, .ref m_tried, .ref m_lanes, .ref m_lengths, .ref m_cells])), (m_tape, .inl (E.2.1 1, 160, .inl f_tape)), (m_ends, .inl (E.2.1 1, 15, .inl f_ends)), (m_letters, .inl (E.2.1 1, 50, .inl f_letters)), (m_afters, .inl (E.2.1 1, 9, .inl f_aftersz_41)), (m_afterOf, .inl (E.2.1 1, 18, .inl f_afterOfz_42))]) C fp_X12_218 4 rfl rfl rfl rfl rfl dX12_say_139 ?_
                  refine ww_aload_n C dX12_say_142 1 rfl rfl ?_
                  refine ww_get C fg_X12_157 4 rfl rfl dX12_say_143 ?_
                  refine ww_if_le (tgt := 157) C dX12_say_146 (by decide) (fun c_102 => ?_) (fun c_102 => ?_)
                  · have zc_102 : ((wr1 : Nat) : Int) ≤ 0 := i_le (nI_toInt (n := wr1) (by omega)) rfl c_102
                    obtain ⟨j_103, hj_103, rfl⟩ := i_nat (x := v0) (N := 7) (by omega) (by omega)
                    have hzj_103 := nI_toInt (n := j_103) (by omega)
                    have hw0 : wr1 = 0 := by omega
                    obtain ⟨hop_1, hop_2, hop_3, hop_4⟩ := hop hw0
                    have hsv2 := SV.keep hsv hko hkm
                    have hop0 : opr (slot g_ac 24) (cN g_am 24) = 0 := by omega
                    refine ww_aload_n C dX12_say_157 1 rfl rfl ?_
                    refine ww_bipush (v := 24) C dX12_say_158 rfl ?_
                    refine ww_iload_n C dX12_say_160 2 rfl rfl ?_
                    refine ww_cv (wr := [(m_tokens, .inl (E.2.1 1, 9, .inl f_tokens)), (m_tape, .inl (E.2.1 1, 160, .inl f_tape)), (m_ends, .inl (E.2.1 1, 15, .inl f_ends)), (m_letters, .inl (E.2.1 1, 50, .inl f_letters)), (m_afters, .inl (E.2.1 1, 9, .inl f_aftersz_41)), (m_afterOf, .inl (E.2.1 1, 18, .inl f_afterOfz_42))]) (k' := 0) (n' := 0) C (run_V (As := [.int 24, .int (nI j_103)]) (rest := []) C (r_copyActs X.2.1 E ro hm 24 j_103 m_manys m_reals m_factsOf m_possible q_undos q_models m_tape 0 (nI wr1) (nI wr1) wa1 (nI sp1) (nI pl1) (nI tk1) (nI vl1) m_ends m_letters m_actOf m_whom m_actMany m_tokens m_afters m_afterOf (nI ct1) m_pile m_caseMany m_happen m_hasIf m_becomes m_goneOf m_heard m_pairs m_heaps q_rounds q_heapMany m_led m_newAt m_knowing m_firsts q_people m_secrets m_tried m_lanes m_lengths m_cells g_am g_ac g_wh hnb_m_actMany_55 hsv2 (by omega) (by omega) ⟨by omega, hop_1, Or.inr hop0⟩) mi_X12_copyActs wl_X12_221 rfl 0 12 rfl rfl rfl rfl rfl dX12_say_161) (roK hro) [4, 0, 1, 2] [3, 5, 6, 7, 8, 9] rfl rfl rfl rfl (fun uz hw => ?_)
                    refine ex3 hw ?_
                    clear hw
                    intro f_actManyz_105 f_actOfz_106 f_whomz_107 hw
                    refine an5 hw ?_
                    clear hw
                    intro he_113 h_108 h_109 h_110 h_111 hw
                    have h_112 := hw
                    clear hw
                    subst he_113
                    refine ww_eq (ws' := [(m_tokens, .inl (E.2.1 1, 9, .inl f_tokens)), (m_tape, .inl (E.2.1 1, 160, .inl f_tape)), (m_ends, .inl (E.2.1 1, 15, .inl f_ends)), (m_letters, .inl (E.2.1 1, 50, .inl f_letters)), (m_afters, .inl (E.2.1 1, 9, .inl f_aftersz_41)), (m_afterOf, .inl (E.2.1 1, 18, .inl f_afterOfz_42)), (hm, .inr (12, [.ref m_manys, .ref m_reals, .ref m_factsOf, .ref m_possible, .int (nI q_undos), .int (nI q_models), .ref m_tape, .int 0, .int (nI wr1), .int (nI wr1), .int wa1, .int (nI sp1), .int (nI pl1), .int (nI tk1), .int (nI vl1), .ref m_ends, .ref m_letters, .ref m_actOf, .ref m_whom, .ref m_actMany, .ref m_tokens, .ref m_afters, .ref m_afterOf, .int (nI ct1), .ref m_pile, .ref m_caseMany, .ref m_happen, .ref m_hasIf, .ref m_becomes, .ref m_goneOf, .ref m_heard, .ref m_pairs, .ref m_heaps, .int q_rounds, .int q_heapMany, .ref m_led, .ref m_newAt, .ref m_knowing, .ref m_firsts, .int (nI q_people), .ref m_secrets, .ref m_tried, .ref m_lanes, .ref m_lengths, .ref m_cells])), (m_actMany, .inl (E.2.1 1, 25, .inl f_actManyz_105)), (m_actOf, .inl (E.2.1 1, 800, .inl f_actOfz_106)), (m_whom, .inl (E.2.1 1, 800, .inl f_whomz_107))]) ?_ rfl rfl rfl
                    refine ww_aload_n C dX12_say_164 1 rfl rfl ?_
                    refine ww_get C fg_X12_40 6 rfl rfl dX12_say_165 ?_
                    refine ww_iload_n C dX12_say_168 2 rfl rfl ?_
                    refine ww_aload_n C dX12_say_169 1 rfl rfl ?_
                    refine ww_get C fg_X12_191 6 rfl rfl dX12_say_170 ?_
                    obtain ⟨f_114, ef_114⟩ : ∃ z : Nat → Int32, upd f_tokens j_103 (nI ct1) = z := ⟨_, rfl⟩
                    refine ww_iast (ws' := [(m_tokens, .inl (E.2.1 1, 9, .inl f_114)), (m_tape, .inl (E.2.1 1, 160, .inl f_tape)), (m_ends, .inl (E.2.1 1, 15, .inl f_ends)), (m_letters, .inl (E.2.1 1, 50, .inl f_letters)), (m_afters, .inl (E.2.1 1, 9, .inl f_aftersz_41)), (m_afterOf, .inl (E.2.1 1, 18, .inl f_afterOfz_42)), (hm, .inr (12, [.ref m_manys, .ref m_reals, .ref m_factsOf, .ref m_possible, .int (nI q_undos), .int (nI q_models), .ref m_tape, .int 0, .int (nI wr1), .int (nI wr1), .int wa1, .int (nI sp1), .int (nI pl1), .int (nI tk1), .int (nI vl1), .ref m_ends, .ref m_letters, .ref m_actOf, .ref m_whom, .ref m_actMany, .ref m_tokens, .ref m_afters, .ref m_afterOf, .int (nI ct1), .ref m_pile, .ref m_caseMany, .ref m_happen, .ref m_hasIf, .ref m_becomes, .ref m_goneOf, .ref m_heard, .ref m_pairs, .ref m_heaps, .int q_rounds, .int q_heapMany, .ref m_led, .ref m_newAt, .ref m_knowing, .ref m_firsts, .int (nI q_people), .ref m_secrets, .ref m_tried, .ref m_lanes, .ref m_lengths, .ref m_cells])), (m_actMany, .inl (E.2.1 1, 25, .inl f_actManyz_105)), (m_actOf, .inl (E.2.1 1, 800, .inl f_actOfz_106)), (m_whom, .inl (E.2.1 1, 800, .inl f_whomz_107))]) C 0 rfl (vp_in_nI (by omega) (by omega)) (ldn2 (by omega) ef_114) rfl dX12_say_173 ?_
                    refine ww_aload_n C dX12_say_174 1 rfl rfl ?_
                    refine ww_get C fg_X12_43 6 rfl rfl dX12_say_175 ?_
                    refine ww_iload_n C dX12_say_178 2 rfl rfl ?_
                    refine ww_aload_n C dX12_say_179 1 rfl rfl ?_
                    refine ww_get C fg_X12_43 6 rfl rfl dX12_say_180 ?_
                    refine ww_bipush (v := 8) C dX12_say_183 rfl ?_
                    have hbx_115 := (h_47 8 (by omega)).2
                    refine ww_iald (v := (nI (cN f_aftersz_41 8))) C 4 rfl (vin rfl) (h_47 8 (by omega)).1 dX12_say_185 ?_
                    obtain ⟨f_116, ef_116⟩ : ∃ z : Nat → Int32, upd f_aftersz_41 j_103 (nI (cN f_aftersz_41 8)) = z := ⟨_, rfl⟩
                    refine ww_iast (ws' := [(m_tokens, .inl (E.2.1 1, 9, .inl f_114)), (m_tape, .inl (E.2.1 1, 160, .inl f_tape)), (m_ends, .inl (E.2.1 1, 15, .inl f_ends)), (m_letters, .inl (E.2.1 1, 50, .inl f_letters)), (m_afters, .inl (E.2.1 1, 9, .inl f_116)), (m_afterOf, .inl (E.2.1 1, 18, .inl f_afterOfz_42)), (hm, .inr (12, [.ref m_manys, .ref m_reals, .ref m_factsOf, .ref m_possible, .int (nI q_undos), .int (nI q_models), .ref m_tape, .int 0, .int (nI wr1), .int (nI wr1), .int wa1, .int (nI sp1), .int (nI pl1), .int (nI tk1), .int (nI vl1), .ref m_ends, .ref m_letters, .ref m_actOf, .ref m_whom, .ref m_actMany, .ref m_tokens, .ref m_afters, .ref m_afterOf, .int (nI ct1), .ref m_pile, .ref m_caseMany, .ref m_happen, .ref m_hasIf, .ref m_becomes, .ref m_goneOf, .ref m_heard, .ref m_pairs, .ref m_heaps, .int q_rounds, .int q_heapMany, .ref m_led, .ref m_newAt, .ref m_knowing, .ref m_firsts, .int (nI q_people), .ref m_secrets, .ref m_tried, .ref m_lanes, .ref m_lengths, .ref m_cells])), (m_actMany, .inl (E.2.1 1, 25, .inl f_actManyz_105)), (m_actOf, .inl (E.2.1 1, 800, .inl f_actOfz_106)), (m_whom, .inl (E.2.1 1, 800, .inl f_whomz_107))]) C 4 rfl (vp_in_nI (by omega) (by omega)) (ldn2 (by omega) ef_116) rfl dX12_say_186 ?_
                    refine ww_aload_n C dX12_say_187 1 rfl rfl ?_
                    refine ww_get C fg_X12_46 6 rfl rfl dX12_say_188 ?_
                    refine ww_iconst (v := 2) C dX12_say_191 rfl ?_
                    refine ww_iload_n C dX12_say_192 2 rfl rfl ?_
                    refine ww_imul (v := (nI (2 * j_103))) C dX12_say_193 (pk_mul 2 j_103) ?_
                    refine ww_aload_n C dX12_say_194 1 rfl rfl ?_
                    refine ww_get C fg_X12_46 6 rfl rfl dX12_say_195 ?_
                    refine ww_bipush (v := 16) C dX12_say_198 rfl ?_
                    have hbx_117 := (h_48 16 (by omega)).2
                    refine ww_iald (v := (nI (cN f_afterOfz_42 16))) C 5 rfl (vin rfl) (h_48 16 (by omega)).1 dX12_say_200 ?_
                    obtain ⟨f_118, ef_118⟩ : ∃ z : Nat → Int32, upd f_afterOfz_42 (2 * j_103) (nI (cN f_afterOfz_42 16)) = z := ⟨_, rfl⟩
                    refine ww_iast (ws' := [(m_tokens, .inl (E.2.1 1, 9, .inl f_114)), (m_tape, .inl (E.2.1 1, 160, .inl f_tape)), (m_ends, .inl (E.2.1 1, 15, .inl f_ends)), (m_letters, .inl (E.2.1 1, 50, .inl f_letters)), (m_afters, .inl (E.2.1 1, 9, .inl f_116)), (m_afterOf, .inl (E.2.1 1, 18, .inl f_118)), (hm, .inr (12, [.ref m_manys, .ref m_reals, .ref m_factsOf, .ref m_possible, .int (nI q_undos), .int (nI q_models), .ref m_tape, .int 0, .int (nI wr1), .int (nI wr1), .int wa1, .int (nI sp1), .int (nI pl1), .int (nI tk1), .int (nI vl1), .ref m_ends, .ref m_letters, .ref m_actOf, .ref m_whom, .ref m_actMany, .ref m_tokens, .ref m_afters, .ref m_afterOf, .int (nI ct1), .ref m_pile, .ref m_caseMany, .ref m_happen, .ref m_hasIf, .ref m_becomes, .ref m_goneOf, .ref m_heard, .ref m_pairs, .ref m_heaps, .int q_rounds, .int q_heapMany, .ref m_led, .ref m_newAt, .ref m_knowing, .ref m_firsts, .int (nI q_people), .ref m_secrets, .ref m_tried, .ref m_lanes, .ref m_lengths, .ref m_cells])), (m_actMany, .inl (E.2.1 1, 25, .inl f_actManyz_105)), (m_actOf, .inl (E.2.1 1, 800, .inl f_actOfz_106)), (m_whom, .inl (E.2.1 1, 800, .inl f_whomz_107))]) C 5 rfl (vp_in_nI (by omega) (by omega)) (ldn2 (by omega) ef_118) rfl dX12_say_201 ?_
                    refine ww_aload_n C dX12_say_202 1 rfl rfl ?_
                    refine ww_get C fg_X12_46 6 rfl rfl dX12_say_203 ?_
                    refine ww_iconst (v := 2) C dX12_say_206 rfl ?_
                    refine ww_iload_n C dX12_say_207 2 rfl rfl ?_
                    refine ww_imul (v := (nI (2 * j_103))) C dX12_say_208 (pk_mul 2 j_103) ?_
                    refine ww_iconst (v := 1) C dX12_say_209 rfl ?_
                    refine ww_iadd (v := (nI ((2 * j_103) + 1))) C dX12_say_210 (nI_add (2 * j_103) 1) ?_
                    refine ww_aload_n C dX12_say_211 1 rfl rfl ?_
                    refine ww_get C fg_X12_46 6 rfl rfl dX12_say_212 ?_
                    refine ww_bipush (v := 17) C dX12_say_215 rfl ?_
                    have hbx_119 := ((NB.put h_48 (t := cN f_afterOfz_42 16) (by omega) (by decide) ef_118) 17 (by omega)).2
                    refine ww_iald (v := (nI (cN f_118 17))) C 5 rfl (vin rfl) ((NB.put h_48 (t := cN f_afterOfz_42 16) (by omega) (by decide) ef_118) 17 (by omega)).1 dX12_say_217 ?_
                    obtain ⟨f_120, ef_120⟩ : ∃ z : Nat → Int32, upd f_118 ((2 * j_103) + 1) (nI (cN f_118 17)) = z := ⟨_, rfl⟩
                    refine ww_iast (ws' := [(m_tokens, .inl (E.2.1 1, 9, .inl f_114)), (m_tape, .inl (E.2.1 1, 160, .inl f_tape)), (m_ends, .inl (E.2.1 1, 15, .inl f_ends)), (m_letters, .inl (E.2.1 1, 50, .inl f_letters)), (m_afters, .inl (E.2.1 1, 9, .inl f_116)), (m_afterOf, .inl (E.2.1 1, 18, .inl f_120)), (hm, .inr (12, [.ref m_manys, .ref m_reals, .ref m_factsOf, .ref m_possible, .int (nI q_undos), .int (nI q_models), .ref m_tape, .int 0, .int (nI wr1), .int (nI wr1), .int wa1, .int (nI sp1), .int (nI pl1), .int (nI tk1), .int (nI vl1), .ref m_ends, .ref m_letters, .ref m_actOf, .ref m_whom, .ref m_actMany, .ref m_tokens, .ref m_afters, .ref m_afterOf, .int (nI ct1), .ref m_pile, .ref m_caseMany, .ref m_happen, .ref m_hasIf, .ref m_becomes, .ref m_goneOf, .ref m_heard, .ref m_pairs, .ref m_heaps, .int q_rounds, .int q_heapMany, .ref m_led, .ref m_newAt, .ref m_knowing, .ref m_firsts, .int (nI q_people), .ref m_secrets, .ref m_tried, .ref m_lanes, .ref m_lengths, .ref m_cells])), (m_actMany, .inl (E.2.1 1, 25, .inl f_actManyz_105)), (m_actOf, .inl (E.2.1 1, 800, .inl f_actOfz_106)), (m_whom, .inl (E.2.1 1, 800, .inl f_whomz_107))]) C 5 rfl (vp_in_nI (by omega) (by omega)) (ldn2 (by omega) ef_120) rfl dX12_say_218 ?_
                    refine ww_aload_n C dX12_say_219 1 rfl rfl ?_
                    refine ww_get C fg_X12_191 6 rfl rfl dX12_say_220 ?_
                    exact ww_iret (u := [(hm, .inr (12, [.ref m_manys, .ref m_reals, .ref m_factsOf, .ref m_possible, .int (nI q_undos), .int (nI q_models), .ref m_tape, .int 0, .int (nI wr1), .int (nI wr1), .int wa1, .int (nI sp1), .int (nI pl1), .int (nI tk1), .int (nI vl1), .ref m_ends, .ref m_letters, .ref m_actOf, .ref m_whom, .ref m_actMany, .ref m_tokens, .ref m_afters, .ref m_afterOf, .int (nI ct1), .ref m_pile, .ref m_caseMany, .ref m_happen, .ref m_hasIf, .ref m_becomes, .ref m_goneOf, .ref m_heard, .ref m_pairs, .ref m_heaps, .int q_rounds, .int q_heapMany, .ref m_led, .ref m_newAt, .ref m_knowing, .ref m_firsts, .int (nI q_people), .ref m_secrets, .ref m_tried, .ref m_lanes, .ref m_lengths, .ref m_cells])), (m_tape, .inl (E.2.1 1, 160, .inl f_tape)), (m_ends, .inl (E.2.1 1, 15, .inl f_ends)), (m_letters, .inl (E.2.1 1, 50, .inl f_letters)), (m_actMany, .inl (E.2.1 1, 25, .inl f_actManyz_105)), (m_actOf, .inl (E.2.1 1, 800, .inl f_actOfz_106)), (m_whom, .inl (E.2.1 1, 800, .inl f_whomz_107)), (m_tokens, .inl (E.2.1 1, 9, .inl f_114)), (m_afters, .inl (E.2.1 1, 9, .inl f_116)), (m_afterOf, .inl (E.2.1 1, 18, .inl f_120))]) C hT [6, 1, 2, 3, 7, 8, 9, 0, 4, 5] rfl rfl rfl rfl dX12_say_223 (Or.inr ⟨(nI wr1), (nI wr1), wa1, (nI sp1), (nI pl1), (nI ct1), tk1, vl1, f_actManyz_105, f_actOfz_106, f_whomz_107, f_114, f_116, f_120, rfl, h_108, (NB.put h_47 (t := cN f_aftersz_41 8) (by omega) (by decide) ef_116), (NB.put (NB.put h_48 (t := cN f_afterOfz_42 16) (by omega) (by decide) ef_118) (t := cN f_118 17) (by omega) (by decide) ef_120), h_109, (by omega), (by omega), (by omega), (by omega)⟩)
                  · have zc_102 : ((wr1 : Nat) : Int) > 0 := i_nle (nI_toInt (n := wr1) (by omega)) rfl c_102
                    omega
                · have zc_101 : ((tk1 : Nat) : Int) ≠ 0 := i_ne (nI_toInt (n := tk1) (by omega)) rfl c_101
                  refine ww_aload_n C dX12_say_124 1 rfl rfl ?_
                  refine ww_iconst (v := 2) C dX12_say_125 rfl ?_
                  refine ww_cv (wr := [(m_actMany, .inl (E.2.1 1, 25, .inl g_am)), (m_actOf, .inl (E.2.1 1, 800, .inl g_ac)), (m_whom, .inl (E.2.1 1, 800, .inl g_wh)), (m_tokens, .inl (E.2.1 1, 9, .inl f_tokens)), (m_tape, .inl (E.2.1 1, 160, .inl f_tape)), (m_ends, .inl (E.2.1 1, 15, .inl f_ends)), (m_letters, .inl (E.2.1 1, 50, .inl f_letters)), (m_afters, .inl (E.2.1 1, 9, .inl f_aftersz_41)), (m_afterOf, .inl (E.2.1 1, 18, .inl f_afterOfz_42))]) (k' := 0) (n' := 0) C (run_V (As := [.int 2]) (rest := []) C (r_fails X.2.1 E ro hm 2 m_manys m_reals m_factsOf m_possible q_undos q_models m_tape q_taped q_fault wr1 wa1 (nI sp1) (nI pl1) (nI tk1) (nI vl1) m_ends m_letters m_actOf m_whom m_actMany m_tokens m_afters m_afterOf (nI ct1) m_pile m_caseMany m_happen m_hasIf m_becomes m_goneOf m_heard m_pairs m_heaps q_rounds q_heapMany m_led m_newAt m_knowing m_firsts q_people m_secrets m_tried m_lanes m_lengths m_cells (by omega)) mi_X12_fails wl_X12_186 rfl 0 12 rfl rfl rfl rfl rfl dX12_say_126) (roK hro) [4] [0, 1, 2, 3, 5, 6, 7, 8, 9] rfl rfl rfl rfl (fun uz hw => ?_)
                  rcases hw with hw | hw
                  · refine an1 hw ?_
                    clear hw
                    intro he_123 hw
                    have h_122 := hw
                    clear hw
                    subst he_123
                    refine ww_eq (ws' := [(m_actMany, .inl (E.2.1 1, 25, .inl g_am)), (m_actOf, .inl (E.2.1 1, 800, .inl g_ac)), (m_whom, .inl (E.2.1 1, 800, .inl g_wh)), (m_tokens, .inl (E.2.1 1, 9, .inl f_tokens)), (m_tape, .inl (E.2.1 1, 160, .inl f_tape)), (m_ends, .inl (E.2.1 1, 15, .inl f_ends)), (m_letters, .inl (E.2.1 1, 50, .inl f_letters)), (m_afters, .inl (E.2.1 1, 9, .inl f_aftersz_41)), (m_afterOf, .inl (E.2.1 1, 18, .inl f_afterOfz_42)), (hm, .inr (12, [.ref m_manys, .ref m_reals, .ref m_factsOf, .ref m_possible, .int (nI q_undos), .int (nI q_models), .ref m_tape, .int (nI q_taped), .int q_fault, .int 2, .int (nI pl1), .int (nI sp1), .int (nI pl1), .int (nI tk1), .int (nI vl1), .ref m_ends, .ref m_letters, .ref m_actOf, .ref m_whom, .ref m_actMany, .ref m_tokens, .ref m_afters, .ref m_afterOf, .int (nI ct1), .ref m_pile, .ref m_caseMany, .ref m_happen, .ref m_hasIf, .ref m_becomes, .ref m_goneOf, .ref m_heard, .ref m_pairs, .ref m_heaps, .int q_rounds, .int q_heapMany, .ref m_led, .ref m_newAt, .ref m_knowing, .ref m_firsts, .int (nI q_people), .ref m_secrets, .ref m_tried, .ref m_lanes, .ref m_lengths, .ref m_cells]))]) ?_ rfl rfl rfl
                    refine ww_aload_n C dX12_say_129 1 rfl rfl ?_
                    refine ww_iconst (v := 0) C dX12_say_130 rfl ?_
                    refine ww_put (ws' := [(m_actMany, .inl (E.2.1 1, 25, .inl g_am)), (m_actOf, .inl (E.2.1 1, 800, .inl g_ac)), (m_whom, .inl (E.2.1 1, 800, .inl g_wh)), (m_tokens, .inl (E.2.1 1, 9, .inl f_tokens)), (m_tape, .inl (E.2.1 1, 160, .inl f_tape)), (m_ends, .inl (E.2.1 1, 15, .inl f_ends)), (m_letters, .inl (E.2.1 1, 50, .inl f_letters)), (m_afters, .inl (E.2.1 1, 9, .inl f_aftersz_41)), (m_afterOf, .inl (E.2.1 1, 18, .inl f_afterOfz_42)), (hm, .inr (12, [.ref m_manys, .ref m_reals, .ref m_factsOf, .ref m_possible, .int (nI q_undos), .int (nI q_models), .ref m_tape, .int 0, .int q_fault, .int 2, .int (nI pl1), .int (nI sp1), .int (nI pl1), .int (nI tk1), .int (nI vl1), .ref m_ends, .ref m_letters, .ref m_actOf, .ref m_whom, .ref m_actMany, .ref m_tokens, .ref m_afters, .ref m_afterOf, .int (nI ct1), .ref m_pile, .ref m_caseMany, .ref m_happen, .ref m_hasIf, .ref m_becomes, .ref m_goneOf, .ref m_heard, .ref m_pairs, .ref m_heaps, .int q_rounds, .int q_heapMany, .ref m_led, .ref m_newAt, .ref m_knowing, .ref m_firsts, .int (nI q_people), .ref m_secrets, .ref m_tried, .ref m_lanes, .ref m_lengths, .ref m_cells]))]) C fp_X12_154 9 rfl rfl rfl rfl rfl dX12_say_131 ?_
                    refine ww_aload_n C dX12_say_134 1 rfl rfl ?_
                    refine ww_aload_n C dX12_say_135 1 rfl rfl ?_
                    refine ww_get C fg_X12_157 9 rfl rfl dX12_say_136 ?_
                    refine ww_put (ws' := [(m_actMany, .inl (E.2.1 1, 25, .inl g_am)), (m_actOf, .inl (E.2.1 1, 800, .inl g_ac)), (m_whom, .inl (E.2.1 1, 800, .inl g_wh)), (m_tokens, .inl (E.2.1 1, 9, .inl f_tokens)), (m_tape, .inl (E.2.1 1, 160, .inl f_tape)), (m_ends, .inl (E.2.1 1, 15, .inl f_ends)), (m_letters, .inl (E.2.1 1, 50, .inl f_letters)), (m_afters, .inl (E.2.1 1, 9, .inl f_aftersz_41)), (m_afterOf, .inl (E.2.1 1, 18, .inl f_afterOfz_42)), (hm, .inr (12, [.ref m_manys, .ref m_reals, .ref m_factsOf, .ref m_possible, .int (nI q_undos), .int (nI q_models), .ref m_tape, .int 0, .int 2, .int 2, .int (nI pl1), .int (nI sp1), .int (nI pl1), .int (nI tk1), .int (nI vl1), .ref m_ends, .ref m_letters, .ref m_actOf, .ref m_whom, .ref m_actMany, .ref m_tokens, .ref m_afters, .ref m_afterOf, .int (nI ct1), .ref m_pile, .ref m_caseMany, .ref m_happen, .ref m_hasIf, .ref m_becomes, .ref m_goneOf, .ref m_heard, .ref m_pairs, .ref m_heaps, .int q_rounds, .int q_heapMany, .ref m_led, .ref m_newAt, .ref m_knowing, .ref m_firsts, .int (nI q_people), .ref m_secrets, .ref m_tried, .ref m_lanes, .ref m_lengths, .ref m_cells]))]) C fp_X12_218 9 rfl rfl rfl rfl rfl dX12_say_139 ?_
                    refine ww_aload_n C dX12_say_142 1 rfl rfl ?_
                    refine ww_get C fg_X12_157 9 rfl rfl dX12_say_143 ?_
                    refine ww_if_le_f (tgt := 157) C dX12_say_146 (by decide) (by decide) ?_
                    refine ww_bipush (v := (-10)) C dX12_say_149 rfl ?_
                    refine ww_aload_n C dX12_say_151 1 rfl rfl ?_
                    refine ww_get C fg_X12_163 9 rfl rfl dX12_say_152 ?_
                    obtain ⟨x_126, ex_126⟩ : ∃ z : Int32, ((-10) : Int32) - (nI pl1) = z := ⟨_, rfl⟩
                    refine ww_isub (v := x_126) C dX12_say_155 ex_126 ?_
                    exact ww_iret (u := [(hm, .inr (12, [.ref m_manys, .ref m_reals, .ref m_factsOf, .ref m_possible, .int (nI q_undos), .int (nI q_models), .ref m_tape, .int 0, .int 2, .int 2, .int (nI pl1), .int (nI sp1), .int (nI pl1), .int (nI tk1), .int (nI vl1), .ref m_ends, .ref m_letters, .ref m_actOf, .ref m_whom, .ref m_actMany, .ref m_tokens, .ref m_afters, .ref m_afterOf, .int (nI ct1), .ref m_pile, .ref m_caseMany, .ref m_happen, .ref m_hasIf, .ref m_becomes, .ref m_goneOf, .ref m_heard, .ref m_pairs, .ref m_heaps, .int q_rounds, .int q_heapMany, .ref m_led, .ref m_newAt, .ref m_knowing, .ref m_firsts, .int (nI q_people), .ref m_secrets, .ref m_tried, .ref m_lanes, .ref m_lengths, .ref m_cells])), (m_tape, .inl (E.2.1 1, 160, .inl f_tape)), (m_ends, .inl (E.2.1 1, 15, .inl f_ends)), (m_letters, .inl (E.2.1 1, 50, .inl f_letters)), (m_actMany, .inl (E.2.1 1, 25, .inl g_am)), (m_actOf, .inl (E.2.1 1, 800, .inl g_ac)), (m_whom, .inl (E.2.1 1, 800, .inl g_wh)), (m_tokens, .inl (E.2.1 1, 9, .inl f_tokens)), (m_afters, .inl (E.2.1 1, 9, .inl f_aftersz_41)), (m_afterOf, .inl (E.2.1 1, 18, .inl f_afterOfz_42))]) C hT [9, 4, 5, 6, 0, 1, 2, 3, 7, 8] rfl rfl rfl rfl dX12_say_156 (Or.inr ⟨2, 2, (nI pl1), (nI sp1), (nI pl1), (nI ct1), tk1, vl1, g_am, g_ac, g_wh, f_tokens, f_aftersz_41, f_afterOfz_42, rfl, hnb_m_actMany_55, h_47, h_48, (SV.keep hsv hko hkm), (by omega), (by omega), (by omega), (by omega)⟩)
                  · refine an1 hw ?_
                    clear hw
                    intro he_125 hw
                    have h_124 := hw
                    clear hw
                    subst he_125
                    omega
            · have zc_99 : ((op1 : Nat) : Int) > 0 := i_nle (nI_toInt (n := op1) (by omega)) rfl c_99
              have hw0 : wr1 = 0 := by omega
              subst hw0
              obtain ⟨hop_1, hop_2, hop_3, hop_4⟩ := hop rfl
              refine ww_eq (ws' := [(m_actMany, .inl (E.2.1 1, 25, .inl g_am)), (m_actOf, .inl (E.2.1 1, 800, .inl g_ac)), (m_whom, .inl (E.2.1 1, 800, .inl g_wh)), (m_tokens, .inl (E.2.1 1, 9, .inl f_tokens)), (hm, .inr (12, [.ref m_manys, .ref m_reals, .ref m_factsOf, .ref m_possible, .int (nI q_undos), .int (nI q_models), .ref m_tape, .int (nI q_taped), .int q_fault, .int 0, .int wa1, .int (nI sp1), .int (nI pl1), .int (nI tk1), .int (nI vl1), .ref m_ends, .ref m_letters, .ref m_actOf, .ref m_whom, .ref m_actMany, .ref m_tokens, .ref m_afters, .ref m_afterOf, .int (nI ct1), .ref m_pile, .ref m_caseMany, .ref m_happen, .ref m_hasIf, .ref m_becomes, .ref m_goneOf, .ref m_heard, .ref m_pairs, .ref m_heaps, .int q_rounds, .int q_heapMany, .ref m_led, .ref m_newAt, .ref m_knowing, .ref m_firsts, .int (nI q_people), .ref m_secrets, .ref m_tried, .ref m_lanes, .ref m_lengths, .ref m_cells])), (m_tape, .inl (E.2.1 1, 160, .inl f_tape)), (m_ends, .inl (E.2.1 1, 15, .inl f_ends)), (m_letters, .inl (E.2.1 1, 50, .inl f_letters)), (m_afters, .inl (E.2.1 1, 9, .inl f_aftersz_41)), (m_afterOf, .inl (E.2.1 1, 18, .inl f_afterOfz_42))]) ?_ rfl rfl rfl
              refine ww_aload_n C dX12_say_66 1 rfl rfl ?_
              refine ww_cv (wr := [(m_tokens, .inl (E.2.1 1, 9, .inl f_tokens)), (m_afters, .inl (E.2.1 1, 9, .inl f_aftersz_41)), (m_afterOf, .inl (E.2.1 1, 18, .inl f_afterOfz_42))]) (k' := 0) (n' := 0) C (run_V (As := []) (rest := []) C (r_readAct X.2.1 E ro hm m_manys m_reals m_factsOf m_possible q_undos q_models m_tape q_taped q_fault wa1 sp1 pl1 tk1 vl1 m_ends m_letters m_actOf m_whom m_actMany m_tokens m_afters m_afterOf ct1 m_pile m_caseMany m_happen m_hasIf m_becomes m_goneOf m_heard m_pairs m_heaps q_rounds q_heapMany m_led m_newAt m_knowing m_firsts q_people m_secrets m_tried m_lanes m_lengths m_cells f_tape f_ends f_letters g_am g_ac g_wh hb_ends hnb_m_actMany_55 (by omega) (by omega) (by omega) (by omega) (by omega) (by omega) (by omega)) mi_X12_readAct wl_X12_212 rfl 0 12 rfl rfl rfl rfl rfl dX12_say_67) (roK hro) [4, 5, 6, 7, 0, 1, 2] [3, 8, 9] rfl rfl rfl rfl (fun uz hw => ?_)
              rcases hw with hw | hw
              · refine ex8 hw ?_
                clear hw
                intro sp2_128 pl2_129 tk2_130 vl2_131 ct2_132 ac__133 f_actManyz_134 f_actOfz_135 hw
                refine ex1 hw ?_
                clear hw
                intro f_whomz_136 hw
                refine an8 hw ?_
                clear hw
                intro he_147 h_137 h_138 h_139 h_140 h_141 h_142 h_143 hw
                refine an2 hw ?_
                clear hw
                intro h_144 h_145 hw
                have h_146 := hw
                clear hw
                subst he_147
                refine ww_eq (ws' := [(m_tokens, .inl (E.2.1 1, 9, .inl f_tokens)), (m_afters, .inl (E.2.1 1, 9, .inl f_aftersz_41)), (m_afterOf, .inl (E.2.1 1, 18, .inl f_afterOfz_42)), (hm, .inr (12, [.ref m_manys, .ref m_reals, .ref m_factsOf, .ref m_possible, .int (nI q_undos), .int (nI q_models), .ref m_tape, .int (nI q_taped), .int q_fault, .int 0, .int wa1, .int (nI sp2_128), .int (nI pl2_129), .int (nI tk2_130), .int (nI vl2_131), .ref m_ends, .ref m_letters, .ref m_actOf, .ref m_whom, .ref m_actMany, .ref m_tokens, .ref m_afters, .ref m_afterOf, .int (nI ct2_132), .ref m_pile, .ref m_caseMany, .ref m_happen, .ref m_hasIf, .ref m_becomes, .ref m_goneOf, .ref m_heard, .ref m_pairs, .ref m_heaps, .int q_rounds, .int q_heapMany, .ref m_led, .ref m_newAt, .ref m_knowing, .ref m_firsts, .int (nI q_people), .ref m_secrets, .ref m_tried, .ref m_lanes, .ref m_lengths, .ref m_cells])), (m_tape, .inl (E.2.1 1, 160, .inl f_tape)), (m_ends, .inl (E.2.1 1, 15, .inl f_ends)), (m_letters, .inl (E.2.1 1, 50, .inl f_letters)), (m_actMany, .inl (E.2.1 1, 25, .inl f_actManyz_134)), (m_actOf, .inl (E.2.1 1, 800, .inl f_actOfz_135)), (m_whom, .inl (E.2.1 1, 800, .inl f_whomz_136))]) ?_ rfl rfl rfl
                refine ww_iload_n C dX12_say_70 0 rfl rfl ?_
                refine ww_aload_n C dX12_say_71 1 rfl rfl ?_
                refine ww_get C fg_X12_157 3 rfl rfl dX12_say_72 ?_
                refine ww_if_ne_f (tgt := 104) C dX12_say_75 (by decide) (rfl) ?_
                refine ww_aload_n C dX12_say_78 1 rfl rfl ?_
                refine ww_get C fg_X12_31 3 rfl rfl dX12_say_79 ?_
                refine ww_sipush (v := 768) C dX12_say_82 rfl ?_
                refine ww_aload_n C dX12_say_85 1 rfl rfl ?_
                refine ww_get C fg_X12_37 3 rfl rfl dX12_say_86 ?_
                refine ww_bipush (v := 24) C dX12_say_89 rfl ?_
                have hbx_164 := (h_141 24 (by omega)).2
                refine ww_iald (v := (nI (cN f_actManyz_134 24))) C 7 rfl (vin rfl) (h_141 24 (by omega)).1 dX12_say_91 ?_
                refine ww_iadd (v := (nI (768 + (cN f_actManyz_134 24)))) C dX12_say_92 (nI_add 768 (cN f_actManyz_134 24)) ?_
                refine ww_iconst (v := 1) C dX12_say_93 rfl ?_
                refine ww_isub (v := (nI ((768 + (cN f_actManyz_134 24)) - 1))) C dX12_say_94 (pk_sub (a := (768 + (cN f_actManyz_134 24))) (b := 1) (by omega)) ?_
                obtain ⟨x_165, ex_165⟩ : ∃ z : Int32, f_actOfz_135 ((768 + (cN f_actManyz_134 24)) - 1) = z := ⟨_, rfl⟩
                refine ww_iald (v := x_165) C 8 rfl (vp_in_nI (by omega) (by omega)) (ldn (by omega) ex_165) dX12_say_95 ?_
                refine ww_ci (wr := [(m_tokens, .inl (E.2.1 1, 9, .inl f_tokens)), (m_afters, .inl (E.2.1 1, 9, .inl f_aftersz_41)), (m_afterOf, .inl (E.2.1 1, 18, .inl f_afterOfz_42)), (hm, .inr (12, [.ref m_manys, .ref m_reals, .ref m_factsOf, .ref m_possible, .int (nI q_undos), .int (nI q_models), .ref m_tape, .int (nI q_taped), .int q_fault, .int 0, .int wa1, .int (nI sp2_128), .int (nI pl2_129), .int (nI tk2_130), .int (nI vl2_131), .ref m_ends, .ref m_letters, .ref m_actOf, .ref m_whom, .ref m_actMany, .ref m_tokens, .ref m_afters, .ref m_afterOf, .int (nI ct2_132), .ref m_pile, .ref m_caseMany, .ref m_happen, .ref m_hasIf, .ref m_becomes, .ref m_goneOf, .ref m_heard, .ref m_pairs, .ref m_heaps, .int q_rounds, .int q_heapMany, .ref m_led, .ref m_newAt, .ref m_knowing, .ref m_firsts, .int (nI q_people), .ref m_secrets, .ref m_tried, .ref m_lanes, .ref m_lengths, .ref m_cells])), (m_tape, .inl (E.2.1 1, 160, .inl f_tape)), (m_ends, .inl (E.2.1 1, 15, .inl f_ends)), (m_letters, .inl (E.2.1 1, 50, .inl f_letters)), (m_actMany, .inl (E.2.1 1, 25, .inl f_actManyz_134)), (m_actOf, .inl (E.2.1 1, 800, .inl f_actOfz_135)), (m_whom, .inl (E.2.1 1, 800, .inl f_whomz_136))]) (k' := 0) (n' := 0) C (run_S (As := [.int x_165]) (rest := [.int (nI op1)]) C (r_wantsOf X.2.1 E ro x_165 x_165.toInt rfl) ms_X12_wantsOf wl_X12_215 rfl rfl rfl rfl dX12_say_96) (roK hro) [] [0, 1, 2, 3, 4, 5, 6, 7, 8, 9] rfl rfl rfl rfl (fun r_166 uz hw => ?_)
                rcases hw with hw | hw | hw
                · refine an2 hw ?_
                  clear hw
                  intro he_168 he_169 hw
                  have h_167 := hw
                  clear hw
                  have he_168 := he_168.symm
                  subst he_168
                  subst he_169
                  refine ww_eq (ws' := [(m_tokens, .inl (E.2.1 1, 9, .inl f_tokens)), (m_afters, .inl (E.2.1 1, 9, .inl f_aftersz_41)), (m_afterOf, .inl (E.2.1 1, 18, .inl f_afterOfz_42)), (hm, .inr (12, [.ref m_manys, .ref m_reals, .ref m_factsOf, .ref m_possible, .int (nI q_undos), .int (nI q_models), .ref m_tape, .int (nI q_taped), .int q_fault, .int 0, .int wa1, .int (nI sp2_128), .int (nI pl2_129), .int (nI tk2_130), .int (nI vl2_131), .ref m_ends, .ref m_letters, .ref m_actOf, .ref m_whom, .ref m_actMany, .ref m_tokens, .ref m_afters, .ref m_afterOf, .int (nI ct2_132), .ref m_pile, .ref m_caseMany, .ref m_happen, .ref m_hasIf, .ref m_becomes, .ref m_goneOf, .ref m_heard, .ref m_pairs, .ref m_heaps, .int q_rounds, .int q_heapMany, .ref m_led, .ref m_newAt, .ref m_knowing, .ref m_firsts, .int (nI q_people), .ref m_secrets, .ref m_tried, .ref m_lanes, .ref m_lengths, .ref m_cells])), (m_tape, .inl (E.2.1 1, 160, .inl f_tape)), (m_ends, .inl (E.2.1 1, 15, .inl f_ends)), (m_letters, .inl (E.2.1 1, 50, .inl f_letters)), (m_actMany, .inl (E.2.1 1, 25, .inl f_actManyz_134)), (m_actOf, .inl (E.2.1 1, 800, .inl f_actOfz_135)), (m_whom, .inl (E.2.1 1, 800, .inl f_whomz_136))]) ?_ rfl rfl rfl
                  have hst := act_step hop_1 (by omega) (by omega) h_144 h_145 h_146 (by assumption)
                  have hwr := wR_a0 (by assumption)
                  have hst2 := hst.2.1
                  have hst3 := hst.2.2
                  rw [hwr] at hst2
                  refine ww_iconst (v := 1) C dX12_say_99 rfl ?_
                  refine ww_isub (v := (-1)) C dX12_say_100 (by decide) ?_
                  refine ww_goto (tgt := 105) C dX12_say_101 (by decide) ?_
                  refine ww_iadd (v := (nI (op1 - 1))) C dX12_say_105 (nI_subc (a := op1) (c := 1) (by omega) rfl) ?_
                  refine ww_istore_n (lv' := [(2, .int (nI (op1 - 1))), (0, .ref hm), (1, .int v0)]) C dX12_say_106 rfl rfl rfl ?_
                  refine ww_goto (tgt := 55) C dX12_say_107 (by decide) ?_
                  exact ww_lv [0, 1, 2] rfl (ww_sub [7, 8, 9, 0, 3, 4, 5, 6, 1, 2] rfl rfl (ih_55 (op1 - 1) 0 sp2_128 pl2_129 tk2_130 vl2_131 ct2_132 wa1 f_actManyz_134 f_actOfz_135 f_whomz_136 (by omega) (by omega) (by omega) (by omega) (by omega) (by omega) (by omega) (KP.put hko (by omega) h_145) (KP.put hkm (by omega) h_144) (fun _ => ⟨hst.1, by omega, by omega, by omega⟩) h_141 (by omega)))
                · refine an2 hw ?_
                  clear hw
                  intro he_171 he_172 hw
                  have h_170 := hw
                  clear hw
                  have he_171 := he_171.symm
                  subst he_171
                  subst he_172
                  refine ww_eq (ws' := [(m_tokens, .inl (E.2.1 1, 9, .inl f_tokens)), (m_afters, .inl (E.2.1 1, 9, .inl f_aftersz_41)), (m_afterOf, .inl (E.2.1 1, 18, .inl f_afterOfz_42)), (hm, .inr (12, [.ref m_manys, .ref m_reals, .ref m_factsOf, .ref m_possible, .int (nI q_undos), .int (nI q_models), .ref m_tape, .int (nI q_taped), .int q_fault, .int 0, .int wa1, .int (nI sp2_128), .int (nI pl2_129), .int (nI tk2_130), .int (nI vl2_131), .ref m_ends, .ref m_letters, .ref m_actOf, .ref m_whom, .ref m_actMany, .ref m_tokens, .ref m_afters, .ref m_afterOf, .int (nI ct2_132), .ref m_pile, .ref m_caseMany, .ref m_happen, .ref m_hasIf, .ref m_becomes, .ref m_goneOf, .ref m_heard, .ref m_pairs, .ref m_heaps, .int q_rounds, .int q_heapMany, .ref m_led, .ref m_newAt, .ref m_knowing, .ref m_firsts, .int (nI q_people), .ref m_secrets, .ref m_tried, .ref m_lanes, .ref m_lengths, .ref m_cells])), (m_tape, .inl (E.2.1 1, 160, .inl f_tape)), (m_ends, .inl (E.2.1 1, 15, .inl f_ends)), (m_letters, .inl (E.2.1 1, 50, .inl f_letters)), (m_actMany, .inl (E.2.1 1, 25, .inl f_actManyz_134)), (m_actOf, .inl (E.2.1 1, 800, .inl f_actOfz_135)), (m_whom, .inl (E.2.1 1, 800, .inl f_whomz_136))]) ?_ rfl rfl rfl
                  have hst := act_step hop_1 (by omega) (by omega) h_144 h_145 h_146 (by assumption)
                  have hwr := wR_a2 (by assumption)
                  have hst2 := hst.2.1
                  have hst3 := hst.2.2
                  rw [hwr] at hst2
                  refine ww_iconst (v := 1) C dX12_say_99 rfl ?_
                  refine ww_isub (v := 1) C dX12_say_100 (by decide) ?_
                  refine ww_goto (tgt := 105) C dX12_say_101 (by decide) ?_
                  refine ww_iadd (v := (nI (op1 + 1))) C dX12_say_105 (nI_add op1 1) ?_
                  refine ww_istore_n (lv' := [(2, .int (nI (op1 + 1))), (0, .ref hm), (1, .int v0)]) C dX12_say_106 rfl rfl rfl ?_
                  refine ww_goto (tgt := 55) C dX12_say_107 (by decide) ?_
                  exact ww_lv [0, 1, 2] rfl (ww_sub [7, 8, 9, 0, 3, 4, 5, 6, 1, 2] rfl rfl (ih_55 (op1 + 1) 0 sp2_128 pl2_129 tk2_130 vl2_131 ct2_132 wa1 f_actManyz_134 f_actOfz_135 f_whomz_136 (by omega) (by omega) (by omega) (by omega) (by omega) (by omega) (by omega) (KP.put hko (by omega) h_145) (KP.put hkm (by omega) h_144) (fun _ => ⟨hst.1, by omega, by omega, by omega⟩) h_141 (by omega)))
                · refine an2 hw ?_
                  clear hw
                  intro he_174 he_175 hw
                  have h_173 := hw
                  clear hw
                  have he_174 := he_174.symm
                  subst he_174
                  subst he_175
                  refine ww_eq (ws' := [(m_tokens, .inl (E.2.1 1, 9, .inl f_tokens)), (m_afters, .inl (E.2.1 1, 9, .inl f_aftersz_41)), (m_afterOf, .inl (E.2.1 1, 18, .inl f_afterOfz_42)), (hm, .inr (12, [.ref m_manys, .ref m_reals, .ref m_factsOf, .ref m_possible, .int (nI q_undos), .int (nI q_models), .ref m_tape, .int (nI q_taped), .int q_fault, .int 0, .int wa1, .int (nI sp2_128), .int (nI pl2_129), .int (nI tk2_130), .int (nI vl2_131), .ref m_ends, .ref m_letters, .ref m_actOf, .ref m_whom, .ref m_actMany, .ref m_tokens, .ref m_afters, .ref m_afterOf, .int (nI ct2_132), .ref m_pile, .ref m_caseMany, .ref m_happen, .ref m_hasIf, .ref m_becomes, .ref m_goneOf, .ref m_heard, .ref m_pairs, .ref m_heaps, .int q_rounds, .int q_heapMany, .ref m_led, .ref m_newAt, .ref m_knowing, .ref m_firsts, .int (nI q_people), .ref m_secrets, .ref m_tried, .ref m_lanes, .ref m_lengths, .ref m_cells])), (m_tape, .inl (E.2.1 1, 160, .inl f_tape)), (m_ends, .inl (E.2.1 1, 15, .inl f_ends)), (m_letters, .inl (E.2.1 1, 50, .inl f_letters)), (m_actMany, .inl (E.2.1 1, 25, .inl f_actManyz_134)), (m_actOf, .inl (E.2.1 1, 800, .inl f_actOfz_135)), (m_whom, .inl (E.2.1 1, 800, .inl f_whomz_136))]) ?_ rfl rfl rfl
                  have hst := act_step hop_1 (by omega) (by omega) h_144 h_145 h_146 (by assumption)
                  have hwr := wR_a1 (by assumption)
                  have hst2 := hst.2.1
                  have hst3 := hst.2.2
                  rw [hwr] at hst2
                  refine ww_iconst (v := 1) C dX12_say_99 rfl ?_
                  refine ww_isub (v := 0) C dX12_say_100 (by decide) ?_
                  refine ww_goto (tgt := 105) C dX12_say_101 (by decide) ?_
                  refine ww_iadd (v := (nI op1)) C dX12_say_105 (nI_add op1 0) ?_
                  refine ww_istore_n (lv' := [(2, .int (nI op1)), (0, .ref hm), (1, .int v0)]) C dX12_say_106 rfl rfl rfl ?_
                  refine ww_goto (tgt := 55) C dX12_say_107 (by decide) ?_
                  exact ww_lv [0, 1, 2] rfl (ww_sub [7, 8, 9, 0, 3, 4, 5, 6, 1, 2] rfl rfl (ih_55 op1 0 sp2_128 pl2_129 tk2_130 vl2_131 ct2_132 wa1 f_actManyz_134 f_actOfz_135 f_whomz_136 (by omega) (by omega) (by omega) (by omega) (by omega) (by omega) (by omega) (KP.put hko (by omega) h_145) (KP.put hkm (by omega) h_144) (fun _ => ⟨hst.1, by omega, by omega, by omega⟩) h_141 (by omega)))
              · refine ex7 hw ?_
                clear hw
                intro sp2_148 pl2_149 tk2_150 vl2_151 ct2_152 wr2_153 wa2_154 hw
                refine an8 hw ?_
                clear hw
                intro he_163 h_155 h_156 h_157 h_158 h_159 h_160 h_161 hw
                have h_162 := hw
                clear hw
                subst he_163
                refine ww_eq (ws' := [(m_tokens, .inl (E.2.1 1, 9, .inl f_tokens)), (m_afters, .inl (E.2.1 1, 9, .inl f_aftersz_41)), (m_afterOf, .inl (E.2.1 1, 18, .inl f_afterOfz_42)), (hm, .inr (12, [.ref m_manys, .ref m_reals, .ref m_factsOf, .ref m_possible, .int (nI q_undos), .int (nI q_models), .ref m_tape, .int (nI q_taped), .int q_fault, .int (nI wr2_153), .int wa2_154, .int (nI sp2_148), .int (nI pl2_149), .int (nI tk2_150), .int (nI vl2_151), .ref m_ends, .ref m_letters, .ref m_actOf, .ref m_whom, .ref m_actMany, .ref m_tokens, .ref m_afters, .ref m_afterOf, .int (nI ct2_152), .ref m_pile, .ref m_caseMany, .ref m_happen, .ref m_hasIf, .ref m_becomes, .ref m_goneOf, .ref m_heard, .ref m_pairs, .ref m_heaps, .int q_rounds, .int q_heapMany, .ref m_led, .ref m_newAt, .ref m_knowing, .ref m_firsts, .int (nI q_people), .ref m_secrets, .ref m_tried, .ref m_lanes, .ref m_lengths, .ref m_cells])), (m_tape, .inl (E.2.1 1, 160, .inl f_tape)), (m_ends, .inl (E.2.1 1, 15, .inl f_ends)), (m_letters, .inl (E.2.1 1, 50, .inl f_letters)), (m_actMany, .inl (E.2.1 1, 25, .inl g_am)), (m_actOf, .inl (E.2.1 1, 800, .inl g_ac)), (m_whom, .inl (E.2.1 1, 800, .inl g_wh))]) ?_ rfl rfl rfl
                refine ww_iload_n C dX12_say_70 0 rfl rfl ?_
                refine ww_aload_n C dX12_say_71 1 rfl rfl ?_
                refine ww_get C fg_X12_157 3 rfl rfl dX12_say_72 ?_
                refine ww_if_ne (tgt := 104) C dX12_say_75 (by decide) (fun c_176 => ?_) (fun c_176 => ?_)
                · have zc_176 : ((wr2_153 : Nat) : Int) ≠ 0 := i_ne (nI_toInt (n := wr2_153) (by omega)) rfl c_176
                  refine ww_iconst (v := 0) C dX12_say_104 rfl ?_
                  refine ww_iadd (v := (nI op1)) C dX12_say_105 (nI_add op1 0) ?_
                  refine ww_istore_n (lv' := [(2, .int (nI op1)), (0, .ref hm), (1, .int v0)]) C dX12_say_106 rfl rfl rfl ?_
                  refine ww_goto (tgt := 55) C dX12_say_107 (by decide) ?_
                  exact ww_lv [0, 1, 2] rfl (ww_sub [7, 8, 9, 0, 3, 4, 5, 6, 1, 2] rfl rfl (ih_55 op1 wr2_153 sp2_148 pl2_149 tk2_150 vl2_151 ct2_152 wa2_154 g_am g_ac g_wh (by omega) (by omega) (by omega) (by omega) (by omega) (by omega) (by omega) hko hkm (fun h9 => absurd h9 (by omega)) hnb_m_actMany_55 (by omega)))
                · have zc_176 : ((wr2_153 : Nat) : Int) = 0 := i_eq (nI_toInt (n := wr2_153) (by omega)) rfl c_176
                  omega
      exact ww_lv [0, 1, 2] rfl (ww_sub [0, 1, 2, 3, 4, 5, 6, 7, 8, 9] rfl rfl (loop_55 _ 1 wr2_39 sp2_35 pl2_36 tk2_37 vl2_38 0 wa2_40 f_9 f_actOf f_whom (by omega) (by omega) (by omega) (by omega) (by omega) (by omega) (by omega) KP.rf (KP.put KP.rf (by omega) ef_9) (fun _ => by rw [hsa0]; exact ⟨OPR.nil, rfl, by omega, by omega⟩) (NB.put hb_actMany (t := 0) (by omega) (by decide) ef_9) (Nat.lt_succ_self _)))
    · refine ex4 hw ?_
      clear hw
      intro sp2_24 pl2_25 tk2_26 vl2_27 hw
      refine an5 hw ?_
      clear hw
      intro he_33 h_28 h_29 h_30 h_31 hw
      have h_32 := hw
      clear hw
      subst he_33
      refine ww_eq (ws' := [(m_ends, .inl (E.2.1 1, 15, .inl f_ends)), (m_letters, .inl (E.2.1 1, 50, .inl f_letters)), (m_actMany, .inl (E.2.1 1, 25, .inl f_9)), (m_actOf, .inl (E.2.1 1, 800, .inl f_actOf)), (m_whom, .inl (E.2.1 1, 800, .inl f_whom)), (m_tokens, .inl (E.2.1 1, 9, .inl f_tokens)), (m_afters, .inl (E.2.1 1, 9, .inl f_10)), (m_afterOf, .inl (E.2.1 1, 18, .inl f_afterOf)), (hm, .inr (12, [.ref m_manys, .ref m_reals, .ref m_factsOf, .ref m_possible, .int (nI q_undos), .int (nI q_models), .ref m_tape, .int (nI q_taped), .int q_fault, .int 1, .int (nI pl2_25), .int (nI sp2_24), .int (nI pl2_25), .int (nI tk2_26), .int (nI vl2_27), .ref m_ends, .ref m_letters, .ref m_actOf, .ref m_whom, .ref m_actMany, .ref m_tokens, .ref m_afters, .ref m_afterOf, .int 0, .ref m_pile, .ref m_caseMany, .ref m_happen, .ref m_hasIf, .ref m_becomes, .ref m_goneOf, .ref m_heard, .ref m_pairs, .ref m_heaps, .int q_rounds, .int q_heapMany, .ref m_led, .ref m_newAt, .ref m_knowing, .ref m_firsts, .int (nI q_people), .ref m_secrets, .ref m_tried, .ref m_lanes, .ref m_lengths, .ref m_cells])), (m_tape, .inl (E.2.1 1, 160, .inl f_tape))]) ?_ rfl rfl rfl
      refine ww_aload_n C dX12_say_49 0 rfl rfl ?_
      refine ww_cv (wr := [(m_actMany, .inl (E.2.1 1, 25, .inl f_9)), (m_actOf, .inl (E.2.1 1, 800, .inl f_actOf)), (m_whom, .inl (E.2.1 1, 800, .inl f_whom)), (m_tokens, .inl (E.2.1 1, 9, .inl f_tokens))]) (k' := 0) (n' := 0) C (run_V (As := []) (rest := []) C (r_readAfters X.2.1 E ro hm m_manys m_reals m_factsOf m_possible q_undos q_models m_tape q_taped q_fault 1 (nI pl2_25) sp2_24 pl2_25 tk2_26 vl2_27 m_ends m_letters m_actOf m_whom m_actMany m_tokens m_afters m_afterOf 0 m_pile m_caseMany m_happen m_hasIf m_becomes m_goneOf m_heard m_pairs m_heaps q_rounds q_heapMany m_led m_newAt m_knowing m_firsts q_people m_secrets m_tried m_lanes m_lengths m_cells f_tape f_ends f_letters f_10 f_afterOf hb_ends (NB.put hb_afters (t := 0) (by omega) (by decide) ef_10) hb_afterOf (by omega) (by omega) (by omega) (by omega) (by omega) (by omega)) mi_X12_readAfters wl_X12_209 rfl 0 12 rfl rfl rfl rfl rfl dX12_say_50) (roK hro) [8, 9, 0, 1, 6, 7] [2, 3, 4, 5] rfl rfl rfl rfl (fun uz hw => ?_)
      refine ex8 hw ?_
      clear hw
      intro sp2_178 pl2_179 tk2_180 vl2_181 wr2_182 wa2_183 f_aftersz_184 f_afterOfz_185 hw
      refine an7 hw ?_
      clear hw
      intro he_193 h_186 h_187 h_188 h_189 h_190 h_191 hw
      have h_192 := hw
      clear hw
      subst he_193
      refine ww_eq (ws' := [(m_actMany, .inl (E.2.1 1, 25, .inl f_9)), (m_actOf, .inl (E.2.1 1, 800, .inl f_actOf)), (m_whom, .inl (E.2.1 1, 800, .inl f_whom)), (m_tokens, .inl (E.2.1 1, 9, .inl f_tokens)), (hm, .inr (12, [.ref m_manys, .ref m_reals, .ref m_factsOf, .ref m_possible, .int (nI q_undos), .int (nI q_models), .ref m_tape, .int (nI q_taped), .int q_fault, .int (nI wr2_182), .int wa2_183, .int (nI sp2_178), .int (nI pl2_179), .int (nI tk2_180), .int (nI vl2_181), .ref m_ends, .ref m_letters, .ref m_actOf, .ref m_whom, .ref m_actMany, .ref m_tokens, .ref m_afters, .ref m_afterOf, .int 0, .ref m_pile, .ref m_caseMany, .ref m_happen, .ref m_hasIf, .ref m_becomes, .ref m_goneOf, .ref m_heard, .ref m_pairs, .ref m_heaps, .int q_rounds, .int q_heapMany, .ref m_led, .ref m_newAt, .ref m_knowing, .ref m_firsts, .int (nI q_people), .ref m_secrets, .ref m_tried, .ref m_lanes, .ref m_lengths, .ref m_cells])), (m_tape, .inl (E.2.1 1, 160, .inl f_tape)), (m_ends, .inl (E.2.1 1, 15, .inl f_ends)), (m_letters, .inl (E.2.1 1, 50, .inl f_letters)), (m_afters, .inl (E.2.1 1, 9, .inl f_aftersz_184)), (m_afterOf, .inl (E.2.1 1, 18, .inl f_afterOfz_185))]) ?_ rfl rfl rfl
      refine ww_iconst (v := 1) C dX12_say_53 rfl ?_
      refine ww_istore_n (lv' := [(2, .int 1), (0, .ref hm), (1, .int v0)]) C dX12_say_54 rfl rfl rfl ?_
      have hsa0 := cN_s (t := 0) (by omega) ef_9
      have loop_55 : ∀ (fu : Nat) (op1 : Nat) (wr1 : Nat) (sp1 : Nat) (pl1 : Nat) (tk1 : Nat) (vl1 : Nat) (ct1 : Nat) (wa1 : Int32) (g_am : Nat → Int32) (g_ac : Nat → Int32) (g_wh : Nat → Int32), (wr1 ≤ 5) → (pl1 ≤ sp1) → (sp1 ≤ q_taped) → (tk1 ≤ 2) → (vl1 ≤ 9) → (ct1 ≤ 40) → (op1 ≤ 1000 - 2 * (50 - ct1)) → (KP 768 f_actOf g_ac) → (KP 24 f_actMany g_am) → (wr1 = 0 → OPR (cN g_am 24) (slot g_ac 24) ∧ (op1 : Int) = opr (slot g_ac 24) (cN g_am 24) ∧ cN g_am 24 ≤ ct1 ∧ ct1 ≤ 32) → (NB 25 32 g_am) → (50 - ct1) - 12 * min wr1 1 < fu → WW X 3 E 55 [(2, .int (nI op1)), (0, .ref hm), (1, .int v0)] [] [(m_actMany, .inl (E.2.1 1, 25, .inl g_am)), (m_actOf, .inl (E.2.1 1, 800, .inl g_ac)), (m_whom, .inl (E.2.1 1, 800, .inl g_wh)), (m_tokens, .inl (E.2.1 1, 9, .inl f_tokens)), (hm, .inr (12, [.ref m_manys, .ref m_reals, .ref m_factsOf, .ref m_possible, .int (nI q_undos), .int (nI q_models), .ref m_tape, .int (nI q_taped), .int q_fault, .int (nI wr1), .int wa1, .int (nI sp1), .int (nI pl1), .int (nI tk1), .int (nI vl1), .ref m_ends, .ref m_letters, .ref m_actOf, .ref m_whom, .ref m_actMany, .ref m_tokens, .ref m_afters, .ref m_afterOf, .int (nI ct1), .ref m_pile, .ref m_caseMany, .ref m_happen, .ref m_hasIf, .ref m_becomes, .ref m_goneOf, .ref m_heard, .ref m_pairs, .ref m_heaps, .int q_rounds, .int q_heapMany, .ref m_led, .ref m_newAt, .ref m_knowing, .ref m_firsts, .int (nI q_people), .ref m_secrets, .ref m_tried, .ref m_lanes, .ref m_lengths, .ref m_cells])), (m_tape, .inl (E.2.1 1, 160, .inl f_tape)), (m_ends, .inl (E.2.1 1, 15, .inl f_ends)), (m_letters, .inl (E.2.1 1, 50, .inl f_letters)), (m_afters, .inl (E.2.1 1, 9, .inl f_aftersz_184)), (m_afterOf, .inl (E.2.1 1, 18, .inl f_afterOfz_185))] 0 0 := by
        intro fu
        induction fu with
        | zero => intro op1 wr1 sp1 pl1 tk1 vl1 ct1 wa1 g_am g_ac g_wh hwr1 hpl1 hsp1 htk1 hvl1 hct1 hop1 hko hkm hop hnb_m_actMany_55 hmeas; exact absurd hmeas (Nat.not_lt_zero _)
        | succ fu ih_55 =>
          intro op1 wr1 sp1 pl1 tk1 vl1 ct1 wa1 g_am g_ac g_wh hwr1 hpl1 hsp1 htk1 hvl1 hct1 hop1 hko hkm hop hnb_m_actMany_55 hmeas
          refine ww_aload_n C dX12_say_55 1 rfl rfl ?_
          refine ww_get C fg_X12_157 4 rfl rfl dX12_say_56 ?_
          refine ww_if_ne (tgt := 110) C dX12_say_59 (by decide) (fun c_194 => ?_) (fun c_194 => ?_)
          · have zc_194 : ((wr1 : Nat) : Int) ≠ 0 := i_ne (nI_toInt (n := wr1) (by omega)) rfl c_194
            refine ww_aload_n C dX12_say_110 1 rfl rfl ?_
            refine ww_get C fg_X12_157 4 rfl rfl dX12_say_111 ?_
            refine ww_if_ne (tgt := 129) C dX12_say_114 (by decide) (fun c_195 => ?_) (fun c_195 => ?_)
            · have zc_195 : ((wr1 : Nat) : Int) ≠ 0 := i_ne (nI_toInt (n := wr1) (by omega)) rfl c_195
              refine ww_aload_n C dX12_say_129 1 rfl rfl ?_
              refine ww_iconst (v := 0) C dX12_say_130 rfl ?_
              refine ww_put (ws' := [(m_actMany, .inl (E.2.1 1, 25, .inl g_am)), (m_actOf, .inl (E.2.1 1, 800, .inl g_ac)), (m_whom, .inl (E.2.1 1, 800, .inl g_wh)), (m_tokens, .inl (E.2.1 1, 9, .inl f_tokens)), (hm, .inr (12, [.ref m_manys, .ref m_reals, .ref m_factsOf, .ref m_possible, .int (nI q_undos), .int (nI q_models), .ref m_tape, .int 0, .int q_fault, .int (nI wr1), .int wa1, .int (nI sp1), .int (nI pl1), .int (nI tk1), .int (nI vl1), .ref m_ends, .ref m_letters, .ref m_actOf, .ref m_whom, .ref m_actMany, .ref m_tokens, .ref m_afters, .ref m_afterOf, .int (nI ct1), .ref m_pile, .ref m_caseMany, .ref m_happen, .ref m_hasIf, .ref m_becomes, .ref m_goneOf, .ref m_heard, .ref m_pairs, .ref m_heaps, .int q_rounds, .int q_heapMany, .ref m_led, .ref m_newAt, .ref m_knowing, .ref m_firsts, .int (nI q_people), .ref m_secrets, .ref m_tried, .ref m_lanes, .ref m_lengths, .ref m_cells])), (m_tape, .inl (E.2.1 1, 160, .inl f_tape)), (m_ends, .inl (E.2.1 1, 15, .inl f_ends)), (m_letters, .inl (E.2.1 1, 50, .inl f_letters)), (m_afters, .inl (E.2.1 1, 9, .inl f_aftersz_184)), (m_afterOf, .inl (E.2.1 1, 18, .inl f_afterOfz_185))]) C fp_X12_154 4 rfl rfl rfl rfl rfl dX12_say_131 ?_
              refine ww_aload_n C dX12_say_134 1 rfl rfl ?_
              refine ww_aload_n C dX12_say_135 1 rfl rfl ?_
              refine ww_get C fg_X12_157 4 rfl rfl dX12_say_136 ?_
              refine ww_put (ws' := [(m_actMany, .inl (E.2.1 1, 25, .inl g_am)), (m_actOf, .inl (E.2.1 1, 800, .inl g_ac)), (m_whom, .inl (E.2.1 1, 800, .inl g_wh)), (m_tokens, .inl (E.2.1 1, 9, .inl f_tokens)), (hm, .inr (12, [.ref m_manys, .ref m_reals, .ref m_factsOf, .ref m_possible, .int (nI q_undos), .int (nI q_models), .ref m_tape, .int 0, .int (nI wr1), .int (nI wr1), .int wa1, .int (nI sp1), .int (nI pl1), .int (nI tk1), .int (nI vl1), .ref m_ends, .ref m_letters, .ref m_actOf, .ref m_whom, .ref m_actMany, .ref m_tokens, .ref m_afters, .ref m_afterOf, .int (nI ct1), .ref m_pile, .ref m_caseMany, .ref m_happen, .ref m_hasIf, .ref m_becomes, .ref m_goneOf, .ref m_heard, .ref m_pairs, .ref m_heaps, .int q_rounds, .int q_heapMany, .ref m_led, .ref m_newAt, .ref m_knowing, .ref m_firsts, .int (nI q_people), .ref m_secrets, .ref m_tried, .ref m_lanes, .ref m_lengths, .ref m_cells])), (m_tape, .inl (E.2.1 1, 160, .inl f_tape)), (m_ends, .inl (E.2.1 1, 15, .inl f_ends)), (m_letters, .inl (E.2.1 1, 50, .inl f_letters)), (m_afters, .inl (E.2.1 1, 9, .inl f_aftersz_184)), (m_afterOf, .inl (E.2.1 1, 18, .inl f_afterOfz_185))]) C fp_X12_218 4 rfl rfl rfl rfl rfl dX12_say_139 ?_
              refine ww_aload_n C dX12_say_142 1 rfl rfl ?_
              refine ww_get C fg_X12_157 4 rfl rfl dX12_say_143 ?_
              refine ww_if_le (tgt := 157) C dX12_say_146 (by decide) (fun c_196 => ?_) (fun c_196 => ?_)
              · have zc_196 : ((wr1 : Nat) : Int) ≤ 0 := i_le (nI_toInt (n := wr1) (by omega)) rfl c_196
                obtain ⟨j_197, hj_197, rfl⟩ := i_nat (x := v0) (N := 7) (by omega) (by omega)
                have hzj_197 := nI_toInt (n := j_197) (by omega)
                have hw0 : wr1 = 0 := by omega
                obtain ⟨hop_1, hop_2, hop_3, hop_4⟩ := hop hw0
                have hsv2 := SV.keep hsv hko hkm
                have hop0 : opr (slot g_ac 24) (cN g_am 24) = 0 := by omega
                refine ww_aload_n C dX12_say_157 1 rfl rfl ?_
                refine ww_bipush (v := 24) C dX12_say_158 rfl ?_
                refine ww_iload_n C dX12_say_160 2 rfl rfl ?_
                refine ww_cv (wr := [(m_tokens, .inl (E.2.1 1, 9, .inl f_tokens)), (m_tape, .inl (E.2.1 1, 160, .inl f_tape)), (m_ends, .inl (E.2.1 1, 15, .inl f_ends)), (m_letters, .inl (E.2.1 1, 50, .inl f_letters)), (m_afters, .inl (E.2.1 1, 9, .inl f_aftersz_184)), (m_afterOf, .inl (E.2.1 1, 18, .inl f_afterOfz_185))]) (k' := 0) (n' := 0) C (run_V (As := [.int 24, .int (nI j_197)]) (rest := []) C (r_copyActs X.2.1 E ro hm 24 j_197 m_manys m_reals m_factsOf m_possible q_undos q_models m_tape 0 (nI wr1) (nI wr1) wa1 (nI sp1) (nI pl1) (nI tk1) (nI vl1) m_ends m_letters m_actOf m_whom m_actMany m_tokens m_afters m_afterOf (nI ct1) m_pile m_caseMany m_happen m_hasIf m_becomes m_goneOf m_heard m_pairs m_heaps q_rounds q_heapMany m_led m_newAt m_knowing m_firsts q_people m_secrets m_tried m_lanes m_lengths m_cells g_am g_ac g_wh hnb_m_actMany_55 hsv2 (by omega) (by omega) ⟨by omega, hop_1, Or.inr hop0⟩) mi_X12_copyActs wl_X12_221 rfl 0 12 rfl rfl rfl rfl rfl dX12_say_161) (roK hro) [4, 0, 1, 2] [3, 5, 6, 7, 8, 9] rfl rfl rfl rfl (fun uz hw => ?_)
                refine ex3 hw ?_
                clear hw
                intro f_actManyz_199 f_actOfz_200 f_whomz_201 hw
                refine an5 hw ?_
                clear hw
                intro he_207 h_202 h_203 h_204 h_205 hw
                have h_206 := hw
                clear hw
                subst he_207
                refine ww_eq (ws' := [(m_tokens, .inl (E.2.1 1, 9, .inl f_tokens)), (m_tape, .inl (E.2.1 1, 160, .inl f_tape)), (m_ends, .inl (E.2.1 1, 15, .inl f_ends)), (m_letters, .inl (E.2.1 1, 50, .inl f_letters)), (m_afters, .inl (E.2.1 1, 9, .inl f_aftersz_184)), (m_afterOf, .inl (E.2.1 1, 18, .inl f_afterOfz_185)), (hm, .inr (12, [.ref m_manys, .ref m_reals, .ref m_factsOf, .ref m_possible, .int (nI q_undos), .int (nI q_models), .ref m_tape, .int 0, .int (nI wr1), .int (nI wr1), .int wa1, .int (nI sp1), .int (nI pl1), .int (nI tk1), .int (nI vl1), .ref m_ends, .ref m_letters, .ref m_actOf, .ref m_whom, .ref m_actMany, .ref m_tokens, .ref m_afters, .ref m_afterOf, .int (nI ct1), .ref m_pile, .ref m_caseMany, .ref m_happen, .ref m_hasIf, .ref m_becomes, .ref m_goneOf, .ref m_heard, .ref m_pairs, .ref m_heaps, .int q_rounds, .int q_heapMany, .ref m_led, .ref m_newAt, .ref m_knowing, .ref m_firsts, .int (nI q_people), .ref m_secrets, .ref m_tried, .ref m_lanes, .ref m_lengths, .ref m_cells])), (m_actMany, .inl (E.2.1 1, 25, .inl f_actManyz_199)), (m_actOf, .inl (E.2.1 1, 800, .inl f_actOfz_200)), (m_whom, .inl (E.2.1 1, 800, .inl f_whomz_201))]) ?_ rfl rfl rfl
                refine ww_aload_n C dX12_say_164 1 rfl rfl ?_
                refine ww_get C fg_X12_40 6 rfl rfl dX12_say_165 ?_
                refine ww_iload_n C dX12_say_168 2 rfl rfl ?_
                refine ww_aload_n C dX12_say_169 1 rfl rfl ?_
                refine ww_get C fg_X12_191 6 rfl rfl dX12_say_170 ?_
                obtain ⟨f_208, ef_208⟩ : ∃ z : Nat → Int32, upd f_tokens j_197 (nI ct1) = z := ⟨_, rfl⟩
                refine ww_iast (ws' := [(m_tokens, .inl (E.2.1 1, 9, .inl f_208)), (m_tape, .inl (E.2.1 1, 160, .inl f_tape)), (m_ends, .inl (E.2.1 1, 15, .inl f_ends)), (m_letters, .inl (E.2.1 1, 50, .inl f_letters)), (m_afters, .inl (E.2.1 1, 9, .inl f_aftersz_184)), (m_afterOf, .inl (E.2.1 1, 18, .inl f_afterOfz_185)), (hm, .inr (12, [.ref m_manys, .ref m_reals, .ref m_factsOf, .ref m_possible, .int (nI q_undos), .int (nI q_models), .ref m_tape, .int 0, .int (nI wr1), .int (nI wr1), .int wa1, .int (nI sp1), .int (nI pl1), .int (nI tk1), .int (nI vl1), .ref m_ends, .ref m_letters, .ref m_actOf, .ref m_whom, .ref m_actMany, .ref m_tokens, .ref m_afters, .ref m_afterOf, .int (nI ct1), .ref m_pile, .ref m_caseMany, .ref m_happen, .ref m_hasIf, .ref m_becomes, .ref m_goneOf, .ref m_heard, .ref m_pairs, .ref m_heaps, .int q_rounds, .int q_heapMany, .ref m_led, .ref m_newAt, .ref m_knowing, .ref m_firsts, .int (nI q_people), .ref m_secrets, .ref m_tried, .ref m_lanes, .ref m_lengths, .ref m_cells])), (m_actMany, .inl (E.2.1 1, 25, .inl f_actManyz_199)), (m_actOf, .inl (E.2.1 1, 800, .inl f_actOfz_200)), (m_whom, .inl (E.2.1 1, 800, .inl f_whomz_201))]) C 0 rfl (vp_in_nI (by omega) (by omega)) (ldn2 (by omega) ef_208) rfl dX12_say_173 ?_
                refine ww_aload_n C dX12_say_174 1 rfl rfl ?_
                refine ww_get C fg_X12_43 6 rfl rfl dX12_say_175 ?_
                refine ww_iload_n C dX12_say_178 2 rfl rfl ?_
                refine ww_aload_n C dX12_say_179 1 rfl rfl ?_
                refine ww_get C fg_X12_43 6 rfl rfl dX12_say_180 ?_
                refine ww_bipush (v := 8) C dX12_say_183 rfl ?_
                have hbx_209 := (h_190 8 (by omega)).2
                refine ww_iald (v := (nI (cN f_aftersz_184 8))) C 4 rfl (vin rfl) (h_190 8 (by omega)).1 dX12_say_185 ?_
                obtain ⟨f_210, ef_210⟩ : ∃ z : Nat → Int32, upd f_aftersz_184 j_197 (nI (cN f_aftersz_184 8)) = z := ⟨_, rfl⟩
                refine ww_iast (ws' := [(m_tokens, .inl (E.2.1 1, 9, .inl f_208)), (m_tape, .inl (E.2.1 1, 160, .inl f_tape)), (m_ends, .inl (E.2.1 1, 15, .inl f_ends)), (m_letters, .inl (E.2.1 1, 50, .inl f_letters)), (m_afters, .inl (E.2.1 1, 9, .inl f_210)), (m_afterOf, .inl (E.2.1 1, 18, .inl f_afterOfz_185)), (hm, .inr (12, [.ref m_manys, .ref m_reals, .ref m_factsOf, .ref m_possible, .int (nI q_undos), .int (nI q_models), .ref m_tape, .int 0, .int (nI wr1), .int (nI wr1), .int wa1, .int (nI sp1), .int (nI pl1), .int (nI tk1), .int (nI vl1), .ref m_ends, .ref m_letters, .ref m_actOf, .ref m_whom, .ref m_actMany, .ref m_tokens, .ref m_afters, .ref m_afterOf, .int (nI ct1), .ref m_pile, .ref m_caseMany, .ref m_happen, .ref m_hasIf, .ref m_becomes, .ref m_goneOf, .ref m_heard, .ref m_pairs, .ref m_heaps, .int q_rounds, .int q_heapMany, .ref m_led, .ref m_newAt, .ref m_knowing, .ref m_firsts, .int (nI q_people), .ref m_secrets, .ref m_tried, .ref m_lanes, .ref m_lengths, .ref m_cells])), (m_actMany, .inl (E.2.1 1, 25, .inl f_actManyz_199)), (m_actOf, .inl (E.2.1 1, 800, .inl f_actOfz_200)), (m_whom, .inl (E.2.1 1, 800, .inl f_whomz_201))]) C 4 rfl (vp_in_nI (by omega) (by omega)) (ldn2 (by omega) ef_210) rfl dX12_say_186 ?_
                refine ww_aload_n C dX12_say_187 1 rfl rfl ?_
                refine ww_get C fg_X12_46 6 rfl rfl dX12_say_188 ?_
                refine ww_iconst (v := 2) C dX12_say_191 rfl ?_
                refine ww_iload_n C dX12_say_192 2 rfl rfl ?_
                refine ww_imul (v := (nI (2 * j_197))) C dX12_say_193 (pk_mul 2 j_197) ?_
                refine ww_aload_n C dX12_say_194 1 rfl rfl ?_
                refine ww_get C fg_X12_46 6 rfl rfl dX12_say_195 ?_
                refine ww_bipush (v := 16) C dX12_say_198 rfl ?_
                have hbx_211 := (h_191 16 (by omega)).2
                refine ww_iald (v := (nI (cN f_afterOfz_185 16))) C 5 rfl (vin rfl) (h_191 16 (by omega)).1 dX12_say_200 ?_
                obtain ⟨f_212, ef_212⟩ : ∃ z : Nat → Int32, upd f_afterOfz_185 (2 * j_197) (nI (cN f_afterOfz_185 16)) = z := ⟨_, rfl⟩
                refine ww_iast (ws' := [(m_tokens, .inl (E.2.1 1, 9, .inl f_208)), (m_tape, .inl (E.2.1 1, 160, .inl f_tape)), (m_ends, .inl (E.2.1 1, 15, .inl f_ends)), (m_letters, .inl (E.2.1 1, 50, .inl f_letters)), (m_afters, .inl (E.2.1 1, 9, .inl f_210)), (m_afterOf, .inl (E.2.1 1, 18, .inl f_212)), (hm, .inr (12, [.ref m_manys, .ref m_reals, .ref m_factsOf, .ref m_possible, .int (nI q_undos), .int (nI q_models), .ref m_tape, .int 0, .int (nI wr1), .int (nI wr1), .int wa1, .int (nI sp1), .int (nI pl1), .int (nI tk1), .int (nI vl1), .ref m_ends, .ref m_letters, .ref m_actOf, .ref m_whom, .ref m_actMany, .ref m_tokens, .ref m_afters, .ref m_afterOf, .int (nI ct1), .ref m_pile, .ref m_caseMany, .ref m_happen, .ref m_hasIf, .ref m_becomes, .ref m_goneOf, .ref m_heard, .ref m_pairs, .ref m_heaps, .int q_rounds, .int q_heapMany, .ref m_led, .ref m_newAt, .ref m_knowing, .ref m_firsts, .int (nI q_people), .ref m_secrets, .ref m_tried, .ref m_lanes, .ref m_lengths, .ref m_cells])), (m_actMany, .inl (E.2.1 1, 25, .inl f_actManyz_199)), (m_actOf, .inl (E.2.1 1, 800, .inl f_actOfz_200)), (m_whom, .inl (E.2.1 1, 800, .inl f_whomz_201))]) C 5 rfl (vp_in_nI (by omega) (by omega)) (ldn2 (by omega) ef_212) rfl dX12_say_201 ?_
                refine ww_aload_n C dX12_say_202 1 rfl rfl ?_
                refine ww_get C fg_X12_46 6 rfl rfl dX12_say_203 ?_
                refine ww_iconst (v := 2) C dX12_say_206 rfl ?_
                refine ww_iload_n C dX12_say_207 2 rfl rfl ?_
                refine ww_imul (v := (nI (2 * j_197))) C dX12_say_208 (pk_mul 2 j_197) ?_
                refine ww_iconst (v := 1) C dX12_say_209 rfl ?_
                refine ww_iadd (v := (nI ((2 * j_197) + 1))) C dX12_say_210 (nI_add (2 * j_197) 1) ?_
                refine ww_aload_n C dX12_say_211 1 rfl rfl ?_
                refine ww_get C fg_X12_46 6 rfl rfl dX12_say_212 ?_
                refine ww_bipush (v := 17) C dX12_say_215 rfl ?_
                have hbx_213 := ((NB.put h_191 (t := cN f_afterOfz_185 16) (by omega) (by decide) ef_212) 17 (by omega)).2
                refine ww_iald (v := (nI (cN f_212 17))) C 5 rfl (vin rfl) ((NB.put h_191 (t := cN f_afterOfz_185 16) (by omega) (by decide) ef_212) 17 (by omega)).1 dX12_say_217 ?_
                obtain ⟨f_214, ef_214⟩ : ∃ z : Nat → Int32, upd f_212 ((2 * j_197) + 1) (nI (cN f_212 17)) = z := ⟨_, rfl⟩
                refine ww_iast (ws' := [(m_tokens, .inl (E.2.1 1, 9, .inl f_208)), (m_tape, .inl (E.2.1 1, 160, .inl f_tape)), (m_ends, .inl (E.2.1 1, 15, .inl f_ends)), (m_letters, .inl (E.2.1 1, 50, .inl f_letters)), (m_afters, .inl (E.2.1 1, 9, .inl f_210)), (m_afterOf, .inl (E.2.1 1, 18, .inl f_214)), (hm, .inr (12, [.ref m_manys, .ref m_reals, .ref m_factsOf, .ref m_possible, .int (nI q_undos), .int (nI q_models), .ref m_tape, .int 0, .int (nI wr1), .int (nI wr1), .int wa1, .int (nI sp1), .int (nI pl1), .int (nI tk1), .int (nI vl1), .ref m_ends, .ref m_letters, .ref m_actOf, .ref m_whom, .ref m_actMany, .ref m_tokens, .ref m_afters, .ref m_afterOf, .int (nI ct1), .ref m_pile, .ref m_caseMany, .ref m_happen, .ref m_hasIf, .ref m_becomes, .ref m_goneOf, .ref m_heard, .ref m_pairs, .ref m_heaps, .int q_rounds, .int q_heapMany, .ref m_led, .ref m_newAt, .ref m_knowing, .ref m_firsts, .int (nI q_people), .ref m_secrets, .ref m_tried, .ref m_lanes, .ref m_lengths, .ref m_cells])), (m_actMany, .inl (E.2.1 1, 25, .inl f_actManyz_199)), (m_actOf, .inl (E.2.1 1, 800, .inl f_actOfz_200)), (m_whom, .inl (E.2.1 1, 800, .inl f_whomz_201))]) C 5 rfl (vp_in_nI (by omega) (by omega)) (ldn2 (by omega) ef_214) rfl dX12_say_218 ?_
                refine ww_aload_n C dX12_say_219 1 rfl rfl ?_
                refine ww_get C fg_X12_191 6 rfl rfl dX12_say_220 ?_
                exact ww_iret (u := [(hm, .inr (12, [.ref m_manys, .ref m_reals, .ref m_factsOf, .ref m_possible, .int (nI q_undos), .int (nI q_models), .ref m_tape, .int 0, .int (nI wr1), .int (nI wr1), .int wa1, .int (nI sp1), .int (nI pl1), .int (nI tk1), .int (nI vl1), .ref m_ends, .ref m_letters, .ref m_actOf, .ref m_whom, .ref m_actMany, .ref m_tokens, .ref m_afters, .ref m_afterOf, .int (nI ct1), .ref m_pile, .ref m_caseMany, .ref m_happen, .ref m_hasIf, .ref m_becomes, .ref m_goneOf, .ref m_heard, .ref m_pairs, .ref m_heaps, .int q_rounds, .int q_heapMany, .ref m_led, .ref m_newAt, .ref m_knowing, .ref m_firsts, .int (nI q_people), .ref m_secrets, .ref m_tried, .ref m_lanes, .ref m_lengths, .ref m_cells])), (m_tape, .inl (E.2.1 1, 160, .inl f_tape)), (m_ends, .inl (E.2.1 1, 15, .inl f_ends)), (m_letters, .inl (E.2.1 1, 50, .inl f_letters)), (m_actMany, .inl (E.2.1 1, 25, .inl f_actManyz_199)), (m_actOf, .inl (E.2.1 1, 800, .inl f_actOfz_200)), (m_whom, .inl (E.2.1 1, 800, .inl f_whomz_201)), (m_tokens, .inl (E.2.1 1, 9, .inl f_208)), (m_afters, .inl (E.2.1 1, 9, .inl f_210)), (m_afterOf, .inl (E.2.1 1, 18, .inl f_214))]) C hT [6, 1, 2, 3, 7, 8, 9, 0, 4, 5] rfl rfl rfl rfl dX12_say_223 (Or.inr ⟨(nI wr1), (nI wr1), wa1, (nI sp1), (nI pl1), (nI ct1), tk1, vl1, f_actManyz_199, f_actOfz_200, f_whomz_201, f_208, f_210, f_214, rfl, h_202, (NB.put h_190 (t := cN f_aftersz_184 8) (by omega) (by decide) ef_210), (NB.put (NB.put h_191 (t := cN f_afterOfz_185 16) (by omega) (by decide) ef_212) (t := cN f_212 17) (by omega) (by decide) ef_214), h_203, (by omega), (by omega), (by omega), (by omega)⟩)
              · have zc_196 : ((wr1 : Nat) : Int) > 0 := i_nle (nI_toInt (n := wr1) (by omega)) rfl c_196
                refine ww_bipush (v := (-10)) C dX12_say_149 rfl ?_
                refine ww_aload_n C dX12_say_151 1 rfl rfl ?_
                refine ww_get C fg_X12_163 4 rfl rfl dX12_say_152 ?_
                obtain ⟨x_215, ex_215⟩ : ∃ z : Int32, ((-10) : Int32) - wa1 = z := ⟨_, rfl⟩
                refine ww_isub (v := x_215) C dX12_say_155 ex_215 ?_
                exact ww_iret (u := [(hm, .inr (12, [.ref m_manys, .ref m_reals, .ref m_factsOf, .ref m_possible, .int (nI q_undos), .int (nI q_models), .ref m_tape, .int 0, .int (nI wr1), .int (nI wr1), .int wa1, .int (nI sp1), .int (nI pl1), .int (nI tk1), .int (nI vl1), .ref m_ends, .ref m_letters, .ref m_actOf, .ref m_whom, .ref m_actMany, .ref m_tokens, .ref m_afters, .ref m_afterOf, .int (nI ct1), .ref m_pile, .ref m_caseMany, .ref m_happen, .ref m_hasIf, .ref m_becomes, .ref m_goneOf, .ref m_heard, .ref m_pairs, .ref m_heaps, .int q_rounds, .int q_heapMany, .ref m_led, .ref m_newAt, .ref m_knowing, .ref m_firsts, .int (nI q_people), .ref m_secrets, .ref m_tried, .ref m_lanes, .ref m_lengths, .ref m_cells])), (m_tape, .inl (E.2.1 1, 160, .inl f_tape)), (m_ends, .inl (E.2.1 1, 15, .inl f_ends)), (m_letters, .inl (E.2.1 1, 50, .inl f_letters)), (m_actMany, .inl (E.2.1 1, 25, .inl g_am)), (m_actOf, .inl (E.2.1 1, 800, .inl g_ac)), (m_whom, .inl (E.2.1 1, 800, .inl g_wh)), (m_tokens, .inl (E.2.1 1, 9, .inl f_tokens)), (m_afters, .inl (E.2.1 1, 9, .inl f_aftersz_184)), (m_afterOf, .inl (E.2.1 1, 18, .inl f_afterOfz_185))]) C hT [4, 5, 6, 7, 0, 1, 2, 3, 8, 9] rfl rfl rfl rfl dX12_say_156 (Or.inr ⟨(nI wr1), (nI wr1), wa1, (nI sp1), (nI pl1), (nI ct1), tk1, vl1, g_am, g_ac, g_wh, f_tokens, f_aftersz_184, f_afterOfz_185, rfl, hnb_m_actMany_55, h_190, h_191, (SV.keep hsv hko hkm), (by omega), (by omega), (by omega), (by omega)⟩)
            · have zc_195 : ((wr1 : Nat) : Int) = 0 := i_eq (nI_toInt (n := wr1) (by omega)) rfl c_195
              refine ww_aload_n C dX12_say_117 1 rfl rfl ?_
              refine ww_get C fg_X12_175 4 rfl rfl dX12_say_118 ?_
              refine ww_if_eq (tgt := 129) C dX12_say_121 (by decide) (fun c_216 => ?_) (fun c_216 => ?_)
              · have zc_216 : ((tk1 : Nat) : Int) = 0 := i_eq (nI_toInt (n := tk1) (by omega)) rfl c_216
                refine ww_aload_n C dX12_say_129 1 rfl rfl ?_
                refine ww_iconst (v := 0) C dX12_say_130 rfl ?_
                refine ww_put (ws' := [(m_actMany, .inl (E.2.1 1, 25, .inl g_am)), (m_actOf, .inl (E.2.1 1, 800, .inl g_ac)), (m_whom, .inl (E.2.1 1, 800, .inl g_wh)), (m_tokens, .inl (E.2.1 1, 9, .inl f_tokens)), (hm, .inr (12, [.ref m_manys, .ref m_reals, .ref m_factsOf, .ref m_possible, .int (nI q_undos), .int (nI q_models), .ref m_tape, .int 0, .int q_fault, .int (nI wr1), .int wa1, .int (nI sp1), .int (nI pl1), .int (nI tk1), .int (nI vl1), .ref m_ends, .ref m_letters, .ref m_actOf, .ref m_whom, .ref m_actMany, .ref m_tokens, .ref m_afters, .ref m_afterOf, .int (nI ct1), .ref m_pile, .ref m_caseMany, .ref m_happen, .ref m_hasIf, .ref m_becomes, .ref m_goneOf, .ref m_heard, .ref m_pairs, .ref m_heaps, .int q_rounds, .int q_heapMany, .ref m_led, .ref m_newAt, .ref m_knowing, .ref m_firsts, .int (nI q_people), .ref m_secrets, .ref m_tried, .ref m_lanes, .ref m_lengths, .ref m_cells])), (m_tape, .inl (E.2.1 1, 160, .inl f_tape)), (m_ends, .inl (E.2.1 1, 15, .inl f_ends)), (m_letters, .inl (E.2.1 1, 50, .inl f_letters)), (m_afters, .inl (E.2.1 1, 9, .inl f_aftersz_184)), (m_afterOf, .inl (E.2.1 1, 18, .inl f_afterOfz_185))]) C fp_X12_154 4 rfl rfl rfl rfl rfl dX12_say_131 ?_
                refine ww_aload_n C dX12_say_134 1 rfl rfl ?_
                refine ww_aload_n C dX12_say_135 1 rfl rfl ?_
                refine ww_get C fg_X12_157 4 rfl rfl dX12_say_136 ?_
                refine ww_put (ws' := [(m_actMany, .inl (E.2.1 1, 25, .inl g_am)), (m_actOf, .inl (E.2.1 1, 800, .inl g_ac)), (m_whom, .inl (E.2.1 1, 800, .inl g_wh)), (m_tokens, .inl (E.2.1 1, 9, .inl f_tokens)), (hm, .inr (12, [.ref m_manys, .ref m_reals, .ref m_factsOf, .ref m_possible, .int (nI q_undos), .int (nI q_models), .ref m_tape, .int 0, .int (nI wr1), .int (nI wr1), .int wa1, .int (nI sp1), .int (nI pl1), .int (nI tk1), .int (nI vl1), .ref m_ends, .ref m_letters, .ref m_actOf, .ref m_whom, .ref m_actMany, .ref m_tokens, .ref m_afters, .ref m_afterOf, .int (nI ct1), .ref m_pile, .ref m_caseMany, .ref m_happen, .ref m_hasIf, .ref m_becomes, .ref m_goneOf, .ref m_heard, .ref m_pairs, .ref m_heaps, .int q_rounds, .int q_heapMany, .ref m_led, .ref m_newAt, .ref m_knowing, .ref m_firsts, .int (nI q_people), .ref m_secrets, .ref m_tried, .ref m_lanes, .ref m_lengths, .ref m_cells])), (m_tape, .inl (E.2.1 1, 160, .inl f_tape)), (m_ends, .inl (E.2.1 1, 15, .inl f_ends)), (m_letters, .inl (E.2.1 1, 50, .inl f_letters)), (m_afters, .inl (E.2.1 1, 9, .inl f_aftersz_184)), (m_afterOf, .inl (E.2.1 1, 18, .inl f_afterOfz_185))]) C fp_X12_218 4 rfl rfl rfl rfl rfl dX12_say_139 ?_
                refine ww_aload_n C dX12_say_142 1 rfl rfl ?_
                refine ww_get C fg_X12_157 4 rfl rfl dX12_say_143 ?_
                refine ww_if_le (tgt := 157) C dX12_say_146 (by decide) (fun c_217 => ?_) (fun c_217 => ?_)
                · have zc_217 : ((wr1 : Nat) : Int) ≤ 0 := i_le (nI_toInt (n := wr1) (by omega)) rfl c_217
                  obtain ⟨j_218, hj_218, rfl⟩ := i_nat (x := v0) (N := 7) (by omega) (by omega)
                  have hzj_218 := nI_toInt (n := j_218) (by omega)
                  have hw0 : wr1 = 0 := by omega
                  obtain ⟨hop_1, hop_2, hop_3, hop_4⟩ := hop hw0
                  have hsv2 := SV.keep hsv hko hkm
                  have hop0 : opr (slot g_ac 24) (cN g_am 24) = 0 := by omega
                  refine ww_aload_n C dX12_say_157 1 rfl rfl ?_
                  refine ww_bipush (v := 24) C dX12_say_158 rfl ?_
                  refine ww_iload_n C dX12_say_160 2 rfl rfl ?_
                  refine ww_cv (wr := [(m_tokens, .inl (E.2.1 1, 9, .inl f_tokens)), (m_tape, .inl (E.2.1 1, 160, .inl f_tape)), (m_ends, .inl (E.2.1 1, 15, .inl f_ends)), (m_letters, .inl (E.2.1 1, 50, .inl f_letters)), (m_afters, .inl (E.2.1 1, 9, .inl f_aftersz_184)), (m_afterOf, .inl (E.2.1 1, 18, .inl f_afterOfz_185))]) (k' := 0) (n' := 0) C (run_V (As := [.int 24, .int (nI j_218)]) (rest := []) C (r_copyActs X.2.1 E ro hm 24 j_218 m_manys m_reals m_factsOf m_possible q_undos q_models m_tape 0 (nI wr1) (nI wr1) wa1 (nI sp1) (nI pl1) (nI tk1) (nI vl1) m_ends m_letters m_actOf m_whom m_actMany m_tokens m_afters m_afterOf (nI ct1) m_pile m_caseMany m_happen m_hasIf m_becomes m_goneOf m_heard m_pairs m_heaps q_rounds q_heapMany m_led m_newAt m_knowing m_firsts q_people m_secrets m_tried m_lanes m_lengths m_cells g_am g_ac g_wh hnb_m_actMany_55 hsv2 (by omega) (by omega) ⟨by omega, hop_1, Or.inr hop0⟩) mi_X12_copyActs wl_X12_221 rfl 0 12 rfl rfl rfl rfl rfl dX12_say_161) (roK hro) [4, 0, 1, 2] [3, 5, 6, 7, 8, 9] rfl rfl rfl rfl (fun uz hw => ?_)
                  refine ex3 hw ?_
                  clear hw
                  intro f_actManyz_220 f_actOfz_221 f_whomz_222 hw
                  refine an5 hw ?_
                  clear hw
                  intro he_228 h_223 h_224 h_225 h_226 hw
                  have h_227 := hw
                  clear hw
                  subst he_228
                  refine ww_eq (ws' := [(m_tokens, .inl (E.2.1 1, 9, .inl f_tokens)), (m_tape, .inl (E.2.1 1, 160, .inl f_tape)), (m_ends, .inl (E.2.1 1, 15, .inl f_ends)), (m_letters, .inl (E.2.1 1, 50, .inl f_letters)), (m_afters, .inl (E.2.1 1, 9, .inl f_aftersz_184)), (m_afterOf, .inl (E.2.1 1, 18, .inl f_afterOfz_185)), (hm, .inr (12, [.ref m_manys, .ref m_reals, .ref m_factsOf, .ref m_possible, .int (nI q_undos), .int (nI q_models), .ref m_tape, .int 0, .int (nI wr1), .int (nI wr1), .int wa1, .int (nI sp1), .int (nI pl1), .int (nI tk1), .int (nI vl1), .ref m_ends, .ref m_letters, .ref m_actOf, .ref m_whom, .ref m_actMany, .ref m_tokens, .ref m_afters, .ref m_afterOf, .int (nI ct1), .ref m_pile, .ref m_caseMany, .ref m_happen, .ref m_hasIf, .ref m_becomes, .ref m_goneOf, .ref m_heard, .ref m_pairs, .ref m_heaps, .int q_rounds, .int q_heapMany, .ref m_led, .ref m_newAt, .ref m_knowing, .ref m_firsts, .int (nI q_people), .ref m_secrets, .ref m_tried, .ref m_lanes, .ref m_lengths, .ref m_cells])), (m_actMany, .inl (E.2.1 1, 25, .inl f_actManyz_220)), (m_actOf, .inl (E.2.1 1, 800, .inl f_actOfz_221)), (m_whom, .inl (E.2.1 1, 800, .inl f_whomz_222))]) ?_ rfl rfl rfl
                  refine ww_aload_n C dX12_say_164 1 rfl rfl ?_
                  refine ww_get C fg_X12_40 6 rfl rfl dX12_say_165 ?_
                  refine ww_iload_n C dX12_say_168 2 rfl rfl ?_
                  refine ww_aload_n C dX12_say_169 1 rfl rfl ?_
                  refine ww_get C fg_X12_191 6 rfl rfl dX12_say_170 ?_
                  obtain ⟨f_229, ef_229⟩ : ∃ z : Nat → Int32, upd f_tokens j_218 (nI ct1) = z := ⟨_, rfl⟩
                  refine ww_iast (ws' := [(m_tokens, .inl (E.2.1 1, 9, .inl f_229)), (m_tape, .inl (E.2.1 1, 160, .inl f_tape)), (m_ends, .inl (E.2.1 1, 15, .inl f_ends)), (m_letters, .inl (E.2.1 1, 50, .inl f_letters)), (m_afters, .inl (E.2.1 1, 9, .inl f_aftersz_184)), (m_afterOf, .inl (E.2.1 1, 18, .inl f_afterOfz_185)), (hm, .inr (12, [.ref m_manys, .ref m_reals, .ref m_factsOf, .ref m_possible, .int (nI q_undos), .int (nI q_models), .ref m_tape, .int 0, .int (nI wr1), .int (nI wr1), .int wa1, .int (nI sp1), .int (nI pl1), .int (nI tk1), .int (nI vl1), .ref m_ends, .ref m_letters, .ref m_actOf, .ref m_whom, .ref m_actMany, .ref m_tokens, .ref m_afters, .ref m_afterOf, .int (nI ct1), .ref m_pile, .ref m_caseMany, .ref m_happen, .ref m_hasIf, .ref m_becomes, .ref m_goneOf, .ref m_heard, .ref m_pairs, .ref m_heaps, .int q_rounds, .int q_heapMany, .ref m_led, .ref m_newAt, .ref m_knowing, .ref m_firsts, .int (nI q_people), .ref m_secrets, .ref m_tried, .ref m_lanes, .ref m_lengths, .ref m_cells])), (m_actMany, .inl (E.2.1 1, 25, .inl f_actManyz_220)), (m_actOf, .inl (E.2.1 1, 800, .inl f_actOfz_221)), (m_whom, .inl (E.2.1 1, 800, .inl f_whomz_222))]) C 0 rfl (vp_in_nI (by omega) (by omega)) (ldn2 (by omega) ef_229) rfl dX12_say_173 ?_
                  refine ww_aload_n C dX12_say_174 1 rfl rfl ?_
                  refine ww_get C fg_X12_43 6 rfl rfl dX12_say_175 ?_
                  refine ww_iload_n C dX12_say_178 2 rfl rfl ?_
                  refine ww_aload_n C dX12_say_179 1 rfl rfl ?_
                  refine ww_get C fg_X12_43 6 rfl rfl dX12_say_180 ?_
                  refine ww_bipush (v := 8) C dX12_say_183 rfl ?_
                  have hbx_230 := (h_190 8 (by omega)).2
                  refine ww_iald (v := (nI (cN f_aftersz_184 8))) C 4 rfl (vin rfl) (h_190 8 (by omega)).1 dX12_say_185 ?_
                  obtain ⟨f_231, ef_231⟩ : ∃ z : Nat → Int32, upd f_aftersz_184 j_218 (nI (cN f_aftersz_184 8)) = z := ⟨_, rfl⟩
                  refine ww_iast (ws' := [(m_tokens, .inl (E.2.1 1, 9, .inl f_229)), (m_tape, .inl (E.2.1 1, 160, .inl f_tape)), (m_ends, .inl (E.2.1 1, 15, .inl f_ends)), (m_letters, .inl (E.2.1 1, 50, .inl f_letters)), (m_afters, .inl (E.2.1 1, 9, .inl f_231)), (m_afterOf, .inl (E.2.1 1, 18, .inl f_afterOfz_185)), (hm, .inr (12, [.ref m_manys, .ref m_reals, .ref m_factsOf, .ref m_possible, .int (nI q_undos), .int (nI q_models), .ref m_tape, .int 0, .int (nI wr1), .int (nI wr1), .int wa1, .int (nI sp1), .int (nI pl1), .int (nI tk1), .int (nI vl1), .ref m_ends, .ref m_letters, .ref m_actOf, .ref m_whom, .ref m_actMany, .ref m_tokens, .ref m_afters, .ref m_afterOf, .int (nI ct1), .ref m_pile, .ref m_caseMany, .ref m_happen, .ref m_hasIf, .ref m_becomes, .ref m_goneOf, .ref m_heard, .ref m_pairs, .ref m_heaps, .int q_rounds, .int q_heapMany, .ref m_led, .ref m_newAt, .ref m_knowing, .ref m_firsts, .int (nI q_people), .ref m_secrets, .ref m_tried, .ref m_lanes, .ref m_lengths, .ref m_cells])), (m_actMany, .inl (E.2.1 1, 25, .inl f_actManyz_220)), (m_actOf, .inl (E.2.1 1, 800, .inl f_actOfz_221)), (m_whom, .inl (E.2.1 1, 800, .inl f_whomz_222))]) C 4 rfl (vp_in_nI (by omega) (by omega)) (ldn2 (by omega) ef_231) rfl dX12_say_186 ?_
                  refine ww_aload_n C dX12_say_187 1 rfl rfl ?_
                  refine ww_get C fg_X12_46 6 rfl rfl dX12_say_188 ?_
                  refine ww_iconst (v := 2) C dX12_say_191 rfl ?_
                  refine ww_iload_n C dX12_say_192 2 rfl rfl ?_
                  refine ww_imul (v := (nI (2 * j_218))) C dX12_say_193 (pk_mul 2 j_218) ?_
                  refine ww_aload_n C dX12_say_194 1 rfl rfl ?_
                  refine ww_get C fg_X12_46 6 rfl rfl dX12_say_195 ?_
                  refine ww_bipush (v := 16) C dX12_say_198 rfl ?_
                  have hbx_232 := (h_191 16 (by omega)).2
                  refine ww_iald (v := (nI (cN f_afterOfz_185 16))) C 5 rfl (vin rfl) (h_191 16 (by omega)).1 dX12_say_200 ?_
                  obtain ⟨f_233, ef_233⟩ : ∃ z : Nat → Int32, upd f_afterOfz_185 (2 * j_218) (nI (cN f_afterOfz_185 16)) = z := ⟨_, rfl⟩
                  refine ww_iast (ws' := [(m_tokens, .inl (E.2.1 1, 9, .inl f_229)), (m_tape, .inl (E.2.1 1, 160, .inl f_tape)), (m_ends, .inl (E.2.1 1, 15, .inl f_ends)), (m_letters, .inl (E.2.1 1, 50, .inl f_letters)), (m_afters, .inl (E.2.1 1, 9, .inl f_231)), (m_afterOf, .inl (E.2.1 1, 18, .inl f_233)), (hm, .inr (12, [.ref m_manys, .ref m_reals, .ref m_factsOf, .ref m_possible, .int (nI q_undos), .int (nI q_models), .ref m_tape, .int 0, .int (nI wr1), .int (nI wr1), .int wa1, .int (nI sp1), .int (nI pl1), .int (nI tk1), .int (nI vl1), .ref m_ends, .ref m_letters, .ref m_actOf, .ref m_whom, .ref m_actMany, .ref m_tokens, .ref m_afters, .ref m_afterOf, .int (nI ct1), .ref m_pile, .ref m_caseMany, .ref m_happen, .ref m_hasIf, .ref m_becomes, .ref m_goneOf, .ref m_heard, .ref m_pairs, .ref m_heaps, .int q_rounds, .int q_heapMany, .ref m_led, .ref m_newAt, .ref m_knowing, .ref m_firsts, .int (nI q_people), .ref m_secrets, .ref m_tried, .ref m_lanes, .ref m_lengths, .ref m_cells])), (m_actMany, .inl (E.2.1 1, 25, .inl f_actManyz_220)), (m_actOf, .inl (E.2.1 1, 800, .inl f_actOfz_221)), (m_whom, .inl (E.2.1 1, 800, .inl f_whomz_222))]) C 5 rfl (vp_in_nI (by omega) (by omega)) (ldn2 (by omega) ef_233) rfl dX12_say_201 ?_
                  refine ww_aload_n C dX12_say_202 1 rfl rfl ?_
                  refine ww_get C fg_X12_46 6 rfl rfl dX12_say_203 ?_
                  refine ww_iconst (v := 2) C dX12_say_206 rfl ?_
                  refine ww_iload_n C dX12_say_207 2 rfl rfl ?_
                  refine ww_imul (v := (nI (2 * j_218))) C dX12_say_208 (pk_mul 2 j_218) ?_
                  refine ww_iconst (v := 1) C dX12_say_209 rfl ?_
                  refine ww_iadd (v := (nI ((2 * j_218) + 1))) C dX12_say_210 (nI_add (2 * j_218) 1) ?_
                  refine ww_aload_n C dX12_say_211 1 rfl rfl ?_
                  refine ww_get C fg_X12_46 6 rfl rfl dX12_say_212 ?_
                  refine ww_bipush (v := 17) C dX12_say_215 rfl ?_
                  have hbx_234 := ((NB.put h_191 (t := cN f_afterOfz_185 16) (by omega) (by decide) ef_233) 17 (by omega)).2
                  refine ww_iald (v := (nI (cN f_233 17))) C 5 rfl (vin rfl) ((NB.put h_191 (t := cN f_afterOfz_185 16) (by omega) (by decide) ef_233) 17 (by omega)).1 dX12_say_217 ?_
                  obtain ⟨f_235, ef_235⟩ : ∃ z : Nat → Int32, upd f_233 ((2 * j_218) + 1) (nI (cN f_233 17)) = z := ⟨_, rfl⟩
                  refine ww_iast (ws' := [(m_tokens, .inl (E.2.1 1, 9, .inl f_229)), (m_tape, .inl (E.2.1 1, 160, .inl f_tape)), (m_ends, .inl (E.2.1 1, 15, .inl f_ends)), (m_letters, .inl (E.2.1 1, 50, .inl f_letters)), (m_afters, .inl (E.2.1 1, 9, .inl f_231)), (m_afterOf, .inl (E.2.1 1, 18, .inl f_235)), (hm, .inr (12, [.ref m_manys, .ref m_reals, .ref m_factsOf, .ref m_possible, .int (nI q_undos), .int (nI q_models), .ref m_tape, .int 0, .int (nI wr1), .int (nI wr1), .int wa1, .int (nI sp1), .int (nI pl1), .int (nI tk1), .int (nI vl1), .ref m_ends, .ref m_letters, .ref m_actOf, .ref m_whom, .ref m_actMany, .ref m_tokens, .ref m_afters, .ref m_afterOf, .int (nI ct1), .ref m_pile, .ref m_caseMany, .ref m_happen, .ref m_hasIf, .ref m_becomes, .ref m_goneOf, .ref m_heard, .ref m_pairs, .ref m_heaps, .int q_rounds, .int q_heapMany, .ref m_led, .ref m_newAt, .ref m_knowing, .ref m_firsts, .int (nI q_people), .ref m_secrets, .ref m_tried, .ref m_lanes, .ref m_lengths, .ref m_cells])), (m_actMany, .inl (E.2.1 1, 25, .inl f_actManyz_220)), (m_actOf, .inl (E.2.1 1, 800, .inl f_actOfz_221)), (m_whom, .inl (E.2.1 1, 800, .inl f_whomz_222))]) C 5 rfl (vp_in_nI (by omega) (by omega)) (ldn2 (by omega) ef_235) rfl dX12_say_218 ?_
                  refine ww_aload_n C dX12_say_219 1 rfl rfl ?_
                  refine ww_get C fg_X12_191 6 rfl rfl dX12_say_220 ?_
                  exact ww_iret (u := [(hm, .inr (12, [.ref m_manys, .ref m_reals, .ref m_factsOf, .ref m_possible, .int (nI q_undos), .int (nI q_models), .ref m_tape, .int 0, .int (nI wr1), .int (nI wr1), .int wa1, .int (nI sp1), .int (nI pl1), .int (nI tk1), .int (nI vl1), .ref m_ends, .ref m_letters, .ref m_actOf, .ref m_whom, .ref m_actMany, .ref m_tokens, .ref m_afters, .ref m_afterOf, .int (nI ct1), .ref m_pile, .ref m_caseMany, .ref m_happen, .ref m_hasIf, .ref m_becomes, .ref m_goneOf, .ref m_heard, .ref m_pairs, .ref m_heaps, .int q_rounds, .int q_heapMany, .ref m_led, .ref m_newAt, .ref m_knowing, .ref m_firsts, .int (nI q_people), .ref m_secrets, .ref m_tried, .ref m_lanes, .ref m_lengths, .ref m_cells])), (m_tape, .inl (E.2.1 1, 160, .inl f_tape)), (m_ends, .inl (E.2.1 1, 15, .inl f_ends)), (m_letters, .inl (E.2.1 1, 50, .inl f_letters)), (m_actMany, .inl (E.2.1 1, 25, .inl f_actManyz_220)), (m_actOf, .inl (E.2.1 1, 800, .inl f_actOfz_221)), (m_whom, .inl (E.2.1 1, 800, .inl f_whomz_222)), (m_tokens, .inl (E.2.1 1, 9, .inl f_229)), (m_afters, .inl (E.2.1 1, 9, .inl f_231)), (m_afterOf, .inl (E.2.1 1, 18, .inl f_235))]) C hT [6, 1, 2, 3, 7, 8, 9, 0, 4, 5] rfl rfl rfl rfl dX12_say_223 (Or.inr ⟨(nI wr1), (nI wr1), wa1, (nI sp1), (nI pl1), (nI ct1), tk1, vl1, f_actManyz_220, f_actOfz_221, f_whomz_222, f_229, f_231, f_235, rfl, h_223, (NB.put h_190 (t := cN f_aftersz_184 8) (by omega) (by decide) ef_231), (NB.put (NB.put h_191 (t := cN f_afterOfz_185 16) (by omega) (by decide) ef_233) (t := cN f_233 17) (by omega) (by decide) ef_235), h_224, (by omega), (by omega), (by omega), (by omega)⟩)
                · have zc_217 : ((wr1 : Nat) : Int) > 0 := i_nle (nI_toInt (n := wr1) (by omega)) rfl c_217
                  omega
              · have zc_216 : ((tk1 : Nat) : Int) ≠ 0 := i_ne (nI_toInt (n := tk1) (by omega)) rfl c_216
                refine ww_aload_n C dX12_say_124 1 rfl rfl ?_
                refine ww_iconst (v := 2) C dX12_say_125 rfl ?_
                refine ww_cv (wr := [(m_actMany, .inl (E.2.1 1, 25, .inl g_am)), (m_actOf, .inl (E.2.1 1, 800, .inl g_ac)), (m_whom, .inl (E.2.1 1, 800, .inl g_wh)), (m_tokens, .inl (E.2.1 1, 9, .inl f_tokens)), (m_tape, .inl (E.2.1 1, 160, .inl f_tape)), (m_ends, .inl (E.2.1 1, 15, .inl f_ends)), (m_letters, .inl (E.2.1 1, 50, .inl f_letters)), (m_afters, .inl (E.2.1 1, 9, .inl f_aftersz_184)), (m_afterOf, .inl (E.2.1 1, 18, .inl f_afterOfz_185))]) (k' := 0) (n' := 0) C (run_V (As := [.int 2]) (rest := []) C (r_fails X.2.1 E ro hm 2 m_manys m_reals m_factsOf m_possible q_undos q_models m_tape q_taped q_fault wr1 wa1 (nI sp1) (nI pl1) (nI tk1) (nI vl1) m_ends m_letters m_actOf m_whom m_actMany m_tokens m_afters m_afterOf (nI ct1) m_pile m_caseMany m_happen m_hasIf m_becomes m_goneOf m_heard m_pairs m_heaps q_rounds q_heapMany m_led m_newAt m_knowing m_firsts q_people m_secrets m_tried m_lanes m_lengths m_cells (by omega)) mi_X12_fails wl_X12_186 rfl 0 12 rfl rfl rfl rfl rfl dX12_say_126) (roK hro) [4] [0, 1, 2, 3, 5, 6, 7, 8, 9] rfl rfl rfl rfl (fun uz hw => ?_)
                rcases hw with hw | hw
                · refine an1 hw ?_
                  clear hw
                  intro he_238 hw
                  have h_237 := hw
                  clear hw
                  subst he_238
                  refine ww_eq (ws' := [(m_actMany, .inl (E.2.1 1, 25, .inl g_am)), (m_actOf, .inl (E.2.1 1, 800, .inl g_ac)), (m_whom, .inl (E.2.1 1, 800, .inl g_wh)), (m_tokens, .inl (E.2.1 1, 9, .inl f_tokens)), (m_tape, .inl (E.2.1 1, 160, .inl f_tape)), (m_ends, .inl (E.2.1 1, 15, .inl f_ends)), (m_letters, .inl (E.2.1 1, 50, .inl f_letters)), (m_afters, .inl (E.2.1 1, 9, .inl f_aftersz_184)), (m_afterOf, .inl (E.2.1 1, 18, .inl f_afterOfz_185)), (hm, .inr (12, [.ref m_manys, .ref m_reals, .ref m_factsOf, .ref m_possible, .int (nI q_undos), .int (nI q_models), .ref m_tape, .int (nI q_taped), .int q_fault, .int 2, .int (nI pl1), .int (nI sp1), .int (nI pl1), .int (nI tk1), .int (nI vl1), .ref m_ends, .ref m_letters, .ref m_actOf, .ref m_whom, .ref m_actMany, .ref m_tokens, .ref m_afters, .ref m_afterOf, .int (nI ct1), .ref m_pile, .ref m_caseMany, .ref m_happen, .ref m_hasIf, .ref m_becomes, .ref m_goneOf, .ref m_heard, .ref m_pairs, .ref m_heaps, .int q_rounds, .int q_heapMany, .ref m_led, .ref m_newAt, .ref m_knowing, .ref m_firsts, .int (nI q_people), .ref m_secrets, .ref m_tried, .ref m_lanes, .ref m_lengths, .ref m_cells]))]) ?_ rfl rfl rfl
                  refine ww_aload_n C dX12_say_129 1 rfl rfl ?_
                  refine ww_iconst (v := 0) C dX12_say_130 rfl ?_
                  refine ww_put (ws' := [(m_actMany, .inl (E.2.1 1, 25, .inl g_am)), (m_actOf, .inl (E.2.1 1, 800, .inl g_ac)), (m_whom, .inl (E.2.1 1, 800, .inl g_wh)), (m_tokens, .inl (E.2.1 1, 9, .inl f_tokens)), (m_tape, .inl (E.2.1 1, 160, .inl f_tape)), (m_ends, .inl (E.2.1 1, 15, .inl f_ends)), (m_letters, .inl (E.2.1 1, 50, .inl f_letters)), (m_afters, .inl (E.2.1 1, 9, .inl f_aftersz_184)), (m_afterOf, .inl (E.2.1 1, 18, .inl f_afterOfz_185)), (hm, .inr (12, [.ref m_manys, .ref m_reals, .ref m_factsOf, .ref m_possible, .int (nI q_undos), .int (nI q_models), .ref m_tape, .int 0, .int q_fault, .int 2, .int (nI pl1), .int (nI sp1), .int (nI pl1), .int (nI tk1), .int (nI vl1), .ref m_ends, .ref m_letters, .ref m_actOf, .ref m_whom, .ref m_actMany, .ref m_tokens, .ref m_afters, .ref m_afterOf, .int (nI ct1), .ref m_pile, .ref m_caseMany, .ref m_happen, .ref m_hasIf, .ref m_becomes, .ref m_goneOf, .ref m_heard, .ref m_pairs, .ref m_heaps, .int q_rounds, .int q_heapMany, .ref m_led, .ref m_newAt, .ref m_knowing, .ref m_firsts, .int (nI q_people), .ref m_secrets, .ref m_tried, .ref m_lanes, .ref m_lengths, .ref m_cells]))]) C fp_X12_154 9 rfl rfl rfl rfl rfl dX12_say_131 ?_
                  refine ww_aload_n C dX12_say_134 1 rfl rfl ?_
                  refine ww_aload_n C dX12_say_135 1 rfl rfl ?_
                  refine ww_get C fg_X12_157 9 rfl rfl dX12_say_136 ?_
                  refine ww_put (ws' := [(m_actMany, .inl (E.2.1 1, 25, .inl g_am)), (m_actOf, .inl (E.2.1 1, 800, .inl g_ac)), (m_whom, .inl (E.2.1 1, 800, .inl g_wh)), (m_tokens, .inl (E.2.1 1, 9, .inl f_tokens)), (m_tape, .inl (E.2.1 1, 160, .inl f_tape)), (m_ends, .inl (E.2.1 1, 15, .inl f_ends)), (m_letters, .inl (E.2.1 1, 50, .inl f_letters)), (m_afters, .inl (E.2.1 1, 9, .inl f_aftersz_184)), (m_afterOf, .inl (E.2.1 1, 18, .inl f_afterOfz_185)), (hm, .inr (12, [.ref m_manys, .ref m_reals, .ref m_factsOf, .ref m_possible, .int (nI q_undos), .int (nI q_models), .ref m_tape, .int 0, .int 2, .int 2, .int (nI pl1), .int (nI sp1), .int (nI pl1), .int (nI tk1), .int (nI vl1), .ref m_ends, .ref m_letters, .ref m_actOf, .ref m_whom, .ref m_actMany, .ref m_tokens, .ref m_afters, .ref m_afterOf, .int (nI ct1), .ref m_pile, .ref m_caseMany, .ref m_happen, .ref m_hasIf, .ref m_becomes, .ref m_goneOf, .ref m_heard, .ref m_pairs, .ref m_heaps, .int q_rounds, .int q_heapMany, .ref m_led, .ref m_newAt, .ref m_knowing, .ref m_firsts, .int (nI q_people), .ref m_secrets, .ref m_tried, .ref m_lanes, .ref m_lengths, .ref m_cells]))]) C fp_X12_218 9 rfl rfl rfl rfl rfl dX12_say_139 ?_
                  refine ww_aload_n C dX12_say_142 1 rfl rfl ?_
                  refine ww_get C fg_X12_157 9 rfl rfl dX12_say_143 ?_
                  refine ww_if_le_f (tgt := 157) C dX12_say_146 (by decide) (by decide) ?_
                  refine ww_bipush (v := (-10)) C dX12_say_149 rfl ?_
                  refine ww_aload_n C dX12_say_151 1 rfl rfl ?_
                  refine ww_get C fg_X12_163 9 rfl rfl dX12_say_152 ?_
                  obtain ⟨x_241, ex_241⟩ : ∃ z : Int32, ((-10) : Int32) - (nI pl1) = z := ⟨_, rfl⟩
                  refine ww_isub (v := x_241) C dX12_say_155 ex_241 ?_
                  exact ww_iret (u := [(hm, .inr (12, [.ref m_manys, .ref m_reals, .ref m_factsOf, .ref m_possible, .int (nI q_undos), .int (nI q_models), .ref m_tape, .int 0, .int 2, .int 2, .int (nI pl1), .int (nI sp1), .int (nI pl1), .int (nI tk1), .int (nI vl1), .ref m_ends, .ref m_letters, .ref m_actOf, .ref m_whom, .ref m_actMany, .ref m_tokens, .ref m_afters, .ref m_afterOf, .int (nI ct1), .ref m_pile, .ref m_caseMany, .ref m_happen, .ref m_hasIf, .ref m_becomes, .ref m_goneOf, .ref m_heard, .ref m_pairs, .ref m_heaps, .int q_rounds, .int q_heapMany, .ref m_led, .ref m_newAt, .ref m_knowing, .ref m_firsts, .int (nI q_people), .ref m_secrets, .ref m_tried, .ref m_lanes, .ref m_lengths, .ref m_cells])), (m_tape, .inl (E.2.1 1, 160, .inl f_tape)), (m_ends, .inl (E.2.1 1, 15, .inl f_ends)), (m_letters, .inl (E.2.1 1, 50, .inl f_letters)), (m_actMany, .inl (E.2.1 1, 25, .inl g_am)), (m_actOf, .inl (E.2.1 1, 800, .inl g_ac)), (m_whom, .inl (E.2.1 1, 800, .inl g_wh)), (m_tokens, .inl (E.2.1 1, 9, .inl f_tokens)), (m_afters, .inl (E.2.1 1, 9, .inl f_aftersz_184)), (m_afterOf, .inl (E.2.1 1, 18, .inl f_afterOfz_185))]) C hT [9, 4, 5, 6, 0, 1, 2, 3, 7, 8] rfl rfl rfl rfl dX12_say_156 (Or.inr ⟨2, 2, (nI pl1), (nI sp1), (nI pl1), (nI ct1), tk1, vl1, g_am, g_ac, g_wh, f_tokens, f_aftersz_184, f_afterOfz_185, rfl, hnb_m_actMany_55, h_190, h_191, (SV.keep hsv hko hkm), (by omega), (by omega), (by omega), (by omega)⟩)
                · refine an1 hw ?_
                  clear hw
                  intro he_240 hw
                  have h_239 := hw
                  clear hw
                  subst he_240
                  omega
          · have zc_194 : ((wr1 : Nat) : Int) = 0 := i_eq (nI_toInt (n := wr1) (by omega)) rfl c_194
            refine ww_iload_n C dX12_say_62 0 rfl rfl ?_
            refine ww_if_le (tgt := 110) C dX12_say_63 (by decide) (fun c_242 => ?_) (fun c_242 => ?_)
            · have zc_242 : ((op1 : Nat) : Int) ≤ 0 := i_le (nI_toInt (n := op1) (by omega)) rfl c_242
              refine ww_aload_n C dX12_say_110 1 rfl rfl ?_
              refine ww_get C fg_X12_157 4 rfl rfl dX12_say_111 ?_
              refine ww_if_ne (tgt := 129) C dX12_say_114 (by decide) (fun c_243 => ?_) (fun c_243 => ?_)
              · have zc_243 : ((wr1 : Nat) : Int) ≠ 0 := i_ne (nI_toInt (n := wr1) (by omega)) rfl c_243
                omega
              · have zc_243 : ((wr1 : Nat) : Int) = 0 := i_eq (nI_toInt (n := wr1) (by omega)) rfl c_243
                refine ww_aload_n C dX12_say_117 1 rfl rfl ?_
                refine ww_get C fg_X12_175 4 rfl rfl dX12_say_118 ?_
                refine ww_if_eq (tgt := 129) C dX12_say_121 (by decide) (fun c_244 => ?_) (fun c_244 => ?_)
                · have zc_244 : ((tk1 : Nat) : Int) = 0 := i_eq (nI_toInt (n := tk1) (by omega)) rfl c_244
                  refine ww_aload_n C dX12_say_129 1 rfl rfl ?_
                  refine ww_iconst (v := 0) C dX12_say_130 rfl ?_
                  refine ww_put (ws' := [(m_actMany, .inl (E.2.1 1, 25, .inl g_am)), (m_actOf, .inl (E.2.1 1, 800, .inl g_ac)), (m_whom, .inl (E.2.1 1, 800, .inl g_wh)), (m_tokens, .inl (E.2.1 1, 9, .inl f_tokens)), (hm, .inr (12, [.ref m_manys, .ref m_reals, .ref m_factsOf, .ref m_possible, .int (nI q_undos), .int (nI q_models), .ref m_tape, .int 0, .int q_fault, .int (nI wr1), .int wa1, .int (nI sp1), .int (nI pl1), .int (nI tk1), .int (nI vl1), .ref m_ends, .ref m_letters, .ref m_actOf, .ref m_whom, .ref m_actMany, .ref m_tokens, .ref m_afters, .ref m_afterOf, .int (nI ct1), .ref m_pile, .ref m_caseMany, .ref m_happen, .ref m_hasIf, .ref m_becomes, .ref m_goneOf, .ref m_heard, .ref m_pairs, .ref m_heaps, .int q_rounds, .int q_heapMany, .ref m_led, .ref m_newAt, .ref m_knowing, .ref m_firsts, .int (nI q_people), .ref m_secrets, .ref m_tried, .ref m_lanes, .ref m_lengths, .ref m_cells])), (m_tape, .inl (E.2.1 1, 160, .inl f_tape)), (m_ends, .inl (E.2.1 1, 15, .inl f_ends)), (m_letters, .inl (E.2.1 1, 50, .inl f_letters)), (m_afters, .inl (E.2.1 1, 9, .inl f_aftersz_184)), (m_afterOf, .inl (E.2.1 1, 18, .inl f_afterOfz_185))]) C fp_X12_154 4 rfl rfl rfl rfl rfl dX12_say_131 ?_
                  refine ww_aload_n C dX12_say_134 1 rfl rfl ?_
                  refine ww_aload_n C dX12_say_135 1 rfl rfl ?_
                  refine ww_get C fg_X12_157 4 rfl rfl dX12_say_136 ?_
                  refine ww_put (ws' := [(m_actMany, .inl (E.2.1 1, 25, .inl g_am)), (m_actOf, .inl (E.2.1 1, 800, .inl g_ac)), (m_whom, .inl (E.2.1 1, 800, .inl g_wh)), (m_tokens, .inl (E.2.1 1, 9, .inl f_tokens)), (hm, .inr (12, [.ref m_manys, .ref m_reals, .ref m_factsOf, .ref m_possible, .int (nI q_undos), .int (nI q_models), .ref m_tape, .int 0, .int (nI wr1), .int (nI wr1), .int wa1, .int (nI sp1), .int (nI pl1), .int (nI tk1), .int (nI vl1), .ref m_ends, .ref m_letters, .ref m_actOf, .ref m_whom, .ref m_actMany, .ref m_tokens, .ref m_afters, .ref m_afterOf, .int (nI ct1), .ref m_pile, .ref m_caseMany, .ref m_happen, .ref m_hasIf, .ref m_becomes, .ref m_goneOf, .ref m_heard, .ref m_pairs, .ref m_heaps, .int q_rounds, .int q_heapMany, .ref m_led, .ref m_newAt, .ref m_knowing, .ref m_firsts, .int (nI q_people), .ref m_secrets, .ref m_tried, .ref m_lanes, .ref m_lengths, .ref m_cells])), (m_tape, .inl (E.2.1 1, 160, .inl f_tape)), (m_ends, .inl (E.2.1 1, 15, .inl f_ends)), (m_letters, .inl (E.2.1 1, 50, .inl f_letters)), (m_afters, .inl (E.2.1 1, 9, .inl f_aftersz_184)), (m_afterOf, .inl (E.2.1 1, 18, .inl f_afterOfz_185))]) C fp_X12_218 4 rfl rfl rfl rfl rfl dX12_say_139 ?_
                  refine ww_aload_n C dX12_say_142 1 rfl rfl ?_
                  refine ww_get C fg_X12_157 4 rfl rfl dX12_say_143 ?_
                  refine ww_if_le (tgt := 157) C dX12_say_146 (by decide) (fun c_245 => ?_) (fun c_245 => ?_)
                  · have zc_245 : ((wr1 : Nat) : Int) ≤ 0 := i_le (nI_toInt (n := wr1) (by omega)) rfl c_245
                    obtain ⟨j_246, hj_246, rfl⟩ := i_nat (x := v0) (N := 7) (by omega) (by omega)
                    have hzj_246 := nI_toInt (n := j_246) (by omega)
                    have hw0 : wr1 = 0 := by omega
                    obtain ⟨hop_1, hop_2, hop_3, hop_4⟩ := hop hw0
                    have hsv2 := SV.keep hsv hko hkm
                    have hop0 : opr (slot g_ac 24) (cN g_am 24) = 0 := by omega
                    refine ww_aload_n C dX12_say_157 1 rfl rfl ?_
                    refine ww_bipush (v := 24) C dX12_say_158 rfl ?_
                    refine ww_iload_n C dX12_say_160 2 rfl rfl ?_
                    refine ww_cv (wr := [(m_tokens, .inl (E.2.1 1, 9, .inl f_tokens)), (m_tape, .inl (E.2.1 1, 160, .inl f_tape)), (m_ends, .inl (E.2.1 1, 15, .inl f_ends)), (m_letters, .inl (E.2.1 1, 50, .inl f_letters)), (m_afters, .inl (E.2.1 1, 9, .inl f_aftersz_184)), (m_afterOf, .inl (E.2.1 1, 18, .inl f_afterOfz_185))]) (k' := 0) (n' := 0) C (run_V (As := [.int 24, .int (nI j_246)]) (rest := []) C (r_copyActs X.2.1 E ro hm 24 j_246 m_manys m_reals m_factsOf m_possible q_undos q_models m_tape 0 (nI wr1) (nI wr1) wa1 (nI sp1) (nI pl1) (nI tk1) (nI vl1) m_ends m_letters m_actOf m_whom m_actMany m_tokens m_afters m_afterOf (nI ct1) m_pile m_caseMany m_happen m_hasIf m_becomes m_goneOf m_heard m_pairs m_heaps q_rounds q_heapMany m_led m_newAt m_knowing m_firsts q_people m_secrets m_tried m_lanes m_lengths m_cells g_am g_ac g_wh hnb_m_actMany_55 hsv2 (by omega) (by omega) ⟨by omega, hop_1, Or.inr hop0⟩) mi_X12_copyActs wl_X12_221 rfl 0 12 rfl rfl rfl rfl rfl dX12_say_161) (roK hro) [4, 0, 1, 2] [3, 5, 6, 7, 8, 9] rfl rfl rfl rfl (fun uz hw => ?_)
                    refine ex3 hw ?_
                    clear hw
                    intro f_actManyz_248 f_actOfz_249 f_whomz_250 hw
                    refine an5 hw ?_
                    clear hw
                    intro he_256 h_251 h_252 h_253 h_254 hw
                    have h_255 := hw
                    clear hw
                    subst he_256
                    refine ww_eq (ws' := [(m_tokens, .inl (E.2.1 1, 9, .inl f_tokens)), (m_tape, .inl (E.2.1 1, 160, .inl f_tape)), (m_ends, .inl (E.2.1 1, 15, .inl f_ends)), (m_letters, .inl (E.2.1 1, 50, .inl f_letters)), (m_afters, .inl (E.2.1 1, 9, .inl f_aftersz_184)), (m_afterOf, .inl (E.2.1 1, 18, .inl f_afterOfz_185)), (hm, .inr (12, [.ref m_manys, .ref m_reals, .ref m_factsOf, .ref m_possible, .int (nI q_undos), .int (nI q_models), .ref m_tape, .int 0, .int (nI wr1), .int (nI wr1), .int wa1, .int (nI sp1), .int (nI pl1), .int (nI tk1), .int (nI vl1), .ref m_ends, .ref m_letters, .ref m_actOf, .ref m_whom, .ref m_actMany, .ref m_tokens, .ref m_afters, .ref m_afterOf, .int (nI ct1), .ref m_pile, .ref m_caseMany, .ref m_happen, .ref m_hasIf, .ref m_becomes, .ref m_goneOf, .ref m_heard, .ref m_pairs, .ref m_heaps, .int q_rounds, .int q_heapMany, .ref m_led, .ref m_newAt, .ref m_knowing, .ref m_firsts, .int (nI q_people), .ref m_secrets, .ref m_tried, .ref m_lanes, .ref m_lengths, .ref m_cells])), (m_actMany, .inl (E.2.1 1, 25, .inl f_actManyz_248)), (m_actOf, .inl (E.2.1 1, 800, .inl f_actOfz_249)), (m_whom, .inl (E.2.1 1, 800, .inl f_whomz_250))]) ?_ rfl rfl rfl
                    refine ww_aload_n C dX12_say_164 1 rfl rfl ?_
                    refine ww_get C fg_X12_40 6 rfl rfl dX12_say_165 ?_
                    refine ww_iload_n C dX12_say_168 2 rfl rfl ?_
                    refine ww_aload_n C dX12_say_169 1 rfl rfl ?_
                    refine ww_get C fg_X12_191 6 rfl rfl dX12_say_170 ?_
                    obtain ⟨f_257, ef_257⟩ : ∃ z : Nat → Int32, upd f_tokens j_246 (nI ct1) = z := ⟨_, rfl⟩
                    refine ww_iast (ws' := [(m_tokens, .inl (E.2.1 1, 9, .inl f_257)), (m_tape, .inl (E.2.1 1, 160, .inl f_tape)), (m_ends, .inl (E.2.1 1, 15, .inl f_ends)), (m_letters, .inl (E.2.1 1, 50, .inl f_letters)), (m_afters, .inl (E.2.1 1, 9, .inl f_aftersz_184)), (m_afterOf, .inl (E.2.1 1, 18, .inl f_afterOfz_185)), (hm, .inr (12, [.ref m_manys, .ref m_reals, .ref m_factsOf, .ref m_possible, .int (nI q_undos), .int (nI q_models), .ref m_tape, .int 0, .int (nI wr1), .int (nI wr1), .int wa1, .int (nI sp1), .int (nI pl1), .int (nI tk1), .int (nI vl1), .ref m_ends, .ref m_letters, .ref m_actOf, .ref m_whom, .ref m_actMany, .ref m_tokens, .ref m_afters, .ref m_afterOf, .int (nI ct1), .ref m_pile, .ref m_caseMany, .ref m_happen, .ref m_hasIf, .ref m_becomes, .ref m_goneOf, .ref m_heard, .ref m_pairs, .ref m_heaps, .int q_rounds, .int q_heapMany, .ref m_led, .ref m_newAt, .ref m_knowing, .ref m_firsts, .int (nI q_people), .ref m_secrets, .ref m_tried, .ref m_lanes, .ref m_lengths, .ref m_cells])), (m_actMany, .inl (E.2.1 1, 25, .inl f_actManyz_248)), (m_actOf, .inl (E.2.1 1, 800, .inl f_actOfz_249)), (m_whom, .inl (E.2.1 1, 800, .inl f_whomz_250))]) C 0 rfl (vp_in_nI (by omega) (by omega)) (ldn2 (by omega) ef_257) rfl dX12_say_173 ?_
                    refine ww_aload_n C dX12_say_174 1 rfl rfl ?_
                    refine ww_get C fg_X12_43 6 rfl rfl dX12_say_175 ?_
                    refine ww_iload_n C dX12_say_178 2 rfl rfl ?_
                    refine ww_aload_n C dX12_say_179 1 rfl rfl ?_
                    refine ww_get C fg_X12_43 6 rfl rfl dX12_say_180 ?_
                    refine ww_bipush (v := 8) C dX12_say_183 rfl ?_
                    have hbx_258 := (h_190 8 (by omega)).2
                    refine ww_iald (v := (nI (cN f_aftersz_184 8))) C 4 rfl (vin rfl) (h_190 8 (by omega)).1 dX12_say_185 ?_
                    obtain ⟨f_259, ef_259⟩ : ∃ z : Nat → Int32, upd f_aftersz_184 j_246 (nI (cN f_aftersz_184 8)) = z := ⟨_, rfl⟩
                    refine ww_iast (ws' := [(m_tokens, .inl (E.2.1 1, 9, .inl f_257)), (m_tape, .inl (E.2.1 1, 160, .inl f_tape)), (m_ends, .inl (E.2.1 1, 15, .inl f_ends)), (m_letters, .inl (E.2.1 1, 50, .inl f_letters)), (m_afters, .inl (E.2.1 1, 9, .inl f_259)), (m_afterOf, .inl (E.2.1 1, 18, .inl f_afterOfz_185)), (hm, .inr (12, [.ref m_manys, .ref m_reals, .ref m_factsOf, .ref m_possible, .int (nI q_undos), .int (nI q_models), .ref m_tape, .int 0, .int (nI wr1), .int (nI wr1), .int wa1, .int (nI sp1), .int (nI pl1), .int (nI tk1), .int (nI vl1), .ref m_ends, .ref m_letters, .ref m_actOf, .ref m_whom, .ref m_actMany, .ref m_tokens, .ref m_afters, .ref m_afterOf, .int (nI ct1), .ref m_pile, .ref m_caseMany, .ref m_happen, .ref m_hasIf, .ref m_becomes, .ref m_goneOf, .ref m_heard, .ref m_pairs, .ref m_heaps, .int q_rounds, .int q_heapMany, .ref m_led, .ref m_newAt, .ref m_knowing, .ref m_firsts, .int (nI q_people), .ref m_secrets, .ref m_tried, .ref m_lanes, .ref m_lengths, .ref m_cells])), (m_actMany, .inl (E.2.1 1, 25, .inl f_actManyz_248)), (m_actOf, .inl (E.2.1 1, 800, .inl f_actOfz_249)), (m_whom, .inl (E.2.1 1, 800, .inl f_whomz_250))]) C 4 rfl (vp_in_nI (by omega) (by omega)) (ldn2 (by omega) ef_259) rfl dX12_say_186 ?_
                    refine ww_aload_n C dX12_say_187 1 rfl rfl ?_
                    refine ww_get C fg_X12_46 6 rfl rfl dX12_say_188 ?_
                    refine ww_iconst (v := 2) C dX12_say_191 rfl ?_
                    refine ww_iload_n C dX12_say_192 2 rfl rfl ?_
                    refine ww_imul (v := (nI (2 * j_246))) C dX12_say_193 (pk_mul 2 j_246) ?_
                    refine ww_aload_n C dX12_say_194 1 rfl rfl ?_
                    refine ww_get C fg_X12_46 6 rfl rfl dX12_say_195 ?_
                    refine ww_bipush (v := 16) C dX12_say_198 rfl ?_
                    have hbx_260 := (h_191 16 (by omega)).2
                    refine ww_iald (v := (nI (cN f_afterOfz_185 16))) C 5 rfl (vin rfl) (h_191 16 (by omega)).1 dX12_say_200 ?_
                    obtain ⟨f_261, ef_261⟩ : ∃ z : Nat → Int32, upd f_afterOfz_185 (2 * j_246) (nI (cN f_afterOfz_185 16)) = z := ⟨_, rfl⟩
                    refine ww_iast (ws' := [(m_tokens, .inl (E.2.1 1, 9, .inl f_257)), (m_tape, .inl (E.2.1 1, 160, .inl f_tape)), (m_ends, .inl (E.2.1 1, 15, .inl f_ends)), (m_letters, .inl (E.2.1 1, 50, .inl f_letters)), (m_afters, .inl (E.2.1 1, 9, .inl f_259)), (m_afterOf, .inl (E.2.1 1, 18, .inl f_261)), (hm, .inr (12, [.ref m_manys, .ref m_reals, .ref m_factsOf, .ref m_possible, .int (nI q_undos), .int (nI q_models), .ref m_tape, .int 0, .int (nI wr1), .int (nI wr1), .int wa1, .int (nI sp1), .int (nI pl1), .int (nI tk1), .int (nI vl1), .ref m_ends, .ref m_letters, .ref m_actOf, .ref m_whom, .ref m_actMany, .ref m_tokens, .ref m_afters, .ref m_afterOf, .int (nI ct1), .ref m_pile, .ref m_caseMany, .ref m_happen, .ref m_hasIf, .ref m_becomes, .ref m_goneOf, .ref m_heard, .ref m_pairs, .ref m_heaps, .int q_rounds, .int q_heapMany, .ref m_led, .ref m_newAt, .ref m_knowing, .ref m_firsts, .int (nI q_people), .ref m_secrets, .ref m_tried, .ref m_lanes, .ref m_lengths, .ref m_cells])), (m_actMany, .inl (E.2.1 1, 25, .inl f_actManyz_248)), (m_actOf, .inl (E.2.1 1, 800, .inl f_actOfz_249)), (m_whom, .inl (E.2.1 1, 800, .inl f_whomz_250))]) C 5 rfl (vp_in_nI (by omega) (by omega)) (ldn2 (by omega) ef_261) rfl dX12_say_201 ?_
                    refine ww_aload_n C dX12_say_202 1 rfl rfl ?_
                    refine ww_get C fg_X12_46 6 rfl rfl dX12_say_203 ?_
                    refine ww_iconst (v := 2) C dX12_say_206 rfl ?_
                    refine ww_iload_n C dX12_say_207 2 rfl rfl ?_
                    refine ww_imul (v := (nI (2 * j_246))) C dX12_say_208 (pk_mul 2 j_246) ?_
                    refine ww_iconst (v := 1) C dX12_say_209 rfl ?_
                    refine ww_iadd (v := (nI ((2 * j_246) + 1))) C dX12_say_210 (nI_add (2 * j_246) 1) ?_
                    refine ww_aload_n C dX12_say_211 1 rfl rfl ?_
                    refine ww_get C fg_X12_46 6 rfl rfl dX12_say_212 ?_
                    refine ww_bipush (v := 17) C dX12_say_215 rfl ?_
                    have hbx_262 := ((NB.put h_191 (t := cN f_afterOfz_185 16) (by omega) (by decide) ef_261) 17 (by omega)).2
                    refine ww_iald (v := (nI (cN f_261 17))) C 5 rfl (vin rfl) ((NB.put h_191 (t := cN f_afterOfz_185 16) (by omega) (by decide) ef_261) 17 (by omega)).1 dX12_say_217 ?_
                    obtain ⟨f_263, ef_263⟩ : ∃ z : Nat → Int32, upd f_261 ((2 * j_246) + 1) (nI (cN f_261 17)) = z := ⟨_, rfl⟩
                    refine ww_iast (ws' := [(m_tokens, .inl (E.2.1 1, 9, .inl f_257)), (m_tape, .inl (E.2.1 1, 160, .inl f_tape)), (m_ends, .inl (E.2.1 1, 15, .inl f_ends)), (m_letters, .inl (E.2.1 1, 50, .inl f_letters)), (m_afters, .inl (E.2.1 1, 9, .inl f_259)), (m_afterOf, .inl (E.2.1 1, 18, .inl f_263)), (hm, .inr (12, [.ref m_manys, .ref m_reals, .ref m_factsOf, .ref m_possible, .int (nI q_undos), .int (nI q_models), .ref m_tape, .int 0, .int (nI wr1), .int (nI wr1), .int wa1, .int (nI sp1), .int (nI pl1), .int (nI tk1), .int (nI vl1), .ref m_ends, .ref m_letters, .ref m_actOf, .ref m_whom, .ref m_actMany, .ref m_tokens, .ref m_afters, .ref m_afterOf, .int (nI ct1), .ref m_pile, .ref m_caseMany, .ref m_happen, .ref m_hasIf, .ref m_becomes, .ref m_goneOf, .ref m_heard, .ref m_pairs, .ref m_heaps, .int q_rounds, .int q_heapMany, .ref m_led, .ref m_newAt, .ref m_knowing, .ref m_firsts, .int (nI q_people), .ref m_secrets, .ref m_tried, .ref m_lanes, .ref m_lengths, .ref m_cells])), (m_actMany, .inl (E.2.1 1, 25, .inl f_actManyz_248)), (m_actOf, .inl (E.2.1 1, 800, .inl f_actOfz_249)), (m_whom, .inl (E.2.1 1, 800, .inl f_whomz_250))]) C 5 rfl (vp_in_nI (by omega) (by omega)) (ldn2 (by omega) ef_263) rfl dX12_say_218 ?_
                    refine ww_aload_n C dX12_say_219 1 rfl rfl ?_
                    refine ww_get C fg_X12_191 6 rfl rfl dX12_say_220 ?_
                    exact ww_iret (u := [(hm, .inr (12, [.ref m_manys, .ref m_reals, .ref m_factsOf, .ref m_possible, .int (nI q_undos), .int (nI q_models), .ref m_tape, .int 0, .int (nI wr1), .int (nI wr1), .int wa1, .int (nI sp1), .int (nI pl1), .int (nI tk1), .int (nI vl1), .ref m_ends, .ref m_letters, .ref m_actOf, .ref m_whom, .ref m_actMany, .ref m_tokens, .ref m_afters, .ref m_afterOf, .int (nI ct1), .ref m_pile, .ref m_caseMany, .ref m_happen, .ref m_hasIf, .ref m_becomes, .ref m_goneOf, .ref m_heard, .ref m_pairs, .ref m_heaps, .int q_rounds, .int q_heapMany, .ref m_led, .ref m_newAt, .ref m_knowing, .ref m_firsts, .int (nI q_people), .ref m_secrets, .ref m_tried, .ref m_lanes, .ref m_lengths, .ref m_cells])), (m_tape, .inl (E.2.1 1, 160, .inl f_tape)), (m_ends, .inl (E.2.1 1, 15, .inl f_ends)), (m_letters, .inl (E.2.1 1, 50, .inl f_letters)), (m_actMany, .inl (E.2.1 1, 25, .inl f_actManyz_248)), (m_actOf, .inl (E.2.1 1, 800, .inl f_actOfz_249)), (m_whom, .inl (E.2.1 1, 800, .inl f_whomz_250)), (m_tokens, .inl (E.2.1 1, 9, .inl f_257)), (m_afters, .inl (E.2.1 1, 9, .inl f_259)), (m_afterOf, .inl (E.2.1 1, 18, .inl f_263))]) C hT [6, 1, 2, 3, 7, 8, 9, 0, 4, 5] rfl rfl rfl rfl dX12_say_223 (Or.inr ⟨(nI wr1), (nI wr1), wa1, (nI sp1), (nI pl1), (nI ct1), tk1, vl1, f_actManyz_248, f_actOfz_249, f_whomz_250, f_257, f_259, f_263, rfl, h_251, (NB.put h_190 (t := cN f_aftersz_184 8) (by omega) (by decide) ef_259), (NB.put (NB.put h_191 (t := cN f_afterOfz_185 16) (by omega) (by decide) ef_261) (t := cN f_261 17) (by omega) (by decide) ef_263), h_252, (by omega), (by omega), (by omega), (by omega)⟩)
                  · have zc_245 : ((wr1 : Nat) : Int) > 0 := i_nle (nI_toInt (n := wr1) (by omega)) rfl c_245
                    omega
                · have zc_244 : ((tk1 : Nat) : Int) ≠ 0 := i_ne (nI_toInt (n := tk1) (by omega)) rfl c_244
                  refine ww_aload_n C dX12_say_124 1 rfl rfl ?_
                  refine ww_iconst (v := 2) C dX12_say_125 rfl ?_
                  refine ww_cv (wr := [(m_actMany, .inl (E.2.1 1, 25, .inl g_am)), (m_actOf, .inl (E.2.1 1, 800, .inl g_ac)), (m_whom, .inl (E.2.1 1, 800, .inl g_wh)), (m_tokens, .inl (E.2.1 1, 9, .inl f_tokens)), (m_tape, .inl (E.2.1 1, 160, .inl f_tape)), (m_ends, .inl (E.2.1 1, 15, .inl f_ends)), (m_letters, .inl (E.2.1 1, 50, .inl f_letters)), (m_afters, .inl (E.2.1 1, 9, .inl f_aftersz_184)), (m_afterOf, .inl (E.2.1 1, 18, .inl f_afterOfz_185))]) (k' := 0) (n' := 0) C (run_V (As := [.int 2]) (rest := []) C (r_fails X.2.1 E ro hm 2 m_manys m_reals m_factsOf m_possible q_undos q_models m_tape q_taped q_fault wr1 wa1 (nI sp1) (nI pl1) (nI tk1) (nI vl1) m_ends m_letters m_actOf m_whom m_actMany m_tokens m_afters m_afterOf (nI ct1) m_pile m_caseMany m_happen m_hasIf m_becomes m_goneOf m_heard m_pairs m_heaps q_rounds q_heapMany m_led m_newAt m_knowing m_firsts q_people m_secrets m_tried m_lanes m_lengths m_cells (by omega)) mi_X12_fails wl_X12_186 rfl 0 12 rfl rfl rfl rfl rfl dX12_say_126) (roK hro) [4] [0, 1, 2, 3, 5, 6, 7, 8, 9] rfl rfl rfl rfl (fun uz hw => ?_)
                  rcases hw with hw | hw
                  · refine an1 hw ?_
                    clear hw
                    intro he_266 hw
                    have h_265 := hw
                    clear hw
                    subst he_266
                    refine ww_eq (ws' := [(m_actMany, .inl (E.2.1 1, 25, .inl g_am)), (m_actOf, .inl (E.2.1 1, 800, .inl g_ac)), (m_whom, .inl (E.2.1 1, 800, .inl g_wh)), (m_tokens, .inl (E.2.1 1, 9, .inl f_tokens)), (m_tape, .inl (E.2.1 1, 160, .inl f_tape)), (m_ends, .inl (E.2.1 1, 15, .inl f_ends)), (m_letters, .inl (E.2.1 1, 50, .inl f_letters)), (m_afters, .inl (E.2.1 1, 9, .inl f_aftersz_184)), (m_afterOf, .inl (E.2.1 1, 18, .inl f_afterOfz_185)), (hm, .inr (12, [.ref m_manys, .ref m_reals, .ref m_factsOf, .ref m_possible, .int (nI q_undos), .int (nI q_models), .ref m_tape, .int (nI q_taped), .int q_fault, .int 2, .int (nI pl1), .int (nI sp1), .int (nI pl1), .int (nI tk1), .int (nI vl1), .ref m_ends, .ref m_letters, .ref m_actOf, .ref m_whom, .ref m_actMany, .ref m_tokens, .ref m_afters, .ref m_afterOf, .int (nI ct1), .ref m_pile, .ref m_caseMany, .ref m_happen, .ref m_hasIf, .ref m_becomes, .ref m_goneOf, .ref m_heard, .ref m_pairs, .ref m_heaps, .int q_rounds, .int q_heapMany, .ref m_led, .ref m_newAt, .ref m_knowing, .ref m_firsts, .int (nI q_people), .ref m_secrets, .ref m_tried, .ref m_lanes, .ref m_lengths, .ref m_cells]))]) ?_ rfl rfl rfl
                    refine ww_aload_n C dX12_say_129 1 rfl rfl ?_
                    refine ww_iconst (v := 0) C dX12_say_130 rfl ?_
                    refine ww_put (ws' := [(m_actMany, .inl (E.2.1 1, 25, .inl g_am)), (m_actOf, .inl (E.2.1 1, 800, .inl g_ac)), (m_whom, .inl (E.2.1 1, 800, .inl g_wh)), (m_tokens, .inl (E.2.1 1, 9, .inl f_tokens)), (m_tape, .inl (E.2.1 1, 160, .inl f_tape)), (m_ends, .inl (E.2.1 1, 15, .inl f_ends)), (m_letters, .inl (E.2.1 1, 50, .inl f_letters)), (m_afters, .inl (E.2.1 1, 9, .inl f_aftersz_184)), (m_afterOf, .inl (E.2.1 1, 18, .inl f_afterOfz_185)), (hm, .inr (12, [.ref m_manys, .ref m_reals, .ref m_factsOf, .ref m_possible, .int (nI q_undos), .int (nI q_models), .ref m_tape, .int 0, .int q_fault, .int 2, .int (nI pl1), .int (nI sp1), .int (nI pl1), .int (nI tk1), .int (nI vl1), .ref m_ends, .ref m_letters, .ref m_actOf, .ref m_whom, .ref m_actMany, .ref m_tokens, .ref m_afters, .ref m_afterOf, .int (nI ct1), .ref m_pile, .ref m_caseMany, .ref m_happen, .ref m_hasIf, .ref m_becomes, .ref m_goneOf, .ref m_heard, .ref m_pairs, .ref m_heaps, .int q_rounds, .int q_heapMany, .ref m_led, .ref m_newAt, .ref m_knowing, .ref m_firsts, .int (nI q_people), .ref m_secrets, .ref m_tried, .ref m_lanes, .ref m_lengths, .ref m_cells]))]) C fp_X12_154 9 rfl rfl rfl rfl rfl dX12_say_131 ?_
                    refine ww_aload_n C dX12_say_134 1 rfl rfl ?_
                    refine ww_aload_n C dX12_say_135 1 rfl rfl ?_
                    refine ww_get C fg_X12_157 9 rfl rfl dX12_say_136 ?_
                    refine ww_put (ws' := [(m_actMany, .inl (E.2.1 1, 25, .inl g_am)), (m_actOf, .inl (E.2.1 1, 800, .inl g_ac)), (m_whom, .inl (E.2.1 1, 800, .inl g_wh)), (m_tokens, .inl (E.2.1 1, 9, .inl f_tokens)), (m_tape, .inl (E.2.1 1, 160, .inl f_tape)), (m_ends, .inl (E.2.1 1, 15, .inl f_ends)), (m_letters, .inl (E.2.1 1, 50, .inl f_letters)), (m_afters, .inl (E.2.1 1, 9, .inl f_aftersz_184)), (m_afterOf, .inl (E.2.1 1, 18, .inl f_afterOfz_185)), (hm, .inr (12, [.ref m_manys, .ref m_reals, .ref m_factsOf, .ref m_possible, .int (nI q_undos), .int (nI q_models), .ref m_tape, .int 0, .int 2, .int 2, .int (nI pl1), .int (nI sp1), .int (nI pl1), .int (nI tk1), .int (nI vl1), .ref m_ends, .ref m_letters, .ref m_actOf, .ref m_whom, .ref m_actMany, .ref m_tokens, .ref m_afters, .ref m_afterOf, .int (nI ct1), .ref m_pile, .ref m_caseMany, .ref m_happen, .ref m_hasIf, .ref m_becomes, .ref m_goneOf, .ref m_heard, .ref m_pairs, .ref m_heaps, .int q_rounds, .int q_heapMany, .ref m_led, .ref m_newAt, .ref m_knowing, .ref m_firsts, .int (nI q_people), .ref m_secrets, .ref m_tried, .ref m_lanes, .ref m_lengths, .ref m_cells]))]) C fp_X12_218 9 rfl rfl rfl rfl rfl dX12_say_139 ?_
                    refine ww_aload_n C dX12_say_142 1 rfl rfl ?_
                    refine ww_get C fg_X12_157 9 rfl rfl dX12_say_143 ?_
                    refine ww_if_le_f (tgt := 157) C dX12_say_146 (by decide) (by decide) ?_
                    refine ww_bipush (v := (-10)) C dX12_say_149 rfl ?_
                    refine ww_aload_n C dX12_say_151 1 rfl rfl ?_
                    refine ww_get C fg_X12_163 9 rfl rfl dX12_say_152 ?_
                    obtain ⟨x_269, ex_269⟩ : ∃ z : Int32, ((-10) : Int32) - (nI pl1) = z := ⟨_, rfl⟩
                    refine ww_isub (v := x_269) C dX12_say_155 ex_269 ?_
                    exact ww_iret (u := [(hm, .inr (12, [.ref m_manys, .ref m_reals, .ref m_factsOf, .ref m_possible, .int (nI q_undos), .int (nI q_models), .ref m_tape, .int 0, .int 2, .int 2, .int (nI pl1), .int (nI sp1), .int (nI pl1), .int (nI tk1), .int (nI vl1), .ref m_ends, .ref m_letters, .ref m_actOf, .ref m_whom, .ref m_actMany, .ref m_tokens, .ref m_afters, .ref m_afterOf, .int (nI ct1), .ref m_pile, .ref m_caseMany, .ref m_happen, .ref m_hasIf, .ref m_becomes, .ref m_goneOf, .ref m_heard, .ref m_pairs, .ref m_heaps, .int q_rounds, .int q_heapMany, .ref m_led, .ref m_newAt, .ref m_knowing, .ref m_firsts, .int (nI q_people), .ref m_secrets, .ref m_tried, .ref m_lanes, .ref m_lengths, .ref m_cells])), (m_tape, .inl (E.2.1 1, 160, .inl f_tape)), (m_ends, .inl (E.2.1 1, 15, .inl f_ends)), (m_letters, .inl (E.2.1 1, 50, .inl f_letters)), (m_actMany, .inl (E.2.1 1, 25, .inl g_am)), (m_actOf, .inl (E.2.1 1, 800, .inl g_ac)), (m_whom, .inl (E.2.1 1, 800, .inl g_wh)), (m_tokens, .inl (E.2.1 1, 9, .inl f_tokens)), (m_afters, .inl (E.2.1 1, 9, .inl f_aftersz_184)), (m_afterOf, .inl (E.2.1 1, 18, .inl f_afterOfz_185))]) C hT [9, 4, 5, 6, 0, 1, 2, 3, 7, 8] rfl rfl rfl rfl dX12_say_156 (Or.inr ⟨2, 2, (nI pl1), (nI sp1), (nI pl1), (nI ct1), tk1, vl1, g_am, g_ac, g_wh, f_tokens, f_aftersz_184, f_afterOfz_185, rfl, hnb_m_actMany_55, h_190, h_191, (SV.keep hsv hko hkm), (by omega), (by omega), (by omega), (by omega)⟩)
                  · refine an1 hw ?_
                    clear hw
                    intro he_268 hw
                    have h_267 := hw
                    clear hw
                    subst he_268
                    omega
            · have zc_242 : ((op1 : Nat) : Int) > 0 := i_nle (nI_toInt (n := op1) (by omega)) rfl c_242
              have hw0 : wr1 = 0 := by omega
              subst hw0
              obtain ⟨hop_1, hop_2, hop_3, hop_4⟩ := hop rfl
              refine ww_eq (ws' := [(m_actMany, .inl (E.2.1 1, 25, .inl g_am)), (m_actOf, .inl (E.2.1 1, 800, .inl g_ac)), (m_whom, .inl (E.2.1 1, 800, .inl g_wh)), (m_tokens, .inl (E.2.1 1, 9, .inl f_tokens)), (hm, .inr (12, [.ref m_manys, .ref m_reals, .ref m_factsOf, .ref m_possible, .int (nI q_undos), .int (nI q_models), .ref m_tape, .int (nI q_taped), .int q_fault, .int 0, .int wa1, .int (nI sp1), .int (nI pl1), .int (nI tk1), .int (nI vl1), .ref m_ends, .ref m_letters, .ref m_actOf, .ref m_whom, .ref m_actMany, .ref m_tokens, .ref m_afters, .ref m_afterOf, .int (nI ct1), .ref m_pile, .ref m_caseMany, .ref m_happen, .ref m_hasIf, .ref m_becomes, .ref m_goneOf, .ref m_heard, .ref m_pairs, .ref m_heaps, .int q_rounds, .int q_heapMany, .ref m_led, .ref m_newAt, .ref m_knowing, .ref m_firsts, .int (nI q_people), .ref m_secrets, .ref m_tried, .ref m_lanes, .ref m_lengths, .ref m_cells])), (m_tape, .inl (E.2.1 1, 160, .inl f_tape)), (m_ends, .inl (E.2.1 1, 15, .inl f_ends)), (m_letters, .inl (E.2.1 1, 50, .inl f_letters)), (m_afters, .inl (E.2.1 1, 9, .inl f_aftersz_184)), (m_afterOf, .inl (E.2.1 1, 18, .inl f_afterOfz_185))]) ?_ rfl rfl rfl
              refine ww_aload_n C dX12_say_66 1 rfl rfl ?_
              refine ww_cv (wr := [(m_tokens, .inl (E.2.1 1, 9, .inl f_tokens)), (m_afters, .inl (E.2.1 1, 9, .inl f_aftersz_184)), (m_afterOf, .inl (E.2.1 1, 18, .inl f_afterOfz_185))]) (k' := 0) (n' := 0) C (run_V (As := []) (rest := []) C (r_readAct X.2.1 E ro hm m_manys m_reals m_factsOf m_possible q_undos q_models m_tape q_taped q_fault wa1 sp1 pl1 tk1 vl1 m_ends m_letters m_actOf m_whom m_actMany m_tokens m_afters m_afterOf ct1 m_pile m_caseMany m_happen m_hasIf m_becomes m_goneOf m_heard m_pairs m_heaps q_rounds q_heapMany m_led m_newAt m_knowing m_firsts q_people m_secrets m_tried m_lanes m_lengths m_cells f_tape f_ends f_letters g_am g_ac g_wh hb_ends hnb_m_actMany_55 (by omega) (by omega) (by omega) (by omega) (by omega) (by omega) (by omega)) mi_X12_readAct wl_X12_212 rfl 0 12 rfl rfl rfl rfl rfl dX12_say_67) (roK hro) [4, 5, 6, 7, 0, 1, 2] [3, 8, 9] rfl rfl rfl rfl (fun uz hw => ?_)
              rcases hw with hw | hw
              · refine ex8 hw ?_
                clear hw
                intro sp2_271 pl2_272 tk2_273 vl2_274 ct2_275 ac__276 f_actManyz_277 f_actOfz_278 hw
                refine ex1 hw ?_
                clear hw
                intro f_whomz_279 hw
                refine an8 hw ?_
                clear hw
                intro he_290 h_280 h_281 h_282 h_283 h_284 h_285 h_286 hw
                refine an2 hw ?_
                clear hw
                intro h_287 h_288 hw
                have h_289 := hw
                clear hw
                subst he_290
                refine ww_eq (ws' := [(m_tokens, .inl (E.2.1 1, 9, .inl f_tokens)), (m_afters, .inl (E.2.1 1, 9, .inl f_aftersz_184)), (m_afterOf, .inl (E.2.1 1, 18, .inl f_afterOfz_185)), (hm, .inr (12, [.ref m_manys, .ref m_reals, .ref m_factsOf, .ref m_possible, .int (nI q_undos), .int (nI q_models), .ref m_tape, .int (nI q_taped), .int q_fault, .int 0, .int wa1, .int (nI sp2_271), .int (nI pl2_272), .int (nI tk2_273), .int (nI vl2_274), .ref m_ends, .ref m_letters, .ref m_actOf, .ref m_whom, .ref m_actMany, .ref m_tokens, .ref m_afters, .ref m_afterOf, .int (nI ct2_275), .ref m_pile, .ref m_caseMany, .ref m_happen, .ref m_hasIf, .ref m_becomes, .ref m_goneOf, .ref m_heard, .ref m_pairs, .ref m_heaps, .int q_rounds, .int q_heapMany, .ref m_led, .ref m_newAt, .ref m_knowing, .ref m_firsts, .int (nI q_people), .ref m_secrets, .ref m_tried, .ref m_lanes, .ref m_lengths, .ref m_cells])), (m_tape, .inl (E.2.1 1, 160, .inl f_tape)), (m_ends, .inl (E.2.1 1, 15, .inl f_ends)), (m_letters, .inl (E.2.1 1, 50, .inl f_letters)), (m_actMany, .inl (E.2.1 1, 25, .inl f_actManyz_277)), (m_actOf, .inl (E.2.1 1, 800, .inl f_actOfz_278)), (m_whom, .inl (E.2.1 1, 800, .inl f_whomz_279))]) ?_ rfl rfl rfl
                refine ww_iload_n C dX12_say_70 0 rfl rfl ?_
                refine ww_aload_n C dX12_say_71 1 rfl rfl ?_
                refine ww_get C fg_X12_157 3 rfl rfl dX12_say_72 ?_
                refine ww_if_ne_f (tgt := 104) C dX12_say_75 (by decide) (rfl) ?_
                refine ww_aload_n C dX12_say_78 1 rfl rfl ?_
                refine ww_get C fg_X12_31 3 rfl rfl dX12_say_79 ?_
                refine ww_sipush (v := 768) C dX12_say_82 rfl ?_
                refine ww_aload_n C dX12_say_85 1 rfl rfl ?_
                refine ww_get C fg_X12_37 3 rfl rfl dX12_say_86 ?_
                refine ww_bipush (v := 24) C dX12_say_89 rfl ?_
                have hbx_307 := (h_284 24 (by omega)).2
                refine ww_iald (v := (nI (cN f_actManyz_277 24))) C 7 rfl (vin rfl) (h_284 24 (by omega)).1 dX12_say_91 ?_
                refine ww_iadd (v := (nI (768 + (cN f_actManyz_277 24)))) C dX12_say_92 (nI_add 768 (cN f_actManyz_277 24)) ?_
                refine ww_iconst (v := 1) C dX12_say_93 rfl ?_
                refine ww_isub (v := (nI ((768 + (cN f_actManyz_277 24)) - 1))) C dX12_say_94 (pk_sub (a := (768 + (cN f_actManyz_277 24))) (b := 1) (by omega)) ?_
                obtain ⟨x_308, ex_308⟩ : ∃ z : Int32, f_actOfz_278 ((768 + (cN f_actManyz_277 24)) - 1) = z := ⟨_, rfl⟩
                refine ww_iald (v := x_308) C 8 rfl (vp_in_nI (by omega) (by omega)) (ldn (by omega) ex_308) dX12_say_95 ?_
                refine ww_ci (wr := [(m_tokens, .inl (E.2.1 1, 9, .inl f_tokens)), (m_afters, .inl (E.2.1 1, 9, .inl f_aftersz_184)), (m_afterOf, .inl (E.2.1 1, 18, .inl f_afterOfz_185)), (hm, .inr (12, [.ref m_manys, .ref m_reals, .ref m_factsOf, .ref m_possible, .int (nI q_undos), .int (nI q_models), .ref m_tape, .int (nI q_taped), .int q_fault, .int 0, .int wa1, .int (nI sp2_271), .int (nI pl2_272), .int (nI tk2_273), .int (nI vl2_274), .ref m_ends, .ref m_letters, .ref m_actOf, .ref m_whom, .ref m_actMany, .ref m_tokens, .ref m_afters, .ref m_afterOf, .int (nI ct2_275), .ref m_pile, .ref m_caseMany, .ref m_happen, .ref m_hasIf, .ref m_becomes, .ref m_goneOf, .ref m_heard, .ref m_pairs, .ref m_heaps, .int q_rounds, .int q_heapMany, .ref m_led, .ref m_newAt, .ref m_knowing, .ref m_firsts, .int (nI q_people), .ref m_secrets, .ref m_tried, .ref m_lanes, .ref m_lengths, .ref m_cells])), (m_tape, .inl (E.2.1 1, 160, .inl f_tape)), (m_ends, .inl (E.2.1 1, 15, .inl f_ends)), (m_letters, .inl (E.2.1 1, 50, .inl f_letters)), (m_actMany, .inl (E.2.1 1, 25, .inl f_actManyz_277)), (m_actOf, .inl (E.2.1 1, 800, .inl f_actOfz_278)), (m_whom, .inl (E.2.1 1, 800, .inl f_whomz_279))]) (k' := 0) (n' := 0) C (run_S (As := [.int x_308]) (rest := [.int (nI op1)]) C (r_wantsOf X.2.1 E ro x_308 x_308.toInt rfl) ms_X12_wantsOf wl_X12_215 rfl rfl rfl rfl dX12_say_96) (roK hro) [] [0, 1, 2, 3, 4, 5, 6, 7, 8, 9] rfl rfl rfl rfl (fun r_309 uz hw => ?_)
                rcases hw with hw | hw | hw
                · refine an2 hw ?_
                  clear hw
                  intro he_311 he_312 hw
                  have h_310 := hw
                  clear hw
                  have he_311 := he_311.symm
                  subst he_311
                  subst he_312
                  refine ww_eq (ws' := [(m_tokens, .inl (E.2.1 1, 9, .inl f_tokens)), (m_afters, .inl (E.2.1 1, 9, .inl f_aftersz_184)), (m_afterOf, .inl (E.2.1 1, 18, .inl f_afterOfz_185)), (hm, .inr (12, [.ref m_manys, .ref m_reals, .ref m_factsOf, .ref m_possible, .int (nI q_undos), .int (nI q_models), .ref m_tape, .int (nI q_taped), .int q_fault, .int 0, .int wa1, .int (nI sp2_271), .int (nI pl2_272), .int (nI tk2_273), .int (nI vl2_274), .ref m_ends, .ref m_letters, .ref m_actOf, .ref m_whom, .ref m_actMany, .ref m_tokens, .ref m_afters, .ref m_afterOf, .int (nI ct2_275), .ref m_pile, .ref m_caseMany, .ref m_happen, .ref m_hasIf, .ref m_becomes, .ref m_goneOf, .ref m_heard, .ref m_pairs, .ref m_heaps, .int q_rounds, .int q_heapMany, .ref m_led, .ref m_newAt, .ref m_knowing, .ref m_firsts, .int (nI q_people), .ref m_secrets, .ref m_tried, .ref m_lanes, .ref m_lengths, .ref m_cells])), (m_tape, .inl (E.2.1 1, 160, .inl f_tape)), (m_ends, .inl (E.2.1 1, 15, .inl f_ends)), (m_letters, .inl (E.2.1 1, 50, .inl f_letters)), (m_actMany, .inl (E.2.1 1, 25, .inl f_actManyz_277)), (m_actOf, .inl (E.2.1 1, 800, .inl f_actOfz_278)), (m_whom, .inl (E.2.1 1, 800, .inl f_whomz_279))]) ?_ rfl rfl rfl
                  have hst := act_step hop_1 (by omega) (by omega) h_287 h_288 h_289 (by assumption)
                  have hwr := wR_a0 (by assumption)
                  have hst2 := hst.2.1
                  have hst3 := hst.2.2
                  rw [hwr] at hst2
                  refine ww_iconst (v := 1) C dX12_say_99 rfl ?_
                  refine ww_isub (v := (-1)) C dX12_say_100 (by decide) ?_
                  refine ww_goto (tgt := 105) C dX12_say_101 (by decide) ?_
                  refine ww_iadd (v := (nI (op1 - 1))) C dX12_say_105 (nI_subc (a := op1) (c := 1) (by omega) rfl) ?_
                  refine ww_istore_n (lv' := [(2, .int (nI (op1 - 1))), (0, .ref hm), (1, .int v0)]) C dX12_say_106 rfl rfl rfl ?_
                  refine ww_goto (tgt := 55) C dX12_say_107 (by decide) ?_
                  exact ww_lv [0, 1, 2] rfl (ww_sub [7, 8, 9, 0, 3, 4, 5, 6, 1, 2] rfl rfl (ih_55 (op1 - 1) 0 sp2_271 pl2_272 tk2_273 vl2_274 ct2_275 wa1 f_actManyz_277 f_actOfz_278 f_whomz_279 (by omega) (by omega) (by omega) (by omega) (by omega) (by omega) (by omega) (KP.put hko (by omega) h_288) (KP.put hkm (by omega) h_287) (fun _ => ⟨hst.1, by omega, by omega, by omega⟩) h_284 (by omega)))
                · refine an2 hw ?_
                  clear hw
                  intro he_314 he_315 hw
                  have h_313 := hw
                  clear hw
                  have he_314 := he_314.symm
                  subst he_314
                  subst he_315
                  refine ww_eq (ws' := [(m_tokens, .inl (E.2.1 1, 9, .inl f_tokens)), (m_afters, .inl (E.2.1 1, 9, .inl f_aftersz_184)), (m_afterOf, .inl (E.2.1 1, 18, .inl f_afterOfz_185)), (hm, .inr (12, [.ref m_manys, .ref m_reals, .ref m_factsOf, .ref m_possible, .int (nI q_undos), .int (nI q_models), .ref m_tape, .int (nI q_taped), .int q_fault, .int 0, .int wa1, .int (nI sp2_271), .int (nI pl2_272), .int (nI tk2_273), .int (nI vl2_274), .ref m_ends, .ref m_letters, .ref m_actOf, .ref m_whom, .ref m_actMany, .ref m_tokens, .ref m_afters, .ref m_afterOf, .int (nI ct2_275), .ref m_pile, .ref m_caseMany, .ref m_happen, .ref m_hasIf, .ref m_becomes, .ref m_goneOf, .ref m_heard, .ref m_pairs, .ref m_heaps, .int q_rounds, .int q_heapMany, .ref m_led, .ref m_newAt, .ref m_knowing, .ref m_firsts, .int (nI q_people), .ref m_secrets, .ref m_tried, .ref m_lanes, .ref m_lengths, .ref m_cells])), (m_tape, .inl (E.2.1 1, 160, .inl f_tape)), (m_ends, .inl (E.2.1 1, 15, .inl f_ends)), (m_letters, .inl (E.2.1 1, 50, .inl f_letters)), (m_actMany, .inl (E.2.1 1, 25, .inl f_actManyz_277)), (m_actOf, .inl (E.2.1 1, 800, .inl f_actOfz_278)), (m_whom, .inl (E.2.1 1, 800, .inl f_whomz_279))]) ?_ rfl rfl rfl
                  have hst := act_step hop_1 (by omega) (by omega) h_287 h_288 h_289 (by assumption)
                  have hwr := wR_a2 (by assumption)
                  have hst2 := hst.2.1
                  have hst3 := hst.2.2
                  rw [hwr] at hst2
                  refine ww_iconst (v := 1) C dX12_say_99 rfl ?_
                  refine ww_isub (v := 1) C dX12_say_100 (by decide) ?_
                  refine ww_goto (tgt := 105) C dX12_say_101 (by decide) ?_
                  refine ww_iadd (v := (nI (op1 + 1))) C dX12_say_105 (nI_add op1 1) ?_
                  refine ww_istore_n (lv' := [(2, .int (nI (op1 + 1))), (0, .ref hm), (1, .int v0)]) C dX12_say_106 rfl rfl rfl ?_
                  refine ww_goto (tgt := 55) C dX12_say_107 (by decide) ?_
                  exact ww_lv [0, 1, 2] rfl (ww_sub [7, 8, 9, 0, 3, 4, 5, 6, 1, 2] rfl rfl (ih_55 (op1 + 1) 0 sp2_271 pl2_272 tk2_273 vl2_274 ct2_275 wa1 f_actManyz_277 f_actOfz_278 f_whomz_279 (by omega) (by omega) (by omega) (by omega) (by omega) (by omega) (by omega) (KP.put hko (by omega) h_288) (KP.put hkm (by omega) h_287) (fun _ => ⟨hst.1, by omega, by omega, by omega⟩) h_284 (by omega)))
                · refine an2 hw ?_
                  clear hw
                  intro he_317 he_318 hw
                  have h_316 := hw
                  clear hw
                  have he_317 := he_317.symm
                  subst he_317
                  subst he_318
                  refine ww_eq (ws' := [(m_tokens, .inl (E.2.1 1, 9, .inl f_tokens)), (m_afters, .inl (E.2.1 1, 9, .inl f_aftersz_184)), (m_afterOf, .inl (E.2.1 1, 18, .inl f_afterOfz_185)), (hm, .inr (12, [.ref m_manys, .ref m_reals, .ref m_factsOf, .ref m_possible, .int (nI q_undos), .int (nI q_models), .ref m_tape, .int (nI q_taped), .int q_fault, .int 0, .int wa1, .int (nI sp2_271), .int (nI pl2_272), .int (nI tk2_273), .int (nI vl2_274), .ref m_ends, .ref m_letters, .ref m_actOf, .ref m_whom, .ref m_actMany, .ref m_tokens, .ref m_afters, .ref m_afterOf, .int (nI ct2_275), .ref m_pile, .ref m_caseMany, .ref m_happen, .ref m_hasIf, .ref m_becomes, .ref m_goneOf, .ref m_heard, .ref m_pairs, .ref m_heaps, .int q_rounds, .int q_heapMany, .ref m_led, .ref m_newAt, .ref m_knowing, .ref m_firsts, .int (nI q_people), .ref m_secrets, .ref m_tried, .ref m_lanes, .ref m_lengths, .ref m_cells])), (m_tape, .inl (E.2.1 1, 160, .inl f_tape)), (m_ends, .inl (E.2.1 1, 15, .inl f_ends)), (m_letters, .inl (E.2.1 1, 50, .inl f_letters)), (m_actMany, .inl (E.2.1 1, 25, .inl f_actManyz_277)), (m_actOf, .inl (E.2.1 1, 800, .inl f_actOfz_278)), (m_whom, .inl (E.2.1 1, 800, .inl f_whomz_279))]) ?_ rfl rfl rfl
                  have hst := act_step hop_1 (by omega) (by omega) h_287 h_288 h_289 (by assumption)
                  have hwr := wR_a1 (by assumption)
                  have hst2 := hst.2.1
                  have hst3 := hst.2.2
                  rw [hwr] at hst2
                  refine ww_iconst (v := 1) C dX12_say_99 rfl ?_
                  refine ww_isub (v := 0) C dX12_say_100 (by decide) ?_
                  refine ww_goto (tgt := 105) C dX12_say_101 (by decide) ?_
                  refine ww_iadd (v := (nI op1)) C dX12_say_105 (nI_add op1 0) ?_
                  refine ww_istore_n (lv' := [(2, .int (nI op1)), (0, .ref hm), (1, .int v0)]) C dX12_say_106 rfl rfl rfl ?_
                  refine ww_goto (tgt := 55) C dX12_say_107 (by decide) ?_
                  exact ww_lv [0, 1, 2] rfl (ww_sub [7, 8, 9, 0, 3, 4, 5, 6, 1, 2] rfl rfl (ih_55 op1 0 sp2_271 pl2_272 tk2_273 vl2_274 ct2_275 wa1 f_actManyz_277 f_actOfz_278 f_whomz_279 (by omega) (by omega) (by omega) (by omega) (by omega) (by omega) (by omega) (KP.put hko (by omega) h_288) (KP.put hkm (by omega) h_287) (fun _ => ⟨hst.1, by omega, by omega, by omega⟩) h_284 (by omega)))
              · refine ex7 hw ?_
                clear hw
                intro sp2_291 pl2_292 tk2_293 vl2_294 ct2_295 wr2_296 wa2_297 hw
                refine an8 hw ?_
                clear hw
                intro he_306 h_298 h_299 h_300 h_301 h_302 h_303 h_304 hw
                have h_305 := hw
                clear hw
                subst he_306
                refine ww_eq (ws' := [(m_tokens, .inl (E.2.1 1, 9, .inl f_tokens)), (m_afters, .inl (E.2.1 1, 9, .inl f_aftersz_184)), (m_afterOf, .inl (E.2.1 1, 18, .inl f_afterOfz_185)), (hm, .inr (12, [.ref m_manys, .ref m_reals, .ref m_factsOf, .ref m_possible, .int (nI q_undos), .int (nI q_models), .ref m_tape, .int (nI q_taped), .int q_fault, .int (nI wr2_296), .int wa2_297, .int (nI sp2_291), .int (nI pl2_292), .int (nI tk2_293), .int (nI vl2_294), .ref m_ends, .ref m_letters, .ref m_actOf, .ref m_whom, .ref m_actMany, .ref m_tokens, .ref m_afters, .ref m_afterOf, .int (nI ct2_295), .ref m_pile, .ref m_caseMany, .ref m_happen, .ref m_hasIf, .ref m_becomes, .ref m_goneOf, .ref m_heard, .ref m_pairs, .ref m_heaps, .int q_rounds, .int q_heapMany, .ref m_led, .ref m_newAt, .ref m_knowing, .ref m_firsts, .int (nI q_people), .ref m_secrets, .ref m_tried, .ref m_lanes, .ref m_lengths, .ref m_cells])), (m_tape, .inl (E.2.1 1, 160, .inl f_tape)), (m_ends, .inl (E.2.1 1, 15, .inl f_ends)), (m_letters, .inl (E.2.1 1, 50, .inl f_letters)), (m_actMany, .inl (E.2.1 1, 25, .inl g_am)), (m_actOf, .inl (E.2.1 1, 800, .inl g_ac)), (m_whom, .inl (E.2.1 1, 800, .inl g_wh))]) ?_ rfl rfl rfl
                refine ww_iload_n C dX12_say_70 0 rfl rfl ?_
                refine ww_aload_n C dX12_say_71 1 rfl rfl ?_
                refine ww_get C fg_X12_157 3 rfl rfl dX12_say_72 ?_
                refine ww_if_ne (tgt := 104) C dX12_say_75 (by decide) (fun c_319 => ?_) (fun c_319 => ?_)
                · have zc_319 : ((wr2_296 : Nat) : Int) ≠ 0 := i_ne (nI_toInt (n := wr2_296) (by omega)) rfl c_319
                  refine ww_iconst (v := 0) C dX12_say_104 rfl ?_
                  refine ww_iadd (v := (nI op1)) C dX12_say_105 (nI_add op1 0) ?_
                  refine ww_istore_n (lv' := [(2, .int (nI op1)), (0, .ref hm), (1, .int v0)]) C dX12_say_106 rfl rfl rfl ?_
                  refine ww_goto (tgt := 55) C dX12_say_107 (by decide) ?_
                  exact ww_lv [0, 1, 2] rfl (ww_sub [7, 8, 9, 0, 3, 4, 5, 6, 1, 2] rfl rfl (ih_55 op1 wr2_296 sp2_291 pl2_292 tk2_293 vl2_294 ct2_295 wa2_297 g_am g_ac g_wh (by omega) (by omega) (by omega) (by omega) (by omega) (by omega) (by omega) hko hkm (fun h9 => absurd h9 (by omega)) hnb_m_actMany_55 (by omega)))
                · have zc_319 : ((wr2_296 : Nat) : Int) = 0 := i_eq (nI_toInt (n := wr2_296) (by omega)) rfl c_319
                  omega
      exact ww_lv [0, 1, 2] rfl (ww_sub [0, 1, 2, 3, 4, 5, 6, 7, 8, 9] rfl rfl (loop_55 _ 1 wr2_182 sp2_178 pl2_179 tk2_180 vl2_181 0 wa2_183 f_9 f_actOf f_whom (by omega) (by omega) (by omega) (by omega) (by omega) (by omega) (by omega) KP.rf (KP.put KP.rf (by omega) ef_9) (fun _ => by rw [hsa0]; exact ⟨OPR.nil, rfl, by omega, by omega⟩) (NB.put hb_actMany (t := 0) (by omega) (by decide) ef_9) (Nat.lt_succ_self _)))
  · refine an2 hw ?_
    clear hw
    intro he_7 he_8 hw
    have h_6 := hw
    clear hw
    have he_7 := he_7.symm
    subst he_7
    subst he_8
    refine ww_eq (ws' := [(hm, .inr (12, [.ref m_manys, .ref m_reals, .ref m_factsOf, .ref m_possible, .int (nI q_undos), .int (nI q_models), .ref m_tape, .int (nI q_taped), .int q_fault, .int q_wrong, .int q_wrongAt, .int q_spot, .int q_place, .int (nI q_token), .int (nI q_value), .ref m_ends, .ref m_letters, .ref m_actOf, .ref m_whom, .ref m_actMany, .ref m_tokens, .ref m_afters, .ref m_afterOf, .int q_counted, .ref m_pile, .ref m_caseMany, .ref m_happen, .ref m_hasIf, .ref m_becomes, .ref m_goneOf, .ref m_heard, .ref m_pairs, .ref m_heaps, .int q_rounds, .int q_heapMany, .ref m_led, .ref m_newAt, .ref m_knowing, .ref m_firsts, .int (nI q_people), .ref m_secrets, .ref m_tried, .ref m_lanes, .ref m_lengths, .ref m_cells])), (m_tape, .inl (E.2.1 1, 160, .inl f_tape)), (m_ends, .inl (E.2.1 1, 15, .inl f_ends)), (m_letters, .inl (E.2.1 1, 50, .inl f_letters)), (m_actMany, .inl (E.2.1 1, 25, .inl f_actMany)), (m_actOf, .inl (E.2.1 1, 800, .inl f_actOf)), (m_whom, .inl (E.2.1 1, 800, .inl f_whom)), (m_tokens, .inl (E.2.1 1, 9, .inl f_tokens)), (m_afters, .inl (E.2.1 1, 9, .inl f_afters)), (m_afterOf, .inl (E.2.1 1, 18, .inl f_afterOf))]) ?_ rfl rfl rfl
    refine ww_if_ne_f (tgt := 14) C dX12_say_9 (by decide) (rfl) ?_
    refine ww_iconst (v := (-1)) C dX12_say_12 rfl ?_
    exact ww_iret (u := [(hm, .inr (12, [.ref m_manys, .ref m_reals, .ref m_factsOf, .ref m_possible, .int (nI q_undos), .int (nI q_models), .ref m_tape, .int (nI q_taped), .int q_fault, .int q_wrong, .int q_wrongAt, .int q_spot, .int q_place, .int (nI q_token), .int (nI q_value), .ref m_ends, .ref m_letters, .ref m_actOf, .ref m_whom, .ref m_actMany, .ref m_tokens, .ref m_afters, .ref m_afterOf, .int q_counted, .ref m_pile, .ref m_caseMany, .ref m_happen, .ref m_hasIf, .ref m_becomes, .ref m_goneOf, .ref m_heard, .ref m_pairs, .ref m_heaps, .int q_rounds, .int q_heapMany, .ref m_led, .ref m_newAt, .ref m_knowing, .ref m_firsts, .int (nI q_people), .ref m_secrets, .ref m_tried, .ref m_lanes, .ref m_lengths, .ref m_cells])), (m_tape, .inl (E.2.1 1, 160, .inl f_tape)), (m_ends, .inl (E.2.1 1, 15, .inl f_ends)), (m_letters, .inl (E.2.1 1, 50, .inl f_letters)), (m_actMany, .inl (E.2.1 1, 25, .inl f_actMany)), (m_actOf, .inl (E.2.1 1, 800, .inl f_actOf)), (m_whom, .inl (E.2.1 1, 800, .inl f_whom)), (m_tokens, .inl (E.2.1 1, 9, .inl f_tokens)), (m_afters, .inl (E.2.1 1, 9, .inl f_afters)), (m_afterOf, .inl (E.2.1 1, 18, .inl f_afterOf))]) C hT [0, 1, 2, 3, 4, 5, 6, 7, 8, 9] rfl rfl rfl rfl dX12_say_13 (Or.inl ⟨rfl, rfl, (by first | assumption | omega | decide)⟩)
theorem dX12_fault_0 : decode cX12_fault 0 = .ok (.aload_n 0, 1) := by decide +kernel
theorem dX12_fault_1 : decode cX12_fault 1 = .ok (.getfield 218, 3) := by decide +kernel
theorem fg_X12_218 : FG RX12 218 12 8 := ⟨RX12, TX12, 45, uw_X12, wf_X12_218, rfl, by decide, rfl⟩
theorem dX12_fault_4 : decode cX12_fault 4 = .ok (.ireturn, 1) := by decide +kernel
set_option maxRecDepth 100000 in
set_option maxHeartbeats 4000000 in
theorem y_fault (l : Launch) (E : EV) (ro : va_W) (hm : Nat) (m_manys : Nat) (m_reals : Nat) (m_factsOf : Nat) (m_possible : Nat) (q_undos : Nat) (q_models : Nat) (m_tape : Nat) (q_taped : Nat) (q_fault : Int32) (q_wrong : Int32) (q_wrongAt : Int32) (q_spot : Int32) (q_place : Int32) (q_token : Int32) (q_value : Int32) (m_ends : Nat) (m_letters : Nat) (m_actOf : Nat) (m_whom : Nat) (m_actMany : Nat) (m_tokens : Nat) (m_afters : Nat) (m_afterOf : Nat) (q_counted : Int32) (m_pile : Nat) (m_caseMany : Nat) (m_happen : Nat) (m_hasIf : Nat) (m_becomes : Nat) (m_goneOf : Nat) (m_heard : Nat) (m_pairs : Nat) (m_heaps : Nat) (q_rounds : Int32) (q_heapMany : Int32) (m_led : Nat) (m_newAt : Nat) (m_knowing : Nat) (m_firsts : Nat) (q_people : Nat) (m_secrets : Nat) (m_tried : Nat) (m_lanes : Nat) (m_lengths : Nat) (m_cells : Nat)  : CT l yX12_fault (Cond.code yX12_fault cX12_fault 1 (some .int) :: TB) ({ frames := 0, cells := 0, slots := 0, locals := 0 }) E ro [.ref hm] [(hm, .inr (12, [.ref m_manys, .ref m_reals, .ref m_factsOf, .ref m_possible, .int (nI q_undos), .int (nI q_models), .ref m_tape, .int (nI q_taped), .int q_fault, .int q_wrong, .int q_wrongAt, .int q_spot, .int q_place, .int q_token, .int q_value, .ref m_ends, .ref m_letters, .ref m_actOf, .ref m_whom, .ref m_actMany, .ref m_tokens, .ref m_afters, .ref m_afterOf, .int q_counted, .ref m_pile, .ref m_caseMany, .ref m_happen, .ref m_hasIf, .ref m_becomes, .ref m_goneOf, .ref m_heard, .ref m_pairs, .ref m_heaps, .int q_rounds, .int q_heapMany, .ref m_led, .ref m_newAt, .ref m_knowing, .ref m_firsts, .int (nI q_people), .ref m_secrets, .ref m_tried, .ref m_lanes, .ref m_lengths, .ref m_cells]))] (Qi E (fun (rz : Int32) uz => (rz = q_fault ∧ uz = [(hm, .inr (12, [.ref m_manys, .ref m_reals, .ref m_factsOf, .ref m_possible, .int (nI q_undos), .int (nI q_models), .ref m_tape, .int (nI q_taped), .int q_fault, .int q_wrong, .int q_wrongAt, .int q_spot, .int q_place, .int q_token, .int q_value, .ref m_ends, .ref m_letters, .ref m_actOf, .ref m_whom, .ref m_actMany, .ref m_tokens, .ref m_afters, .ref m_afterOf, .int q_counted, .ref m_pile, .ref m_caseMany, .ref m_happen, .ref m_hasIf, .ref m_becomes, .ref m_goneOf, .ref m_heard, .ref m_pairs, .ref m_heaps, .int q_rounds, .int q_heapMany, .ref m_led, .ref m_newAt, .ref m_knowing, .ref m_firsts, .int (nI q_people), .ref m_secrets, .ref m_tried, .ref m_lanes, .ref m_lengths, .ref m_cells]))]))) 0 0 := by
  refine ct_of rfl rfl ?_
  intro X C hT hin hro
  show WW X 1 E 0 [(0, .ref hm)] [] [(hm, .inr (12, [.ref m_manys, .ref m_reals, .ref m_factsOf, .ref m_possible, .int (nI q_undos), .int (nI q_models), .ref m_tape, .int (nI q_taped), .int q_fault, .int q_wrong, .int q_wrongAt, .int q_spot, .int q_place, .int q_token, .int q_value, .ref m_ends, .ref m_letters, .ref m_actOf, .ref m_whom, .ref m_actMany, .ref m_tokens, .ref m_afters, .ref m_afterOf, .int q_counted, .ref m_pile, .ref m_caseMany, .ref m_happen, .ref m_hasIf, .ref m_becomes, .ref m_goneOf, .ref m_heard, .ref m_pairs, .ref m_heaps, .int q_rounds, .int q_heapMany, .ref m_led, .ref m_newAt, .ref m_knowing, .ref m_firsts, .int (nI q_people), .ref m_secrets, .ref m_tried, .ref m_lanes, .ref m_lengths, .ref m_cells]))] 0 0
  refine ww_aload_n C dX12_fault_0 0 rfl rfl ?_
  refine ww_get C fg_X12_218 0 rfl rfl dX12_fault_1 ?_
  exact ww_iret (u := [(hm, .inr (12, [.ref m_manys, .ref m_reals, .ref m_factsOf, .ref m_possible, .int (nI q_undos), .int (nI q_models), .ref m_tape, .int (nI q_taped), .int q_fault, .int q_wrong, .int q_wrongAt, .int q_spot, .int q_place, .int q_token, .int q_value, .ref m_ends, .ref m_letters, .ref m_actOf, .ref m_whom, .ref m_actMany, .ref m_tokens, .ref m_afters, .ref m_afterOf, .int q_counted, .ref m_pile, .ref m_caseMany, .ref m_happen, .ref m_hasIf, .ref m_becomes, .ref m_goneOf, .ref m_heard, .ref m_pairs, .ref m_heaps, .int q_rounds, .int q_heapMany, .ref m_led, .ref m_newAt, .ref m_knowing, .ref m_firsts, .int (nI q_people), .ref m_secrets, .ref m_tried, .ref m_lanes, .ref m_lengths, .ref m_cells]))]) C hT [0] rfl rfl rfl rfl dX12_fault_4 (⟨rfl, rfl⟩)
