theorem dX2_plain_0 : decode cX2_plain 0 = .ok (.aload_n 1, 1) := by decide +kernel
theorem dX2_plain_1 : decode cX2_plain 1 = .ok (.invokevirtual 61, 3) := by decide +kernel
theorem wl_X2_61 : Cond.methodLink RX2 61 yX4_all ∈ TB := tbm (tq3 (List.mem_of_getElem? (i := 227) (by decide +kernel))) (by decide +kernel)
theorem dX2_plain_4 : decode cX2_plain 4 = .ok (.istore_n 3, 1) := by decide +kernel
theorem dX2_plain_5 : decode cX2_plain 5 = .ok (.iconst 0, 1) := by decide +kernel
theorem dX2_plain_6 : decode cX2_plain 6 = .ok (.istore 4, 2) := by decide +kernel
theorem dX2_plain_8 : decode cX2_plain 8 = .ok (.aload_n 2, 1) := by decide +kernel
theorem dX2_plain_9 : decode cX2_plain 9 = .ok (.getfield 74, 3) := by decide +kernel
theorem uw_X8 : ∀ w ∈ u_ws RX8 TX8 7, w ∈ TB := uw_of [652, 654, 656, 658, 660, 662, 664] (by decide +kernel) (by decide +kernel)
theorem wf_X2_74 : Cond.fieldLink RX2 74 RX8 "ops" "[I" ∈ TB := tbm (tq3 (List.mem_of_getElem? (i := 155) (by decide +kernel))) (by decide +kernel)
theorem fg_X2_74 : FG RX2 74 8 0 := ⟨RX8, TX8, 7, uw_X8, wf_X2_74, rfl, by decide, rfl⟩
theorem dX2_plain_12 : decode cX2_plain 12 = .ok (.arraylength, 1) := by decide +kernel
theorem dX2_plain_13 : decode cX2_plain 13 = .ok (.iconst 1, 1) := by decide +kernel
theorem dX2_plain_14 : decode cX2_plain 14 = .ok (.isub, 1) := by decide +kernel
theorem dX2_plain_15 : decode cX2_plain 15 = .ok (.istore 5, 2) := by decide +kernel
theorem dX2_plain_17 : decode cX2_plain 17 = .ok (.iload 5, 2) := by decide +kernel
theorem dX2_plain_19 : decode cX2_plain 19 = .ok (.ifCond .lt 285, 3) := by decide +kernel
theorem dX2_plain_304 : decode cX2_plain 304 = .ok (.aload_n 0, 1) := by decide +kernel
theorem dX2_plain_305 : decode cX2_plain 305 = .ok (.getfield 23, 3) := by decide +kernel
theorem uw_X2 : ∀ w ∈ u_ws RX2 TX2 4, w ∈ TB := uw_of [220, 222, 224, 226] (by decide +kernel) (by decide +kernel)
theorem wf_X2_23 : Cond.fieldLink RX2 23 RX2 "truths" "[I" ∈ TB := tbm (tq1 (List.mem_of_getElem? (i := 218) (by decide +kernel))) (by decide +kernel)
theorem fg_X2_23 : FG RX2 23 2 2 := ⟨RX2, TX2, 4, uw_X2, wf_X2_23, rfl, by decide, rfl⟩
theorem dX2_plain_308 : decode cX2_plain 308 = .ok (.iconst 0, 1) := by decide +kernel
theorem dX2_plain_309 : decode cX2_plain 309 = .ok (.iaload, 1) := by decide +kernel
theorem dX2_plain_310 : decode cX2_plain 310 = .ok (.ireturn, 1) := by decide +kernel
theorem dX2_plain_22 : decode cX2_plain 22 = .ok (.aload_n 2, 1) := by decide +kernel
theorem dX2_plain_23 : decode cX2_plain 23 = .ok (.getfield 74, 3) := by decide +kernel
theorem dX2_plain_26 : decode cX2_plain 26 = .ok (.iload 5, 2) := by decide +kernel
theorem dX2_plain_28 : decode cX2_plain 28 = .ok (.iaload, 1) := by decide +kernel
theorem dX2_plain_29 : decode cX2_plain 29 = .ok (.istore 6, 2) := by decide +kernel
theorem dX2_plain_31 : decode cX2_plain 31 = .ok (.aload_n 2, 1) := by decide +kernel
theorem dX2_plain_32 : decode cX2_plain 32 = .ok (.getfield 77, 3) := by decide +kernel
theorem wf_X2_77 : Cond.fieldLink RX2 77 RX8 "args" "[I" ∈ TB := tbm (tq3 (List.mem_of_getElem? (i := 158) (by decide +kernel))) (by decide +kernel)
theorem fg_X2_77 : FG RX2 77 8 1 := ⟨RX8, TX8, 7, uw_X8, wf_X2_77, rfl, by decide, rfl⟩
theorem dX2_plain_35 : decode cX2_plain 35 = .ok (.iload 5, 2) := by decide +kernel
theorem dX2_plain_37 : decode cX2_plain 37 = .ok (.iaload, 1) := by decide +kernel
theorem dX2_plain_38 : decode cX2_plain 38 = .ok (.istore 7, 2) := by decide +kernel
theorem dX2_plain_40 : decode cX2_plain 40 = .ok (.iload 4, 2) := by decide +kernel
theorem dX2_plain_42 : decode cX2_plain 42 = .ok (.iconst 1, 1) := by decide +kernel
theorem dX2_plain_43 : decode cX2_plain 43 = .ok (.iload 6, 2) := by decide +kernel
theorem dX2_plain_45 : decode cX2_plain 45 = .ok (.invokestatic 80, 3) := by decide +kernel
theorem wc_X11_under : Cond.code yX11_under cX11_under 1 (some .int) ∈ TB := tbm (tq3 (List.mem_of_getElem? (i := 143) (rfl))) (by decide +kernel)
theorem wt_X11_under : Cond.static yX11_under ∈ TB := tbm (tq3 (List.mem_of_getElem? (i := 142) (by decide +kernel))) (by decide +kernel)
theorem ms_X11_under : MS yX11_under cX11_under 1 (some .int) 1 := ⟨wc_X11_under, wn_X11, ⟨by decide +kernel, by decide +kernel, by decide +kernel⟩, wt_X11_under⟩
theorem dX2_plain_48 : decode cX2_plain 48 = .ok (.isub, 1) := by decide +kernel
theorem dX2_plain_49 : decode cX2_plain 49 = .ok (.iadd, 1) := by decide +kernel
theorem dX2_plain_50 : decode cX2_plain 50 = .ok (.istore 4, 2) := by decide +kernel
theorem dX2_plain_52 : decode cX2_plain 52 = .ok (.iload 4, 2) := by decide +kernel
theorem dX2_plain_54 : decode cX2_plain 54 = .ok (.iconst 1, 1) := by decide +kernel
theorem dX2_plain_55 : decode cX2_plain 55 = .ok (.isub, 1) := by decide +kernel
theorem dX2_plain_56 : decode cX2_plain 56 = .ok (.istore 8, 2) := by decide +kernel
theorem dX2_plain_58 : decode cX2_plain 58 = .ok (.aload_n 0, 1) := by decide +kernel
theorem dX2_plain_59 : decode cX2_plain 59 = .ok (.getfield 23, 3) := by decide +kernel
theorem dX2_plain_62 : decode cX2_plain 62 = .ok (.iload 8, 2) := by decide +kernel
theorem dX2_plain_64 : decode cX2_plain 64 = .ok (.iaload, 1) := by decide +kernel
theorem dX2_plain_65 : decode cX2_plain 65 = .ok (.istore 9, 2) := by decide +kernel
theorem dX2_plain_67 : decode cX2_plain 67 = .ok (.iload_n 3, 1) := by decide +kernel
theorem dX2_plain_68 : decode cX2_plain 68 = .ok (.iload 9, 2) := by decide +kernel
theorem dX2_plain_70 : decode cX2_plain 70 = .ok (.iconst (-1), 1) := by decide +kernel
theorem dX2_plain_71 : decode cX2_plain 71 = .ok (.ixor, 1) := by decide +kernel
theorem dX2_plain_72 : decode cX2_plain 72 = .ok (.iand, 1) := by decide +kernel
theorem dX2_plain_73 : decode cX2_plain 73 = .ok (.istore 10, 2) := by decide +kernel
theorem dX2_plain_75 : decode cX2_plain 75 = .ok (.iload 6, 2) := by decide +kernel
theorem dX2_plain_77 : decode cX2_plain 77 = .ok (.tableswitch 206 0 7 #[47, 63, 74, 86, 106, 126, 159, 182], 47) := by decide +kernel
theorem dX2_plain_124 : decode cX2_plain 124 = .ok (.aload_n 0, 1) := by decide +kernel
theorem dX2_plain_125 : decode cX2_plain 125 = .ok (.getfield 23, 3) := by decide +kernel
theorem dX2_plain_128 : decode cX2_plain 128 = .ok (.iload 8, 2) := by decide +kernel
theorem dX2_plain_130 : decode cX2_plain 130 = .ok (.aload_n 1, 1) := by decide +kernel
theorem dX2_plain_131 : decode cX2_plain 131 = .ok (.iload 7, 2) := by decide +kernel
theorem dX2_plain_133 : decode cX2_plain 133 = .ok (.invokevirtual 84, 3) := by decide +kernel
theorem wl_X2_84 : Cond.methodLink RX2 84 yX4_withFact ∈ TB := tbm (tq3 (List.mem_of_getElem? (i := 229) (by decide +kernel))) (by decide +kernel)
theorem wc_X4_withFact : Cond.code yX4_withFact cX4_withFact 4 (some .int) ∈ TB := tbm (tq3 (List.mem_of_getElem? (i := 232) (rfl))) (by decide +kernel)
theorem wi_X4_withFact : Cond.instanceMethod yX4_withFact ∈ TB := tbm (tq3 (List.mem_of_getElem? (i := 230) (by decide +kernel))) (by decide +kernel)
theorem ws_X4_withFact : Cond.selects RX4 yX4_withFact yX4_withFact ∈ TB := tbm (tq3 (List.mem_of_getElem? (i := 231) (by decide +kernel))) (by decide +kernel)
theorem mi_X4_withFact : MI yX4_withFact cX4_withFact 4 (some .int) 1 := ⟨wc_X4_withFact, wn_X4, ⟨by decide +kernel, by decide +kernel, by decide +kernel⟩, wi_X4_withFact, ws_X4_withFact⟩
theorem dX2_plain_136 : decode cX2_plain 136 = .ok (.iastore, 1) := by decide +kernel
theorem dX2_plain_137 : decode cX2_plain 137 = .ok (.goto 161, 3) := by decide +kernel
theorem dX2_plain_298 : decode cX2_plain 298 = .ok (.iinc 5 (-1), 3) := by decide +kernel
theorem dX2_plain_301 : decode cX2_plain 301 = .ok (.goto (-284), 3) := by decide +kernel
theorem dX2_plain_140 : decode cX2_plain 140 = .ok (.aload_n 0, 1) := by decide +kernel
theorem dX2_plain_141 : decode cX2_plain 141 = .ok (.getfield 23, 3) := by decide +kernel
theorem dX2_plain_144 : decode cX2_plain 144 = .ok (.iload 8, 2) := by decide +kernel
theorem dX2_plain_146 : decode cX2_plain 146 = .ok (.iload_n 3, 1) := by decide +kernel
theorem dX2_plain_147 : decode cX2_plain 147 = .ok (.iastore, 1) := by decide +kernel
theorem dX2_plain_148 : decode cX2_plain 148 = .ok (.goto 150, 3) := by decide +kernel
theorem dX2_plain_151 : decode cX2_plain 151 = .ok (.aload_n 0, 1) := by decide +kernel
theorem dX2_plain_152 : decode cX2_plain 152 = .ok (.getfield 23, 3) := by decide +kernel
theorem dX2_plain_155 : decode cX2_plain 155 = .ok (.iload 8, 2) := by decide +kernel
theorem dX2_plain_157 : decode cX2_plain 157 = .ok (.iload 10, 2) := by decide +kernel
theorem dX2_plain_159 : decode cX2_plain 159 = .ok (.iastore, 1) := by decide +kernel
theorem dX2_plain_160 : decode cX2_plain 160 = .ok (.goto 138, 3) := by decide +kernel
theorem dX2_plain_163 : decode cX2_plain 163 = .ok (.aload_n 0, 1) := by decide +kernel
theorem dX2_plain_164 : decode cX2_plain 164 = .ok (.getfield 23, 3) := by decide +kernel
theorem dX2_plain_167 : decode cX2_plain 167 = .ok (.iload 8, 2) := by decide +kernel
theorem dX2_plain_169 : decode cX2_plain 169 = .ok (.iload 9, 2) := by decide +kernel
theorem dX2_plain_171 : decode cX2_plain 171 = .ok (.aload_n 0, 1) := by decide +kernel
theorem dX2_plain_172 : decode cX2_plain 172 = .ok (.getfield 23, 3) := by decide +kernel
theorem dX2_plain_175 : decode cX2_plain 175 = .ok (.iload 4, 2) := by decide +kernel
theorem dX2_plain_177 : decode cX2_plain 177 = .ok (.iaload, 1) := by decide +kernel
theorem dX2_plain_178 : decode cX2_plain 178 = .ok (.iand, 1) := by decide +kernel
theorem dX2_plain_179 : decode cX2_plain 179 = .ok (.iastore, 1) := by decide +kernel
theorem dX2_plain_180 : decode cX2_plain 180 = .ok (.goto 118, 3) := by decide +kernel
theorem dX2_plain_183 : decode cX2_plain 183 = .ok (.aload_n 0, 1) := by decide +kernel
theorem dX2_plain_184 : decode cX2_plain 184 = .ok (.getfield 23, 3) := by decide +kernel
theorem dX2_plain_187 : decode cX2_plain 187 = .ok (.iload 8, 2) := by decide +kernel
theorem dX2_plain_189 : decode cX2_plain 189 = .ok (.iload 9, 2) := by decide +kernel
theorem dX2_plain_191 : decode cX2_plain 191 = .ok (.aload_n 0, 1) := by decide +kernel
theorem dX2_plain_192 : decode cX2_plain 192 = .ok (.getfield 23, 3) := by decide +kernel
theorem dX2_plain_195 : decode cX2_plain 195 = .ok (.iload 4, 2) := by decide +kernel
theorem dX2_plain_197 : decode cX2_plain 197 = .ok (.iaload, 1) := by decide +kernel
theorem dX2_plain_198 : decode cX2_plain 198 = .ok (.ior, 1) := by decide +kernel
theorem dX2_plain_199 : decode cX2_plain 199 = .ok (.iastore, 1) := by decide +kernel
theorem dX2_plain_200 : decode cX2_plain 200 = .ok (.goto 98, 3) := by decide +kernel
theorem dX2_plain_203 : decode cX2_plain 203 = .ok (.aload_n 0, 1) := by decide +kernel
theorem dX2_plain_204 : decode cX2_plain 204 = .ok (.getfield 23, 3) := by decide +kernel
theorem dX2_plain_207 : decode cX2_plain 207 = .ok (.iload 8, 2) := by decide +kernel
theorem dX2_plain_209 : decode cX2_plain 209 = .ok (.iload_n 3, 1) := by decide +kernel
theorem dX2_plain_210 : decode cX2_plain 210 = .ok (.aload_n 1, 1) := by decide +kernel
theorem dX2_plain_211 : decode cX2_plain 211 = .ok (.iload 7, 2) := by decide +kernel
theorem dX2_plain_213 : decode cX2_plain 213 = .ok (.iload 9, 2) := by decide +kernel
theorem dX2_plain_215 : decode cX2_plain 215 = .ok (.iconst 1, 1) := by decide +kernel
theorem dX2_plain_216 : decode cX2_plain 216 = .ok (.invokevirtual 87, 3) := by decide +kernel
theorem wl_X2_87 : Cond.methodLink RX2 87 yX4_leadingTo ∈ TB := tbm (tq3 (List.mem_of_getElem? (i := 233) (by decide +kernel))) (by decide +kernel)
theorem wc_X4_leadingTo : Cond.code yX4_leadingTo cX4_leadingTo 8 (some .int) ∈ TB := tbm (tq3 (List.mem_of_getElem? (i := 236) (rfl))) (by decide +kernel)
theorem wi_X4_leadingTo : Cond.instanceMethod yX4_leadingTo ∈ TB := tbm (tq3 (List.mem_of_getElem? (i := 234) (by decide +kernel))) (by decide +kernel)
theorem ws_X4_leadingTo : Cond.selects RX4 yX4_leadingTo yX4_leadingTo ∈ TB := tbm (tq3 (List.mem_of_getElem? (i := 235) (by decide +kernel))) (by decide +kernel)
theorem mi_X4_leadingTo : MI yX4_leadingTo cX4_leadingTo 8 (some .int) 3 := ⟨wc_X4_leadingTo, wn_X4, ⟨by decide +kernel, by decide +kernel, by decide +kernel⟩, wi_X4_leadingTo, ws_X4_leadingTo⟩
theorem dX2_plain_219 : decode cX2_plain 219 = .ok (.aload_n 1, 1) := by decide +kernel
theorem dX2_plain_220 : decode cX2_plain 220 = .ok (.iload 7, 2) := by decide +kernel
theorem dX2_plain_222 : decode cX2_plain 222 = .ok (.iload 10, 2) := by decide +kernel
theorem dX2_plain_224 : decode cX2_plain 224 = .ok (.iconst 1, 1) := by decide +kernel
theorem dX2_plain_225 : decode cX2_plain 225 = .ok (.invokevirtual 87, 3) := by decide +kernel
theorem dX2_plain_228 : decode cX2_plain 228 = .ok (.iand, 1) := by decide +kernel
theorem dX2_plain_229 : decode cX2_plain 229 = .ok (.iconst (-1), 1) := by decide +kernel
theorem dX2_plain_230 : decode cX2_plain 230 = .ok (.ixor, 1) := by decide +kernel
theorem dX2_plain_231 : decode cX2_plain 231 = .ok (.iand, 1) := by decide +kernel
theorem dX2_plain_232 : decode cX2_plain 232 = .ok (.iastore, 1) := by decide +kernel
theorem dX2_plain_233 : decode cX2_plain 233 = .ok (.goto 65, 3) := by decide +kernel
theorem dX2_plain_236 : decode cX2_plain 236 = .ok (.aload_n 0, 1) := by decide +kernel
theorem dX2_plain_237 : decode cX2_plain 237 = .ok (.getfield 23, 3) := by decide +kernel
theorem dX2_plain_240 : decode cX2_plain 240 = .ok (.iload 8, 2) := by decide +kernel
theorem dX2_plain_242 : decode cX2_plain 242 = .ok (.iload_n 3, 1) := by decide +kernel
theorem dX2_plain_243 : decode cX2_plain 243 = .ok (.aload_n 1, 1) := by decide +kernel
theorem dX2_plain_244 : decode cX2_plain 244 = .ok (.iload 7, 2) := by decide +kernel
theorem dX2_plain_246 : decode cX2_plain 246 = .ok (.iload 10, 2) := by decide +kernel
theorem dX2_plain_248 : decode cX2_plain 248 = .ok (.iconst 1, 1) := by decide +kernel
theorem dX2_plain_249 : decode cX2_plain 249 = .ok (.invokevirtual 87, 3) := by decide +kernel
theorem dX2_plain_252 : decode cX2_plain 252 = .ok (.iconst (-1), 1) := by decide +kernel
theorem dX2_plain_253 : decode cX2_plain 253 = .ok (.ixor, 1) := by decide +kernel
theorem dX2_plain_254 : decode cX2_plain 254 = .ok (.iand, 1) := by decide +kernel
theorem dX2_plain_255 : decode cX2_plain 255 = .ok (.iastore, 1) := by decide +kernel
theorem dX2_plain_256 : decode cX2_plain 256 = .ok (.goto 42, 3) := by decide +kernel
theorem dX2_plain_259 : decode cX2_plain 259 = .ok (.aload_n 0, 1) := by decide +kernel
theorem dX2_plain_260 : decode cX2_plain 260 = .ok (.getfield 23, 3) := by decide +kernel
theorem dX2_plain_263 : decode cX2_plain 263 = .ok (.iload 8, 2) := by decide +kernel
theorem dX2_plain_265 : decode cX2_plain 265 = .ok (.iload_n 3, 1) := by decide +kernel
theorem dX2_plain_266 : decode cX2_plain 266 = .ok (.aload_n 1, 1) := by decide +kernel
theorem dX2_plain_267 : decode cX2_plain 267 = .ok (.iload 7, 2) := by decide +kernel
theorem dX2_plain_269 : decode cX2_plain 269 = .ok (.iload 10, 2) := by decide +kernel
theorem dX2_plain_271 : decode cX2_plain 271 = .ok (.bipush 24, 2) := by decide +kernel
theorem dX2_plain_273 : decode cX2_plain 273 = .ok (.invokevirtual 87, 3) := by decide +kernel
theorem dX2_plain_276 : decode cX2_plain 276 = .ok (.iconst (-1), 1) := by decide +kernel
theorem dX2_plain_277 : decode cX2_plain 277 = .ok (.ixor, 1) := by decide +kernel
theorem dX2_plain_278 : decode cX2_plain 278 = .ok (.iand, 1) := by decide +kernel
theorem dX2_plain_279 : decode cX2_plain 279 = .ok (.iastore, 1) := by decide +kernel
theorem dX2_plain_280 : decode cX2_plain 280 = .ok (.goto 18, 3) := by decide +kernel
theorem dX2_plain_283 : decode cX2_plain 283 = .ok (.aload_n 0, 1) := by decide +kernel
theorem dX2_plain_284 : decode cX2_plain 284 = .ok (.getfield 23, 3) := by decide +kernel
theorem dX2_plain_287 : decode cX2_plain 287 = .ok (.iload 8, 2) := by decide +kernel
theorem dX2_plain_289 : decode cX2_plain 289 = .ok (.aload_n 1, 1) := by decide +kernel
theorem dX2_plain_290 : decode cX2_plain 290 = .ok (.iload 7, 2) := by decide +kernel
theorem dX2_plain_292 : decode cX2_plain 292 = .ok (.iload 9, 2) := by decide +kernel
theorem dX2_plain_294 : decode cX2_plain 294 = .ok (.invokevirtual 91, 3) := by decide +kernel
theorem wl_X2_91 : Cond.methodLink RX2 91 yX4_togetherWithin ∈ TB := tbm (tq3 (List.mem_of_getElem? (i := 237) (by decide +kernel))) (by decide +kernel)
theorem wc_X4_togetherWithin : Cond.code yX4_togetherWithin cX4_togetherWithin 7 (some .int) ∈ TB := tbm (tq4 (List.mem_of_getElem? (i := 0) (rfl))) (by decide +kernel)
theorem wi_X4_togetherWithin : Cond.instanceMethod yX4_togetherWithin ∈ TB := tbm (tq3 (List.mem_of_getElem? (i := 238) (by decide +kernel))) (by decide +kernel)
theorem ws_X4_togetherWithin : Cond.selects RX4 yX4_togetherWithin yX4_togetherWithin ∈ TB := tbm (tq3 (List.mem_of_getElem? (i := 239) (by decide +kernel))) (by decide +kernel)
theorem mi_X4_togetherWithin : MI yX4_togetherWithin cX4_togetherWithin 7 (some .int) 2 := ⟨wc_X4_togetherWithin, wn_X4, ⟨by decide +kernel, by decide +kernel, by decide +kernel⟩, wi_X4_togetherWithin, ws_X4_togetherWithin⟩
theorem dX2_plain_297 : decode cX2_plain 297 = .ok (.iastore, 1) := by decide +kernel
set_option maxRecDepth 100000 in
set_option maxHeartbeats 4000000 in
theorem j_plain (l : Launch) (E : EV) (ro : va_W) (qj : Nat) (h : Nat) (sa : Nat) (jt : Nat) (je : Nat) (ju : Nat) (ja : Nat) (ft : Nat → Int32) (n : Nat) (r : Nat) (a : Nat) (b : Nat) (f : Nat → Int32) (gg : Nat → Int32) (hn : n ≤ 24) (hr : r < n ∨ r = 0) (hsa : SYg E ro sa) : CT l yX2_plain (Cond.code yX2_plain cX2_plain 11 (some .int) :: TB) ({ frames := 2, cells := 0, slots := 0, locals := 51 }) E ro [.ref qj, .ref h, .ref sa] [(qj, .inr (2, [.ref jt, .ref je, .ref ju, .ref ja])), (ju, .inl (E.2.1 1, 32, .inl ft)), (h, .inr (4, [.int (nI n), .int (nI r), .ref a, .ref b])), (a, .inl (E.2.1 1, 24, .inl f)), (b, .inl (E.2.1 1, 96, .inl gg))] (Qi E (fun (rz : Int32) uz => (∃ (ft2 : Nat → Int32), uz = [(qj, .inr (2, [.ref jt, .ref je, .ref ju, .ref ja])), (ju, .inl (E.2.1 1, 32, .inl ft2)), (h, .inr (4, [.int (nI n), .int (nI r), .ref a, .ref b])), (a, .inl (E.2.1 1, 24, .inl f)), (b, .inl (E.2.1 1, 96, .inl gg))]))) 0 0 := by
  refine ct_of rfl rfl ?_
  intro X C hT hin hro
  show WW X 11 E 0 [(0, .ref qj), (1, .ref h), (2, .ref sa)] [] [(qj, .inr (2, [.ref jt, .ref je, .ref ju, .ref ja])), (ju, .inl (E.2.1 1, 32, .inl ft)), (h, .inr (4, [.int (nI n), .int (nI r), .ref a, .ref b])), (a, .inl (E.2.1 1, 24, .inl f)), (b, .inl (E.2.1 1, 96, .inl gg))] 0 0
  obtain ⟨nn, so, sr, sf, tk, dp, nm, na, i0, i1, i2, i3, sx, sy, sz, h0, h1, h2, h3, hwf, hna, haf⟩ := id hsa
  have hwn : 1 ≤ nn ∧ nn ≤ 32 := ⟨hwf.1, hwf.2.1⟩
  refine ww_aload_n C dX2_plain_0 1 rfl rfl ?_
  refine ww_ci (wr := [(qj, .inr (2, [.ref jt, .ref je, .ref ju, .ref ja])), (ju, .inl (E.2.1 1, 32, .inl ft)), (a, .inl (E.2.1 1, 24, .inl f)), (b, .inl (E.2.1 1, 96, .inl gg))]) (k' := 0) (n' := 0) C (run_V (As := []) (rest := []) C (m_all X.2.1 E ro h n r a b (by omega)) mi_X4_all wl_X2_61 rfl 0 4 rfl rfl rfl rfl rfl dX2_plain_1) (roK hro) [2] [0, 1, 3, 4] rfl rfl rfl rfl (fun r_1 uz hw => ?_)
  refine an1 hw ?_
  clear hw
  intro he_3 hw
  have h_2 := hw
  clear hw
  subst he_3
  refine ww_eq (ws' := [(qj, .inr (2, [.ref jt, .ref je, .ref ju, .ref ja])), (ju, .inl (E.2.1 1, 32, .inl ft)), (a, .inl (E.2.1 1, 24, .inl f)), (b, .inl (E.2.1 1, 96, .inl gg)), (h, .inr (4, [.int (nI n), .int (nI r), .ref a, .ref b]))]) ?_ rfl rfl rfl
  refine ww_istore_n (lv' := [(3, .int r_1), (0, .ref qj), (1, .ref h), (2, .ref sa)]) C dX2_plain_4 rfl rfl rfl ?_
  refine ww_iconst (v := 0) C dX2_plain_5 rfl ?_
  refine ww_istore (lv' := [(4, .int 0), (3, .int r_1), (0, .ref qj), (1, .ref h), (2, .ref sa)]) C dX2_plain_6 rfl rfl ?_
  refine ww_aload_n C dX2_plain_8 4 rfl rfl ?_
  refine ww_getR C hro fg_X2_74 i0 h0 rfl dX2_plain_9 ?_
  refine ww_alenR (v := (nI nn)) (t0 := 1) C hro i1 h1 rfl rfl dX2_plain_12 ?_
  refine ww_iconst (v := 1) C dX2_plain_13 rfl ?_
  obtain ⟨x_4, ex_4⟩ : ∃ z : Int32, (nI nn) - (1 : Int32) = z := ⟨_, rfl⟩
  have zx_4 : x_4.toInt = ((nn : Nat) : Int) - 1 := by rw [← ex_4]; exact i_sub (nI_toInt (n := nn) (by omega)) rfl (by omega) (by omega)
  refine ww_isub (v := x_4) C dX2_plain_14 ex_4 ?_
  refine ww_istore (lv' := [(5, .int x_4), (4, .int 0), (3, .int r_1), (0, .ref qj), (1, .ref h), (2, .ref sa)]) C dX2_plain_15 rfl rfl ?_
  have loop_17 : ∀ (fu : Nat) (xi : Int32) (ii : Nat) (tt : Nat) (f1 : Nat → Int32), (xi.toInt = (ii : Int) - 1) → (ii ≤ nn) → ((tt : Int) = opn so ii) → ii < fu → WW X 11 E 17 [(5, .int xi), (4, .int (nI tt)), (3, .int r_1), (0, .ref qj), (1, .ref h), (2, .ref sa)] [] [(qj, .inr (2, [.ref jt, .ref je, .ref ju, .ref ja])), (ju, .inl (E.2.1 1, 32, .inl f1)), (a, .inl (E.2.1 1, 24, .inl f)), (b, .inl (E.2.1 1, 96, .inl gg)), (h, .inr (4, [.int (nI n), .int (nI r), .ref a, .ref b]))] 0 0 := by
    intro fu
    induction fu with
    | zero => intro xi ii tt f1 hxi hii htt hmeas; exact absurd hmeas (Nat.not_lt_zero _)
    | succ fu ih_17 =>
      intro xi ii tt f1 hxi hii htt hmeas
      refine ww_iload C dX2_plain_17 0 rfl ?_
      refine ww_if_lt (tgt := 304) C dX2_plain_19 (by decide) (fun c_5 => ?_) (fun c_5 => ?_)
      · have zc_5 : ((ii : Int) - 1) < 0 := i_lt hxi rfl c_5
        refine ww_aload_n C dX2_plain_304 3 rfl rfl ?_
        refine ww_get C fg_X2_23 0 rfl rfl dX2_plain_305 ?_
        refine ww_iconst (v := 0) C dX2_plain_308 rfl ?_
        obtain ⟨x_6, ex_6⟩ : ∃ z : Int32, f1 0 = z := ⟨_, rfl⟩
        refine ww_iald (v := x_6) C 1 rfl (vin rfl) ex_6 dX2_plain_309 ?_
        exact ww_iret (u := [(qj, .inr (2, [.ref jt, .ref je, .ref ju, .ref ja])), (ju, .inl (E.2.1 1, 32, .inl f1)), (h, .inr (4, [.int (nI n), .int (nI r), .ref a, .ref b])), (a, .inl (E.2.1 1, 24, .inl f)), (b, .inl (E.2.1 1, 96, .inl gg))]) C hT [0, 1, 4, 2, 3] rfl rfl rfl rfl dX2_plain_310 (⟨f1, rfl⟩)
      · have zc_5 : ((ii : Int) - 1) ≥ 0 := i_nlt hxi rfl c_5
        obtain ⟨j_7, hj_7, rfl⟩ := i_nat (x := xi) (N := 31) (by omega) (by omega)
        have hzj_7 := nI_toInt (n := j_7) (by omega)
        refine ww_aload_n C dX2_plain_22 5 rfl rfl ?_
        refine ww_getR C hro fg_X2_74 i0 h0 rfl dX2_plain_23 ?_
        refine ww_iload C dX2_plain_26 0 rfl ?_
        obtain ⟨x_8, ex_8⟩ : ∃ z : Int32, so j_7 = z := ⟨_, rfl⟩
        refine ww_ialdR (v := x_8) C hro i1 h1 (vp_in_nI (by omega) (by omega)) (ldn (by omega) ex_8) dX2_plain_28 ?_
        refine ww_istore (lv' := [(6, .int x_8), (5, .int (nI j_7)), (4, .int (nI tt)), (3, .int r_1), (0, .ref qj), (1, .ref h), (2, .ref sa)]) C dX2_plain_29 rfl rfl ?_
        have hbj_7 := hwf.2.2.1 j_7 (by omega)
        rw [ex_8] at hbj_7
        have hoj_7 := opn_s so j_7
        have h1j_7 := hwf.2.2.2.1 j_7 (by omega)
        have h2j_7 := opn_le hwf (i := j_7 + 1) (by omega)
        have h3j_7 := opn_le hwf (i := j_7) (by omega)
        have h4j_7 : ii = j_7 + 1 := by omega
        rw [h4j_7] at htt
        rcases sp_0_8 (x := x_8) (by omega) (by omega) with rfl | rfl | rfl | rfl | rfl | rfl | rfl | rfl | rfl
        · rw [ex_8, uN_0] at hoj_7
          refine ww_aload_n C dX2_plain_31 6 rfl rfl ?_
          refine ww_getR C hro fg_X2_77 i0 h0 rfl dX2_plain_32 ?_
          refine ww_iload C dX2_plain_35 1 rfl ?_
          obtain ⟨x_9, ex_9⟩ : ∃ z : Int32, sr j_7 = z := ⟨_, rfl⟩
          refine ww_ialdR (v := x_9) C hro i2 h2 (vp_in_nI (by omega) (by omega)) (ldn (by omega) ex_9) dX2_plain_37 ?_
          refine ww_istore (lv' := [(7, .int x_9), (6, .int 0), (5, .int (nI j_7)), (4, .int (nI tt)), (3, .int r_1), (0, .ref qj), (1, .ref h), (2, .ref sa)]) C dX2_plain_38 rfl rfl ?_
          refine ww_iload C dX2_plain_40 3 rfl ?_
          refine ww_iconst (v := 1) C dX2_plain_42 rfl ?_
          refine ww_iload C dX2_plain_43 1 rfl ?_
          refine ww_ci (wr := [(qj, .inr (2, [.ref jt, .ref je, .ref ju, .ref ja])), (ju, .inl (E.2.1 1, 32, .inl f1)), (a, .inl (E.2.1 1, 24, .inl f)), (b, .inl (E.2.1 1, 96, .inl gg)), (h, .inr (4, [.int (nI n), .int (nI r), .ref a, .ref b]))]) (k' := 0) (n' := 0) C (run_SN (As := [.int 0]) (rest := [.int 1, .int (nI tt)]) C (c_under X.2.1 E ro 0) ms_X11_under (List.mem_of_getElem? (i := 15) rfl) rfl rfl rfl rfl dX2_plain_45) (roK hro) [] [0, 1, 2, 3, 4] rfl rfl rfl rfl (fun r_10 uz hw => ?_)
          rcases hw with hw | hw | hw
          · refine an2 hw ?_
            clear hw
            intro he_12 he_13 hw
            have h_11 := hw
            clear hw
            have he_12 := he_12.symm
            subst he_12
            subst he_13
            refine ww_eq (ws' := [(qj, .inr (2, [.ref jt, .ref je, .ref ju, .ref ja])), (ju, .inl (E.2.1 1, 32, .inl f1)), (a, .inl (E.2.1 1, 24, .inl f)), (b, .inl (E.2.1 1, 96, .inl gg)), (h, .inr (4, [.int (nI n), .int (nI r), .ref a, .ref b]))]) ?_ rfl rfl rfl
            refine ww_isub (v := 1) C dX2_plain_48 (by decide) ?_
            refine ww_iadd (v := (nI (tt + 1))) C dX2_plain_49 (nI_add tt 1) ?_
            refine ww_istore (lv' := [(4, .int (nI (tt + 1))), (7, .int x_9), (6, .int 0), (5, .int (nI j_7)), (3, .int r_1), (0, .ref qj), (1, .ref h), (2, .ref sa)]) C dX2_plain_50 rfl rfl ?_
            refine ww_iload C dX2_plain_52 0 rfl ?_
            refine ww_iconst (v := 1) C dX2_plain_54 rfl ?_
            refine ww_isub (v := (nI ((tt + 1) - 1))) C dX2_plain_55 (pk_sub (a := (tt + 1)) (b := 1) (by omega)) ?_
            refine ww_istore (lv' := [(8, .int (nI ((tt + 1) - 1))), (4, .int (nI (tt + 1))), (7, .int x_9), (6, .int 0), (5, .int (nI j_7)), (3, .int r_1), (0, .ref qj), (1, .ref h), (2, .ref sa)]) C dX2_plain_56 rfl rfl ?_
            refine ww_aload_n C dX2_plain_58 6 rfl rfl ?_
            refine ww_get C fg_X2_23 0 rfl rfl dX2_plain_59 ?_
            refine ww_iload C dX2_plain_62 0 rfl ?_
            obtain ⟨x_20, ex_20⟩ : ∃ z : Int32, f1 ((tt + 1) - 1) = z := ⟨_, rfl⟩
            refine ww_iald (v := x_20) C 1 rfl (vp_in_nI (by omega) (by omega)) (ldn (by omega) ex_20) dX2_plain_64 ?_
            refine ww_istore (lv' := [(9, .int x_20), (8, .int (nI ((tt + 1) - 1))), (4, .int (nI (tt + 1))), (7, .int x_9), (6, .int 0), (5, .int (nI j_7)), (3, .int r_1), (0, .ref qj), (1, .ref h), (2, .ref sa)]) C dX2_plain_65 rfl rfl ?_
            refine ww_iload_n C dX2_plain_67 6 rfl rfl ?_
            refine ww_iload C dX2_plain_68 0 rfl ?_
            refine ww_iconst (v := (-1)) C dX2_plain_70 rfl ?_
            obtain ⟨x_21, ex_21⟩ : ∃ z : Int32, x_20 ^^^ ((-1) : Int32) = z := ⟨_, rfl⟩
            refine ww_ixor (v := x_21) C dX2_plain_71 ex_21 ?_
            obtain ⟨x_22, ex_22⟩ : ∃ z : Int32, r_1 &&& x_21 = z := ⟨_, rfl⟩
            refine ww_iand (v := x_22) C dX2_plain_72 ex_22 ?_
            refine ww_istore (lv' := [(10, .int x_22), (9, .int x_20), (8, .int (nI ((tt + 1) - 1))), (4, .int (nI (tt + 1))), (7, .int x_9), (6, .int 0), (5, .int (nI j_7)), (3, .int r_1), (0, .ref qj), (1, .ref h), (2, .ref sa)]) C dX2_plain_73 rfl rfl ?_
            refine ww_iload C dX2_plain_75 5 rfl ?_
            refine ww_tableIn (tgt := 124) C dX2_plain_77 (by decide) (by decide) rfl (by decide) ?_
            refine ww_aload_n C dX2_plain_124 8 rfl rfl ?_
            refine ww_get C fg_X2_23 0 rfl rfl dX2_plain_125 ?_
            refine ww_iload C dX2_plain_128 2 rfl ?_
            refine ww_aload_n C dX2_plain_130 9 rfl rfl ?_
            refine ww_iload C dX2_plain_131 4 rfl ?_
            refine ww_ci (wr := [(qj, .inr (2, [.ref jt, .ref je, .ref ju, .ref ja])), (ju, .inl (E.2.1 1, 32, .inl f1))]) (k' := 0) (n' := 0) C (run_V (As := [.int x_9]) (rest := [.int (nI ((tt + 1) - 1)), .ref ju]) C (m_withFact X.2.1 E ro h x_9 n r a b f gg (by omega) (by omega)) mi_X4_withFact wl_X2_84 rfl 0 4 rfl rfl rfl rfl rfl dX2_plain_133) (roK hro) [4, 2, 3] [0, 1] rfl rfl rfl rfl (fun r_23 uz hw => ?_)
            have he_24 := hw
            clear hw
            subst he_24
            refine ww_eq (ws' := [(qj, .inr (2, [.ref jt, .ref je, .ref ju, .ref ja])), (ju, .inl (E.2.1 1, 32, .inl f1)), (h, .inr (4, [.int (nI n), .int (nI r), .ref a, .ref b])), (a, .inl (E.2.1 1, 24, .inl f)), (b, .inl (E.2.1 1, 96, .inl gg))]) ?_ rfl rfl rfl
            obtain ⟨f_25, ef_25⟩ : ∃ z : Nat → Int32, upd f1 ((tt + 1) - 1) r_23 = z := ⟨_, rfl⟩
            refine ww_iast (ws' := [(qj, .inr (2, [.ref jt, .ref je, .ref ju, .ref ja])), (ju, .inl (E.2.1 1, 32, .inl f_25)), (h, .inr (4, [.int (nI n), .int (nI r), .ref a, .ref b])), (a, .inl (E.2.1 1, 24, .inl f)), (b, .inl (E.2.1 1, 96, .inl gg))]) C 1 rfl (vp_in_nI (by omega) (by omega)) (ldn2 (by omega) ef_25) rfl dX2_plain_136 ?_
            refine ww_goto (tgt := 298) C dX2_plain_137 (by decide) ?_
            obtain ⟨x_26, ex_26⟩ : ∃ z : Int32, (nI j_7) + Int32.ofInt (-1) = z := ⟨_, rfl⟩
            have zx_26 : x_26.toInt = ((j_7 : Nat) : Int) - 1 := by rw [← ex_26]; exact i_dec (c := 1) (nI_toInt (n := j_7) (by omega)) rfl (by omega) (by omega)
            refine ww_iinc (j := 6) (v := x_26) (lv' := [(5, .int x_26), (10, .int x_22), (9, .int x_20), (8, .int (nI ((tt + 1) - 1))), (4, .int (nI (tt + 1))), (7, .int x_9), (6, .int 0), (3, .int r_1), (0, .ref qj), (1, .ref h), (2, .ref sa)]) C dX2_plain_298 rfl ex_26 rfl rfl ?_
            refine ww_goto (tgt := 17) C dX2_plain_301 (by decide) ?_
            exact ww_lv [0, 4, 7, 8, 9, 10] rfl (ww_sub [0, 1, 3, 4, 2] rfl rfl (ih_17 x_26 j_7 (tt + 1) f_25 (by omega) (by omega) (by omega) (by omega)))
          · refine an2 hw ?_
            clear hw
            intro he_15 he_16 hw
            have h_14 := hw
            clear hw
            have he_15 := he_15.symm
            subst he_15
            subst he_16
            exact absurd h_14 (by decide)
          · refine an2 hw ?_
            clear hw
            intro he_18 he_19 hw
            have h_17 := hw
            clear hw
            have he_18 := he_18.symm
            subst he_18
            subst he_19
            exact absurd h_17 (by decide)
        · rw [ex_8, uN_1] at hoj_7
          refine ww_aload_n C dX2_plain_31 6 rfl rfl ?_
          refine ww_getR C hro fg_X2_77 i0 h0 rfl dX2_plain_32 ?_
          refine ww_iload C dX2_plain_35 1 rfl ?_
          obtain ⟨x_27, ex_27⟩ : ∃ z : Int32, sr j_7 = z := ⟨_, rfl⟩
          refine ww_ialdR (v := x_27) C hro i2 h2 (vp_in_nI (by omega) (by omega)) (ldn (by omega) ex_27) dX2_plain_37 ?_
          refine ww_istore (lv' := [(7, .int x_27), (6, .int 1), (5, .int (nI j_7)), (4, .int (nI tt)), (3, .int r_1), (0, .ref qj), (1, .ref h), (2, .ref sa)]) C dX2_plain_38 rfl rfl ?_
          refine ww_iload C dX2_plain_40 3 rfl ?_
          refine ww_iconst (v := 1) C dX2_plain_42 rfl ?_
          refine ww_iload C dX2_plain_43 1 rfl ?_
          refine ww_ci (wr := [(qj, .inr (2, [.ref jt, .ref je, .ref ju, .ref ja])), (ju, .inl (E.2.1 1, 32, .inl f1)), (a, .inl (E.2.1 1, 24, .inl f)), (b, .inl (E.2.1 1, 96, .inl gg)), (h, .inr (4, [.int (nI n), .int (nI r), .ref a, .ref b]))]) (k' := 0) (n' := 0) C (run_SN (As := [.int 1]) (rest := [.int 1, .int (nI tt)]) C (c_under X.2.1 E ro 1) ms_X11_under (List.mem_of_getElem? (i := 15) rfl) rfl rfl rfl rfl dX2_plain_45) (roK hro) [] [0, 1, 2, 3, 4] rfl rfl rfl rfl (fun r_28 uz hw => ?_)
          rcases hw with hw | hw | hw
          · refine an2 hw ?_
            clear hw
            intro he_30 he_31 hw
            have h_29 := hw
            clear hw
            have he_30 := he_30.symm
            subst he_30
            subst he_31
            refine ww_eq (ws' := [(qj, .inr (2, [.ref jt, .ref je, .ref ju, .ref ja])), (ju, .inl (E.2.1 1, 32, .inl f1)), (a, .inl (E.2.1 1, 24, .inl f)), (b, .inl (E.2.1 1, 96, .inl gg)), (h, .inr (4, [.int (nI n), .int (nI r), .ref a, .ref b]))]) ?_ rfl rfl rfl
            refine ww_isub (v := 1) C dX2_plain_48 (by decide) ?_
            refine ww_iadd (v := (nI (tt + 1))) C dX2_plain_49 (nI_add tt 1) ?_
            refine ww_istore (lv' := [(4, .int (nI (tt + 1))), (7, .int x_27), (6, .int 1), (5, .int (nI j_7)), (3, .int r_1), (0, .ref qj), (1, .ref h), (2, .ref sa)]) C dX2_plain_50 rfl rfl ?_
            refine ww_iload C dX2_plain_52 0 rfl ?_
            refine ww_iconst (v := 1) C dX2_plain_54 rfl ?_
            refine ww_isub (v := (nI ((tt + 1) - 1))) C dX2_plain_55 (pk_sub (a := (tt + 1)) (b := 1) (by omega)) ?_
            refine ww_istore (lv' := [(8, .int (nI ((tt + 1) - 1))), (4, .int (nI (tt + 1))), (7, .int x_27), (6, .int 1), (5, .int (nI j_7)), (3, .int r_1), (0, .ref qj), (1, .ref h), (2, .ref sa)]) C dX2_plain_56 rfl rfl ?_
            refine ww_aload_n C dX2_plain_58 6 rfl rfl ?_
            refine ww_get C fg_X2_23 0 rfl rfl dX2_plain_59 ?_
            refine ww_iload C dX2_plain_62 0 rfl ?_
            obtain ⟨x_38, ex_38⟩ : ∃ z : Int32, f1 ((tt + 1) - 1) = z := ⟨_, rfl⟩
            refine ww_iald (v := x_38) C 1 rfl (vp_in_nI (by omega) (by omega)) (ldn (by omega) ex_38) dX2_plain_64 ?_
            refine ww_istore (lv' := [(9, .int x_38), (8, .int (nI ((tt + 1) - 1))), (4, .int (nI (tt + 1))), (7, .int x_27), (6, .int 1), (5, .int (nI j_7)), (3, .int r_1), (0, .ref qj), (1, .ref h), (2, .ref sa)]) C dX2_plain_65 rfl rfl ?_
            refine ww_iload_n C dX2_plain_67 6 rfl rfl ?_
            refine ww_iload C dX2_plain_68 0 rfl ?_
            refine ww_iconst (v := (-1)) C dX2_plain_70 rfl ?_
            obtain ⟨x_39, ex_39⟩ : ∃ z : Int32, x_38 ^^^ ((-1) : Int32) = z := ⟨_, rfl⟩
            refine ww_ixor (v := x_39) C dX2_plain_71 ex_39 ?_
            obtain ⟨x_40, ex_40⟩ : ∃ z : Int32, r_1 &&& x_39 = z := ⟨_, rfl⟩
            refine ww_iand (v := x_40) C dX2_plain_72 ex_40 ?_
            refine ww_istore (lv' := [(10, .int x_40), (9, .int x_38), (8, .int (nI ((tt + 1) - 1))), (4, .int (nI (tt + 1))), (7, .int x_27), (6, .int 1), (5, .int (nI j_7)), (3, .int r_1), (0, .ref qj), (1, .ref h), (2, .ref sa)]) C dX2_plain_73 rfl rfl ?_
            refine ww_iload C dX2_plain_75 5 rfl ?_
            refine ww_tableIn (tgt := 140) C dX2_plain_77 (by decide) (by decide) rfl (by decide) ?_
            refine ww_aload_n C dX2_plain_140 8 rfl rfl ?_
            refine ww_get C fg_X2_23 0 rfl rfl dX2_plain_141 ?_
            refine ww_iload C dX2_plain_144 2 rfl ?_
            refine ww_iload_n C dX2_plain_146 7 rfl rfl ?_
            obtain ⟨f_41, ef_41⟩ : ∃ z : Nat → Int32, upd f1 ((tt + 1) - 1) r_1 = z := ⟨_, rfl⟩
            refine ww_iast (ws' := [(qj, .inr (2, [.ref jt, .ref je, .ref ju, .ref ja])), (ju, .inl (E.2.1 1, 32, .inl f_41)), (a, .inl (E.2.1 1, 24, .inl f)), (b, .inl (E.2.1 1, 96, .inl gg)), (h, .inr (4, [.int (nI n), .int (nI r), .ref a, .ref b]))]) C 1 rfl (vp_in_nI (by omega) (by omega)) (ldn2 (by omega) ef_41) rfl dX2_plain_147 ?_
            refine ww_goto (tgt := 298) C dX2_plain_148 (by decide) ?_
            obtain ⟨x_42, ex_42⟩ : ∃ z : Int32, (nI j_7) + Int32.ofInt (-1) = z := ⟨_, rfl⟩
            have zx_42 : x_42.toInt = ((j_7 : Nat) : Int) - 1 := by rw [← ex_42]; exact i_dec (c := 1) (nI_toInt (n := j_7) (by omega)) rfl (by omega) (by omega)
            refine ww_iinc (j := 6) (v := x_42) (lv' := [(5, .int x_42), (10, .int x_40), (9, .int x_38), (8, .int (nI ((tt + 1) - 1))), (4, .int (nI (tt + 1))), (7, .int x_27), (6, .int 1), (3, .int r_1), (0, .ref qj), (1, .ref h), (2, .ref sa)]) C dX2_plain_298 rfl ex_42 rfl rfl ?_
            refine ww_goto (tgt := 17) C dX2_plain_301 (by decide) ?_
            exact ww_lv [0, 4, 7, 8, 9, 10] rfl (ww_sub [0, 1, 2, 3, 4] rfl rfl (ih_17 x_42 j_7 (tt + 1) f_41 (by omega) (by omega) (by omega) (by omega)))
          · refine an2 hw ?_
            clear hw
            intro he_33 he_34 hw
            have h_32 := hw
            clear hw
            have he_33 := he_33.symm
            subst he_33
            subst he_34
            exact absurd h_32 (by decide)
          · refine an2 hw ?_
            clear hw
            intro he_36 he_37 hw
            have h_35 := hw
            clear hw
            have he_36 := he_36.symm
            subst he_36
            subst he_37
            exact absurd h_35 (by decide)
        · rw [ex_8, uN_2] at hoj_7
          refine ww_aload_n C dX2_plain_31 6 rfl rfl ?_
          refine ww_getR C hro fg_X2_77 i0 h0 rfl dX2_plain_32 ?_
          refine ww_iload C dX2_plain_35 1 rfl ?_
          obtain ⟨x_43, ex_43⟩ : ∃ z : Int32, sr j_7 = z := ⟨_, rfl⟩
          refine ww_ialdR (v := x_43) C hro i2 h2 (vp_in_nI (by omega) (by omega)) (ldn (by omega) ex_43) dX2_plain_37 ?_
          refine ww_istore (lv' := [(7, .int x_43), (6, .int 2), (5, .int (nI j_7)), (4, .int (nI tt)), (3, .int r_1), (0, .ref qj), (1, .ref h), (2, .ref sa)]) C dX2_plain_38 rfl rfl ?_
          refine ww_iload C dX2_plain_40 3 rfl ?_
          refine ww_iconst (v := 1) C dX2_plain_42 rfl ?_
          refine ww_iload C dX2_plain_43 1 rfl ?_
          refine ww_ci (wr := [(qj, .inr (2, [.ref jt, .ref je, .ref ju, .ref ja])), (ju, .inl (E.2.1 1, 32, .inl f1)), (a, .inl (E.2.1 1, 24, .inl f)), (b, .inl (E.2.1 1, 96, .inl gg)), (h, .inr (4, [.int (nI n), .int (nI r), .ref a, .ref b]))]) (k' := 0) (n' := 0) C (run_SN (As := [.int 2]) (rest := [.int 1, .int (nI tt)]) C (c_under X.2.1 E ro 2) ms_X11_under (List.mem_of_getElem? (i := 15) rfl) rfl rfl rfl rfl dX2_plain_45) (roK hro) [] [0, 1, 2, 3, 4] rfl rfl rfl rfl (fun r_44 uz hw => ?_)
          rcases hw with hw | hw | hw
          · refine an2 hw ?_
            clear hw
            intro he_46 he_47 hw
            have h_45 := hw
            clear hw
            have he_46 := he_46.symm
            subst he_46
            subst he_47
            exact absurd h_45 (by decide)
          · refine an2 hw ?_
            clear hw
            intro he_49 he_50 hw
            have h_48 := hw
            clear hw
            have he_49 := he_49.symm
            subst he_49
            subst he_50
            exact absurd h_48 (by decide)
          · refine an2 hw ?_
            clear hw
            intro he_52 he_53 hw
            have h_51 := hw
            clear hw
            have he_52 := he_52.symm
            subst he_52
            subst he_53
            refine ww_eq (ws' := [(qj, .inr (2, [.ref jt, .ref je, .ref ju, .ref ja])), (ju, .inl (E.2.1 1, 32, .inl f1)), (a, .inl (E.2.1 1, 24, .inl f)), (b, .inl (E.2.1 1, 96, .inl gg)), (h, .inr (4, [.int (nI n), .int (nI r), .ref a, .ref b]))]) ?_ rfl rfl rfl
            refine ww_isub (v := 0) C dX2_plain_48 (by decide) ?_
            refine ww_iadd (v := (nI tt)) C dX2_plain_49 (nI_add tt 0) ?_
            refine ww_istore (lv' := [(4, .int (nI tt)), (7, .int x_43), (6, .int 2), (5, .int (nI j_7)), (3, .int r_1), (0, .ref qj), (1, .ref h), (2, .ref sa)]) C dX2_plain_50 rfl rfl ?_
            refine ww_iload C dX2_plain_52 0 rfl ?_
            refine ww_iconst (v := 1) C dX2_plain_54 rfl ?_
            refine ww_isub (v := (nI (tt - 1))) C dX2_plain_55 (pk_sub (a := tt) (b := 1) (by omega)) ?_
            refine ww_istore (lv' := [(8, .int (nI (tt - 1))), (4, .int (nI tt)), (7, .int x_43), (6, .int 2), (5, .int (nI j_7)), (3, .int r_1), (0, .ref qj), (1, .ref h), (2, .ref sa)]) C dX2_plain_56 rfl rfl ?_
            refine ww_aload_n C dX2_plain_58 6 rfl rfl ?_
            refine ww_get C fg_X2_23 0 rfl rfl dX2_plain_59 ?_
            refine ww_iload C dX2_plain_62 0 rfl ?_
            obtain ⟨x_54, ex_54⟩ : ∃ z : Int32, f1 (tt - 1) = z := ⟨_, rfl⟩
            refine ww_iald (v := x_54) C 1 rfl (vp_in_nI (by omega) (by omega)) (ldn (by omega) ex_54) dX2_plain_64 ?_
            refine ww_istore (lv' := [(9, .int x_54), (8, .int (nI (tt - 1))), (4, .int (nI tt)), (7, .int x_43), (6, .int 2), (5, .int (nI j_7)), (3, .int r_1), (0, .ref qj), (1, .ref h), (2, .ref sa)]) C dX2_plain_65 rfl rfl ?_
            refine ww_iload_n C dX2_plain_67 6 rfl rfl ?_
            refine ww_iload C dX2_plain_68 0 rfl ?_
            refine ww_iconst (v := (-1)) C dX2_plain_70 rfl ?_
            obtain ⟨x_55, ex_55⟩ : ∃ z : Int32, x_54 ^^^ ((-1) : Int32) = z := ⟨_, rfl⟩
            refine ww_ixor (v := x_55) C dX2_plain_71 ex_55 ?_
            obtain ⟨x_56, ex_56⟩ : ∃ z : Int32, r_1 &&& x_55 = z := ⟨_, rfl⟩
            refine ww_iand (v := x_56) C dX2_plain_72 ex_56 ?_
            refine ww_istore (lv' := [(10, .int x_56), (9, .int x_54), (8, .int (nI (tt - 1))), (4, .int (nI tt)), (7, .int x_43), (6, .int 2), (5, .int (nI j_7)), (3, .int r_1), (0, .ref qj), (1, .ref h), (2, .ref sa)]) C dX2_plain_73 rfl rfl ?_
            refine ww_iload C dX2_plain_75 5 rfl ?_
            refine ww_tableIn (tgt := 151) C dX2_plain_77 (by decide) (by decide) rfl (by decide) ?_
            refine ww_aload_n C dX2_plain_151 8 rfl rfl ?_
            refine ww_get C fg_X2_23 0 rfl rfl dX2_plain_152 ?_
            refine ww_iload C dX2_plain_155 2 rfl ?_
            refine ww_iload C dX2_plain_157 0 rfl ?_
            obtain ⟨f_57, ef_57⟩ : ∃ z : Nat → Int32, upd f1 (tt - 1) x_56 = z := ⟨_, rfl⟩
            refine ww_iast (ws' := [(qj, .inr (2, [.ref jt, .ref je, .ref ju, .ref ja])), (ju, .inl (E.2.1 1, 32, .inl f_57)), (a, .inl (E.2.1 1, 24, .inl f)), (b, .inl (E.2.1 1, 96, .inl gg)), (h, .inr (4, [.int (nI n), .int (nI r), .ref a, .ref b]))]) C 1 rfl (vp_in_nI (by omega) (by omega)) (ldn2 (by omega) ef_57) rfl dX2_plain_159 ?_
            refine ww_goto (tgt := 298) C dX2_plain_160 (by decide) ?_
            obtain ⟨x_58, ex_58⟩ : ∃ z : Int32, (nI j_7) + Int32.ofInt (-1) = z := ⟨_, rfl⟩
            have zx_58 : x_58.toInt = ((j_7 : Nat) : Int) - 1 := by rw [← ex_58]; exact i_dec (c := 1) (nI_toInt (n := j_7) (by omega)) rfl (by omega) (by omega)
            refine ww_iinc (j := 6) (v := x_58) (lv' := [(5, .int x_58), (10, .int x_56), (9, .int x_54), (8, .int (nI (tt - 1))), (4, .int (nI tt)), (7, .int x_43), (6, .int 2), (3, .int r_1), (0, .ref qj), (1, .ref h), (2, .ref sa)]) C dX2_plain_298 rfl ex_58 rfl rfl ?_
            refine ww_goto (tgt := 17) C dX2_plain_301 (by decide) ?_
            exact ww_lv [0, 4, 7, 8, 9, 10] rfl (ww_sub [0, 1, 2, 3, 4] rfl rfl (ih_17 x_58 j_7 tt f_57 (by omega) (by omega) (by omega) (by omega)))
        · rw [ex_8, uN_3] at hoj_7
          refine ww_aload_n C dX2_plain_31 6 rfl rfl ?_
          refine ww_getR C hro fg_X2_77 i0 h0 rfl dX2_plain_32 ?_
          refine ww_iload C dX2_plain_35 1 rfl ?_
          obtain ⟨x_59, ex_59⟩ : ∃ z : Int32, sr j_7 = z := ⟨_, rfl⟩
          refine ww_ialdR (v := x_59) C hro i2 h2 (vp_in_nI (by omega) (by omega)) (ldn (by omega) ex_59) dX2_plain_37 ?_
          refine ww_istore (lv' := [(7, .int x_59), (6, .int 3), (5, .int (nI j_7)), (4, .int (nI tt)), (3, .int r_1), (0, .ref qj), (1, .ref h), (2, .ref sa)]) C dX2_plain_38 rfl rfl ?_
          refine ww_iload C dX2_plain_40 3 rfl ?_
          refine ww_iconst (v := 1) C dX2_plain_42 rfl ?_
          refine ww_iload C dX2_plain_43 1 rfl ?_
          refine ww_ci (wr := [(qj, .inr (2, [.ref jt, .ref je, .ref ju, .ref ja])), (ju, .inl (E.2.1 1, 32, .inl f1)), (a, .inl (E.2.1 1, 24, .inl f)), (b, .inl (E.2.1 1, 96, .inl gg)), (h, .inr (4, [.int (nI n), .int (nI r), .ref a, .ref b]))]) (k' := 0) (n' := 0) C (run_SN (As := [.int 3]) (rest := [.int 1, .int (nI tt)]) C (c_under X.2.1 E ro 3) ms_X11_under (List.mem_of_getElem? (i := 15) rfl) rfl rfl rfl rfl dX2_plain_45) (roK hro) [] [0, 1, 2, 3, 4] rfl rfl rfl rfl (fun r_60 uz hw => ?_)
          rcases hw with hw | hw | hw
          · refine an2 hw ?_
            clear hw
            intro he_62 he_63 hw
            have h_61 := hw
            clear hw
            have he_62 := he_62.symm
            subst he_62
            subst he_63
            exact absurd h_61 (by decide)
          · refine an2 hw ?_
            clear hw
            intro he_65 he_66 hw
            have h_64 := hw
            clear hw
            have he_65 := he_65.symm
            subst he_65
            subst he_66
            refine ww_eq (ws' := [(qj, .inr (2, [.ref jt, .ref je, .ref ju, .ref ja])), (ju, .inl (E.2.1 1, 32, .inl f1)), (a, .inl (E.2.1 1, 24, .inl f)), (b, .inl (E.2.1 1, 96, .inl gg)), (h, .inr (4, [.int (nI n), .int (nI r), .ref a, .ref b]))]) ?_ rfl rfl rfl
            refine ww_isub (v := (-1)) C dX2_plain_48 (by decide) ?_
            refine ww_iadd (v := (nI (tt - 1))) C dX2_plain_49 (nI_subc (a := tt) (c := 1) (by omega) rfl) ?_
            refine ww_istore (lv' := [(4, .int (nI (tt - 1))), (7, .int x_59), (6, .int 3), (5, .int (nI j_7)), (3, .int r_1), (0, .ref qj), (1, .ref h), (2, .ref sa)]) C dX2_plain_50 rfl rfl ?_
            refine ww_iload C dX2_plain_52 0 rfl ?_
            refine ww_iconst (v := 1) C dX2_plain_54 rfl ?_
            refine ww_isub (v := (nI ((tt - 1) - 1))) C dX2_plain_55 (pk_sub (a := (tt - 1)) (b := 1) (by omega)) ?_
            refine ww_istore (lv' := [(8, .int (nI ((tt - 1) - 1))), (4, .int (nI (tt - 1))), (7, .int x_59), (6, .int 3), (5, .int (nI j_7)), (3, .int r_1), (0, .ref qj), (1, .ref h), (2, .ref sa)]) C dX2_plain_56 rfl rfl ?_
            refine ww_aload_n C dX2_plain_58 6 rfl rfl ?_
            refine ww_get C fg_X2_23 0 rfl rfl dX2_plain_59 ?_
            refine ww_iload C dX2_plain_62 0 rfl ?_
            obtain ⟨x_70, ex_70⟩ : ∃ z : Int32, f1 ((tt - 1) - 1) = z := ⟨_, rfl⟩
            refine ww_iald (v := x_70) C 1 rfl (vp_in_nI (by omega) (by omega)) (ldn (by omega) ex_70) dX2_plain_64 ?_
            refine ww_istore (lv' := [(9, .int x_70), (8, .int (nI ((tt - 1) - 1))), (4, .int (nI (tt - 1))), (7, .int x_59), (6, .int 3), (5, .int (nI j_7)), (3, .int r_1), (0, .ref qj), (1, .ref h), (2, .ref sa)]) C dX2_plain_65 rfl rfl ?_
            refine ww_iload_n C dX2_plain_67 6 rfl rfl ?_
            refine ww_iload C dX2_plain_68 0 rfl ?_
            refine ww_iconst (v := (-1)) C dX2_plain_70 rfl ?_
            obtain ⟨x_71, ex_71⟩ : ∃ z : Int32, x_70 ^^^ ((-1) : Int32) = z := ⟨_, rfl⟩
            refine ww_ixor (v := x_71) C dX2_plain_71 ex_71 ?_
            obtain ⟨x_72, ex_72⟩ : ∃ z : Int32, r_1 &&& x_71 = z := ⟨_, rfl⟩
            refine ww_iand (v := x_72) C dX2_plain_72 ex_72 ?_
            refine ww_istore (lv' := [(10, .int x_72), (9, .int x_70), (8, .int (nI ((tt - 1) - 1))), (4, .int (nI (tt - 1))), (7, .int x_59), (6, .int 3), (5, .int (nI j_7)), (3, .int r_1), (0, .ref qj), (1, .ref h), (2, .ref sa)]) C dX2_plain_73 rfl rfl ?_
            refine ww_iload C dX2_plain_75 5 rfl ?_
            refine ww_tableIn (tgt := 163) C dX2_plain_77 (by decide) (by decide) rfl (by decide) ?_
            refine ww_aload_n C dX2_plain_163 8 rfl rfl ?_
            refine ww_get C fg_X2_23 0 rfl rfl dX2_plain_164 ?_
            refine ww_iload C dX2_plain_167 2 rfl ?_
            refine ww_iload C dX2_plain_169 1 rfl ?_
            refine ww_aload_n C dX2_plain_171 8 rfl rfl ?_
            refine ww_get C fg_X2_23 0 rfl rfl dX2_plain_172 ?_
            refine ww_iload C dX2_plain_175 3 rfl ?_
            obtain ⟨x_73, ex_73⟩ : ∃ z : Int32, f1 (tt - 1) = z := ⟨_, rfl⟩
            refine ww_iald (v := x_73) C 1 rfl (vp_in_nI (by omega) (by omega)) (ldn (by omega) ex_73) dX2_plain_177 ?_
            obtain ⟨x_74, ex_74⟩ : ∃ z : Int32, x_70 &&& x_73 = z := ⟨_, rfl⟩
            refine ww_iand (v := x_74) C dX2_plain_178 ex_74 ?_
            obtain ⟨f_75, ef_75⟩ : ∃ z : Nat → Int32, upd f1 ((tt - 1) - 1) x_74 = z := ⟨_, rfl⟩
            refine ww_iast (ws' := [(qj, .inr (2, [.ref jt, .ref je, .ref ju, .ref ja])), (ju, .inl (E.2.1 1, 32, .inl f_75)), (a, .inl (E.2.1 1, 24, .inl f)), (b, .inl (E.2.1 1, 96, .inl gg)), (h, .inr (4, [.int (nI n), .int (nI r), .ref a, .ref b]))]) C 1 rfl (vp_in_nI (by omega) (by omega)) (ldn2 (by omega) ef_75) rfl dX2_plain_179 ?_
            refine ww_goto (tgt := 298) C dX2_plain_180 (by decide) ?_
            obtain ⟨x_76, ex_76⟩ : ∃ z : Int32, (nI j_7) + Int32.ofInt (-1) = z := ⟨_, rfl⟩
            have zx_76 : x_76.toInt = ((j_7 : Nat) : Int) - 1 := by rw [← ex_76]; exact i_dec (c := 1) (nI_toInt (n := j_7) (by omega)) rfl (by omega) (by omega)
            refine ww_iinc (j := 6) (v := x_76) (lv' := [(5, .int x_76), (10, .int x_72), (9, .int x_70), (8, .int (nI ((tt - 1) - 1))), (4, .int (nI (tt - 1))), (7, .int x_59), (6, .int 3), (3, .int r_1), (0, .ref qj), (1, .ref h), (2, .ref sa)]) C dX2_plain_298 rfl ex_76 rfl rfl ?_
            refine ww_goto (tgt := 17) C dX2_plain_301 (by decide) ?_
            exact ww_lv [0, 4, 7, 8, 9, 10] rfl (ww_sub [0, 1, 2, 3, 4] rfl rfl (ih_17 x_76 j_7 (tt - 1) f_75 (by omega) (by omega) (by omega) (by omega)))
          · refine an2 hw ?_
            clear hw
            intro he_68 he_69 hw
            have h_67 := hw
            clear hw
            have he_68 := he_68.symm
            subst he_68
            subst he_69
            exact absurd h_67 (by decide)
        · rw [ex_8, uN_4] at hoj_7
          refine ww_aload_n C dX2_plain_31 6 rfl rfl ?_
          refine ww_getR C hro fg_X2_77 i0 h0 rfl dX2_plain_32 ?_
          refine ww_iload C dX2_plain_35 1 rfl ?_
          obtain ⟨x_77, ex_77⟩ : ∃ z : Int32, sr j_7 = z := ⟨_, rfl⟩
          refine ww_ialdR (v := x_77) C hro i2 h2 (vp_in_nI (by omega) (by omega)) (ldn (by omega) ex_77) dX2_plain_37 ?_
          refine ww_istore (lv' := [(7, .int x_77), (6, .int 4), (5, .int (nI j_7)), (4, .int (nI tt)), (3, .int r_1), (0, .ref qj), (1, .ref h), (2, .ref sa)]) C dX2_plain_38 rfl rfl ?_
          refine ww_iload C dX2_plain_40 3 rfl ?_
          refine ww_iconst (v := 1) C dX2_plain_42 rfl ?_
          refine ww_iload C dX2_plain_43 1 rfl ?_
          refine ww_ci (wr := [(qj, .inr (2, [.ref jt, .ref je, .ref ju, .ref ja])), (ju, .inl (E.2.1 1, 32, .inl f1)), (a, .inl (E.2.1 1, 24, .inl f)), (b, .inl (E.2.1 1, 96, .inl gg)), (h, .inr (4, [.int (nI n), .int (nI r), .ref a, .ref b]))]) (k' := 0) (n' := 0) C (run_SN (As := [.int 4]) (rest := [.int 1, .int (nI tt)]) C (c_under X.2.1 E ro 4) ms_X11_under (List.mem_of_getElem? (i := 15) rfl) rfl rfl rfl rfl dX2_plain_45) (roK hro) [] [0, 1, 2, 3, 4] rfl rfl rfl rfl (fun r_78 uz hw => ?_)
          rcases hw with hw | hw | hw
          · refine an2 hw ?_
            clear hw
            intro he_80 he_81 hw
            have h_79 := hw
            clear hw
            have he_80 := he_80.symm
            subst he_80
            subst he_81
            exact absurd h_79 (by decide)
          · refine an2 hw ?_
            clear hw
            intro he_83 he_84 hw
            have h_82 := hw
            clear hw
            have he_83 := he_83.symm
            subst he_83
            subst he_84
            refine ww_eq (ws' := [(qj, .inr (2, [.ref jt, .ref je, .ref ju, .ref ja])), (ju, .inl (E.2.1 1, 32, .inl f1)), (a, .inl (E.2.1 1, 24, .inl f)), (b, .inl (E.2.1 1, 96, .inl gg)), (h, .inr (4, [.int (nI n), .int (nI r), .ref a, .ref b]))]) ?_ rfl rfl rfl
            refine ww_isub (v := (-1)) C dX2_plain_48 (by decide) ?_
            refine ww_iadd (v := (nI (tt - 1))) C dX2_plain_49 (nI_subc (a := tt) (c := 1) (by omega) rfl) ?_
            refine ww_istore (lv' := [(4, .int (nI (tt - 1))), (7, .int x_77), (6, .int 4), (5, .int (nI j_7)), (3, .int r_1), (0, .ref qj), (1, .ref h), (2, .ref sa)]) C dX2_plain_50 rfl rfl ?_
            refine ww_iload C dX2_plain_52 0 rfl ?_
            refine ww_iconst (v := 1) C dX2_plain_54 rfl ?_
            refine ww_isub (v := (nI ((tt - 1) - 1))) C dX2_plain_55 (pk_sub (a := (tt - 1)) (b := 1) (by omega)) ?_
            refine ww_istore (lv' := [(8, .int (nI ((tt - 1) - 1))), (4, .int (nI (tt - 1))), (7, .int x_77), (6, .int 4), (5, .int (nI j_7)), (3, .int r_1), (0, .ref qj), (1, .ref h), (2, .ref sa)]) C dX2_plain_56 rfl rfl ?_
            refine ww_aload_n C dX2_plain_58 6 rfl rfl ?_
            refine ww_get C fg_X2_23 0 rfl rfl dX2_plain_59 ?_
            refine ww_iload C dX2_plain_62 0 rfl ?_
            obtain ⟨x_88, ex_88⟩ : ∃ z : Int32, f1 ((tt - 1) - 1) = z := ⟨_, rfl⟩
            refine ww_iald (v := x_88) C 1 rfl (vp_in_nI (by omega) (by omega)) (ldn (by omega) ex_88) dX2_plain_64 ?_
            refine ww_istore (lv' := [(9, .int x_88), (8, .int (nI ((tt - 1) - 1))), (4, .int (nI (tt - 1))), (7, .int x_77), (6, .int 4), (5, .int (nI j_7)), (3, .int r_1), (0, .ref qj), (1, .ref h), (2, .ref sa)]) C dX2_plain_65 rfl rfl ?_
            refine ww_iload_n C dX2_plain_67 6 rfl rfl ?_
            refine ww_iload C dX2_plain_68 0 rfl ?_
            refine ww_iconst (v := (-1)) C dX2_plain_70 rfl ?_
            obtain ⟨x_89, ex_89⟩ : ∃ z : Int32, x_88 ^^^ ((-1) : Int32) = z := ⟨_, rfl⟩
            refine ww_ixor (v := x_89) C dX2_plain_71 ex_89 ?_
            obtain ⟨x_90, ex_90⟩ : ∃ z : Int32, r_1 &&& x_89 = z := ⟨_, rfl⟩
            refine ww_iand (v := x_90) C dX2_plain_72 ex_90 ?_
            refine ww_istore (lv' := [(10, .int x_90), (9, .int x_88), (8, .int (nI ((tt - 1) - 1))), (4, .int (nI (tt - 1))), (7, .int x_77), (6, .int 4), (5, .int (nI j_7)), (3, .int r_1), (0, .ref qj), (1, .ref h), (2, .ref sa)]) C dX2_plain_73 rfl rfl ?_
            refine ww_iload C dX2_plain_75 5 rfl ?_
            refine ww_tableIn (tgt := 183) C dX2_plain_77 (by decide) (by decide) rfl (by decide) ?_
            refine ww_aload_n C dX2_plain_183 8 rfl rfl ?_
            refine ww_get C fg_X2_23 0 rfl rfl dX2_plain_184 ?_
            refine ww_iload C dX2_plain_187 2 rfl ?_
            refine ww_iload C dX2_plain_189 1 rfl ?_
            refine ww_aload_n C dX2_plain_191 8 rfl rfl ?_
            refine ww_get C fg_X2_23 0 rfl rfl dX2_plain_192 ?_
            refine ww_iload C dX2_plain_195 3 rfl ?_
            obtain ⟨x_91, ex_91⟩ : ∃ z : Int32, f1 (tt - 1) = z := ⟨_, rfl⟩
            refine ww_iald (v := x_91) C 1 rfl (vp_in_nI (by omega) (by omega)) (ldn (by omega) ex_91) dX2_plain_197 ?_
            obtain ⟨x_92, ex_92⟩ : ∃ z : Int32, x_88 ||| x_91 = z := ⟨_, rfl⟩
            refine ww_ior (v := x_92) C dX2_plain_198 ex_92 ?_
            obtain ⟨f_93, ef_93⟩ : ∃ z : Nat → Int32, upd f1 ((tt - 1) - 1) x_92 = z := ⟨_, rfl⟩
            refine ww_iast (ws' := [(qj, .inr (2, [.ref jt, .ref je, .ref ju, .ref ja])), (ju, .inl (E.2.1 1, 32, .inl f_93)), (a, .inl (E.2.1 1, 24, .inl f)), (b, .inl (E.2.1 1, 96, .inl gg)), (h, .inr (4, [.int (nI n), .int (nI r), .ref a, .ref b]))]) C 1 rfl (vp_in_nI (by omega) (by omega)) (ldn2 (by omega) ef_93) rfl dX2_plain_199 ?_
            refine ww_goto (tgt := 298) C dX2_plain_200 (by decide) ?_
            obtain ⟨x_94, ex_94⟩ : ∃ z : Int32, (nI j_7) + Int32.ofInt (-1) = z := ⟨_, rfl⟩
            have zx_94 : x_94.toInt = ((j_7 : Nat) : Int) - 1 := by rw [← ex_94]; exact i_dec (c := 1) (nI_toInt (n := j_7) (by omega)) rfl (by omega) (by omega)
            refine ww_iinc (j := 6) (v := x_94) (lv' := [(5, .int x_94), (10, .int x_90), (9, .int x_88), (8, .int (nI ((tt - 1) - 1))), (4, .int (nI (tt - 1))), (7, .int x_77), (6, .int 4), (3, .int r_1), (0, .ref qj), (1, .ref h), (2, .ref sa)]) C dX2_plain_298 rfl ex_94 rfl rfl ?_
            refine ww_goto (tgt := 17) C dX2_plain_301 (by decide) ?_
            exact ww_lv [0, 4, 7, 8, 9, 10] rfl (ww_sub [0, 1, 2, 3, 4] rfl rfl (ih_17 x_94 j_7 (tt - 1) f_93 (by omega) (by omega) (by omega) (by omega)))
          · refine an2 hw ?_
            clear hw
            intro he_86 he_87 hw
            have h_85 := hw
            clear hw
            have he_86 := he_86.symm
            subst he_86
            subst he_87
            exact absurd h_85 (by decide)
        · rw [ex_8, uN_5] at hoj_7
          refine ww_aload_n C dX2_plain_31 6 rfl rfl ?_
          refine ww_getR C hro fg_X2_77 i0 h0 rfl dX2_plain_32 ?_
          refine ww_iload C dX2_plain_35 1 rfl ?_
          obtain ⟨x_95, ex_95⟩ : ∃ z : Int32, sr j_7 = z := ⟨_, rfl⟩
          refine ww_ialdR (v := x_95) C hro i2 h2 (vp_in_nI (by omega) (by omega)) (ldn (by omega) ex_95) dX2_plain_37 ?_
          refine ww_istore (lv' := [(7, .int x_95), (6, .int 5), (5, .int (nI j_7)), (4, .int (nI tt)), (3, .int r_1), (0, .ref qj), (1, .ref h), (2, .ref sa)]) C dX2_plain_38 rfl rfl ?_
          refine ww_iload C dX2_plain_40 3 rfl ?_
          refine ww_iconst (v := 1) C dX2_plain_42 rfl ?_
          refine ww_iload C dX2_plain_43 1 rfl ?_
          refine ww_ci (wr := [(qj, .inr (2, [.ref jt, .ref je, .ref ju, .ref ja])), (ju, .inl (E.2.1 1, 32, .inl f1)), (a, .inl (E.2.1 1, 24, .inl f)), (b, .inl (E.2.1 1, 96, .inl gg)), (h, .inr (4, [.int (nI n), .int (nI r), .ref a, .ref b]))]) (k' := 0) (n' := 0) C (run_SN (As := [.int 5]) (rest := [.int 1, .int (nI tt)]) C (c_under X.2.1 E ro 5) ms_X11_under (List.mem_of_getElem? (i := 15) rfl) rfl rfl rfl rfl dX2_plain_45) (roK hro) [] [0, 1, 2, 3, 4] rfl rfl rfl rfl (fun r_96 uz hw => ?_)
          rcases hw with hw | hw | hw
          · refine an2 hw ?_
            clear hw
            intro he_98 he_99 hw
            have h_97 := hw
            clear hw
            have he_98 := he_98.symm
            subst he_98
            subst he_99
            exact absurd h_97 (by decide)
          · refine an2 hw ?_
            clear hw
            intro he_101 he_102 hw
            have h_100 := hw
            clear hw
            have he_101 := he_101.symm
            subst he_101
            subst he_102
            exact absurd h_100 (by decide)
          · refine an2 hw ?_
            clear hw
            intro he_104 he_105 hw
            have h_103 := hw
            clear hw
            have he_104 := he_104.symm
            subst he_104
            subst he_105
            refine ww_eq (ws' := [(qj, .inr (2, [.ref jt, .ref je, .ref ju, .ref ja])), (ju, .inl (E.2.1 1, 32, .inl f1)), (a, .inl (E.2.1 1, 24, .inl f)), (b, .inl (E.2.1 1, 96, .inl gg)), (h, .inr (4, [.int (nI n), .int (nI r), .ref a, .ref b]))]) ?_ rfl rfl rfl
            refine ww_isub (v := 0) C dX2_plain_48 (by decide) ?_
            refine ww_iadd (v := (nI tt)) C dX2_plain_49 (nI_add tt 0) ?_
            refine ww_istore (lv' := [(4, .int (nI tt)), (7, .int x_95), (6, .int 5), (5, .int (nI j_7)), (3, .int r_1), (0, .ref qj), (1, .ref h), (2, .ref sa)]) C dX2_plain_50 rfl rfl ?_
            refine ww_iload C dX2_plain_52 0 rfl ?_
            refine ww_iconst (v := 1) C dX2_plain_54 rfl ?_
            refine ww_isub (v := (nI (tt - 1))) C dX2_plain_55 (pk_sub (a := tt) (b := 1) (by omega)) ?_
            refine ww_istore (lv' := [(8, .int (nI (tt - 1))), (4, .int (nI tt)), (7, .int x_95), (6, .int 5), (5, .int (nI j_7)), (3, .int r_1), (0, .ref qj), (1, .ref h), (2, .ref sa)]) C dX2_plain_56 rfl rfl ?_
            refine ww_aload_n C dX2_plain_58 6 rfl rfl ?_
            refine ww_get C fg_X2_23 0 rfl rfl dX2_plain_59 ?_
            refine ww_iload C dX2_plain_62 0 rfl ?_
            obtain ⟨x_106, ex_106⟩ : ∃ z : Int32, f1 (tt - 1) = z := ⟨_, rfl⟩
            refine ww_iald (v := x_106) C 1 rfl (vp_in_nI (by omega) (by omega)) (ldn (by omega) ex_106) dX2_plain_64 ?_
            refine ww_istore (lv' := [(9, .int x_106), (8, .int (nI (tt - 1))), (4, .int (nI tt)), (7, .int x_95), (6, .int 5), (5, .int (nI j_7)), (3, .int r_1), (0, .ref qj), (1, .ref h), (2, .ref sa)]) C dX2_plain_65 rfl rfl ?_
            refine ww_iload_n C dX2_plain_67 6 rfl rfl ?_
            refine ww_iload C dX2_plain_68 0 rfl ?_
            refine ww_iconst (v := (-1)) C dX2_plain_70 rfl ?_
            obtain ⟨x_107, ex_107⟩ : ∃ z : Int32, x_106 ^^^ ((-1) : Int32) = z := ⟨_, rfl⟩
            refine ww_ixor (v := x_107) C dX2_plain_71 ex_107 ?_
            obtain ⟨x_108, ex_108⟩ : ∃ z : Int32, r_1 &&& x_107 = z := ⟨_, rfl⟩
            refine ww_iand (v := x_108) C dX2_plain_72 ex_108 ?_
            refine ww_istore (lv' := [(10, .int x_108), (9, .int x_106), (8, .int (nI (tt - 1))), (4, .int (nI tt)), (7, .int x_95), (6, .int 5), (5, .int (nI j_7)), (3, .int r_1), (0, .ref qj), (1, .ref h), (2, .ref sa)]) C dX2_plain_73 rfl rfl ?_
            refine ww_iload C dX2_plain_75 5 rfl ?_
            refine ww_tableIn (tgt := 203) C dX2_plain_77 (by decide) (by decide) rfl (by decide) ?_
            refine ww_aload_n C dX2_plain_203 8 rfl rfl ?_
            refine ww_get C fg_X2_23 0 rfl rfl dX2_plain_204 ?_
            refine ww_iload C dX2_plain_207 2 rfl ?_
            refine ww_iload_n C dX2_plain_209 7 rfl rfl ?_
            refine ww_aload_n C dX2_plain_210 9 rfl rfl ?_
            refine ww_iload C dX2_plain_211 4 rfl ?_
            refine ww_iload C dX2_plain_213 1 rfl ?_
            refine ww_iconst (v := 1) C dX2_plain_215 rfl ?_
            refine ww_ci (wr := [(qj, .inr (2, [.ref jt, .ref je, .ref ju, .ref ja])), (ju, .inl (E.2.1 1, 32, .inl f1))]) (k' := 0) (n' := 0) C (run_V (As := [.int x_95, .int x_106, .int 1]) (rest := [.int r_1, .int (nI (tt - 1)), .ref ju]) C (m_leadingTo X.2.1 E ro h x_95 x_106 1 n r a b f gg (by omega) (by omega) (by omega)) mi_X4_leadingTo wl_X2_87 rfl 0 4 rfl rfl rfl rfl rfl dX2_plain_216) (roK hro) [4, 2, 3] [0, 1] rfl rfl rfl rfl (fun r_109 uz hw => ?_)
            have he_110 := hw
            clear hw
            subst he_110
            refine ww_eq (ws' := [(qj, .inr (2, [.ref jt, .ref je, .ref ju, .ref ja])), (ju, .inl (E.2.1 1, 32, .inl f1)), (h, .inr (4, [.int (nI n), .int (nI r), .ref a, .ref b])), (a, .inl (E.2.1 1, 24, .inl f)), (b, .inl (E.2.1 1, 96, .inl gg))]) ?_ rfl rfl rfl
            refine ww_aload_n C dX2_plain_219 9 rfl rfl ?_
            refine ww_iload C dX2_plain_220 4 rfl ?_
            refine ww_iload C dX2_plain_222 0 rfl ?_
            refine ww_iconst (v := 1) C dX2_plain_224 rfl ?_
            refine ww_ci (wr := [(qj, .inr (2, [.ref jt, .ref je, .ref ju, .ref ja])), (ju, .inl (E.2.1 1, 32, .inl f1))]) (k' := 0) (n' := 0) C (run_V (As := [.int x_95, .int x_108, .int 1]) (rest := [.int r_109, .int r_1, .int (nI (tt - 1)), .ref ju]) C (m_leadingTo X.2.1 E ro h x_95 x_108 1 n r a b f gg (by omega) (by omega) (by omega)) mi_X4_leadingTo wl_X2_87 rfl 0 4 rfl rfl rfl rfl rfl dX2_plain_225) (roK hro) [2, 3, 4] [0, 1] rfl rfl rfl rfl (fun r_111 uz hw => ?_)
            have he_112 := hw
            clear hw
            subst he_112
            refine ww_eq (ws' := [(qj, .inr (2, [.ref jt, .ref je, .ref ju, .ref ja])), (ju, .inl (E.2.1 1, 32, .inl f1)), (h, .inr (4, [.int (nI n), .int (nI r), .ref a, .ref b])), (a, .inl (E.2.1 1, 24, .inl f)), (b, .inl (E.2.1 1, 96, .inl gg))]) ?_ rfl rfl rfl
            obtain ⟨x_113, ex_113⟩ : ∃ z : Int32, r_109 &&& r_111 = z := ⟨_, rfl⟩
            refine ww_iand (v := x_113) C dX2_plain_228 ex_113 ?_
            refine ww_iconst (v := (-1)) C dX2_plain_229 rfl ?_
            obtain ⟨x_114, ex_114⟩ : ∃ z : Int32, x_113 ^^^ ((-1) : Int32) = z := ⟨_, rfl⟩
            refine ww_ixor (v := x_114) C dX2_plain_230 ex_114 ?_
            obtain ⟨x_115, ex_115⟩ : ∃ z : Int32, r_1 &&& x_114 = z := ⟨_, rfl⟩
            refine ww_iand (v := x_115) C dX2_plain_231 ex_115 ?_
            obtain ⟨f_116, ef_116⟩ : ∃ z : Nat → Int32, upd f1 (tt - 1) x_115 = z := ⟨_, rfl⟩
            refine ww_iast (ws' := [(qj, .inr (2, [.ref jt, .ref je, .ref ju, .ref ja])), (ju, .inl (E.2.1 1, 32, .inl f_116)), (h, .inr (4, [.int (nI n), .int (nI r), .ref a, .ref b])), (a, .inl (E.2.1 1, 24, .inl f)), (b, .inl (E.2.1 1, 96, .inl gg))]) C 1 rfl (vp_in_nI (by omega) (by omega)) (ldn2 (by omega) ef_116) rfl dX2_plain_232 ?_
            refine ww_goto (tgt := 298) C dX2_plain_233 (by decide) ?_
            obtain ⟨x_117, ex_117⟩ : ∃ z : Int32, (nI j_7) + Int32.ofInt (-1) = z := ⟨_, rfl⟩
            have zx_117 : x_117.toInt = ((j_7 : Nat) : Int) - 1 := by rw [← ex_117]; exact i_dec (c := 1) (nI_toInt (n := j_7) (by omega)) rfl (by omega) (by omega)
            refine ww_iinc (j := 6) (v := x_117) (lv' := [(5, .int x_117), (10, .int x_108), (9, .int x_106), (8, .int (nI (tt - 1))), (4, .int (nI tt)), (7, .int x_95), (6, .int 5), (3, .int r_1), (0, .ref qj), (1, .ref h), (2, .ref sa)]) C dX2_plain_298 rfl ex_117 rfl rfl ?_
            refine ww_goto (tgt := 17) C dX2_plain_301 (by decide) ?_
            exact ww_lv [0, 4, 7, 8, 9, 10] rfl (ww_sub [0, 1, 3, 4, 2] rfl rfl (ih_17 x_117 j_7 tt f_116 (by omega) (by omega) (by omega) (by omega)))
        · rw [ex_8, uN_6] at hoj_7
          refine ww_aload_n C dX2_plain_31 6 rfl rfl ?_
          refine ww_getR C hro fg_X2_77 i0 h0 rfl dX2_plain_32 ?_
          refine ww_iload C dX2_plain_35 1 rfl ?_
          obtain ⟨x_118, ex_118⟩ : ∃ z : Int32, sr j_7 = z := ⟨_, rfl⟩
          refine ww_ialdR (v := x_118) C hro i2 h2 (vp_in_nI (by omega) (by omega)) (ldn (by omega) ex_118) dX2_plain_37 ?_
          refine ww_istore (lv' := [(7, .int x_118), (6, .int 6), (5, .int (nI j_7)), (4, .int (nI tt)), (3, .int r_1), (0, .ref qj), (1, .ref h), (2, .ref sa)]) C dX2_plain_38 rfl rfl ?_
          refine ww_iload C dX2_plain_40 3 rfl ?_
          refine ww_iconst (v := 1) C dX2_plain_42 rfl ?_
          refine ww_iload C dX2_plain_43 1 rfl ?_
          refine ww_ci (wr := [(qj, .inr (2, [.ref jt, .ref je, .ref ju, .ref ja])), (ju, .inl (E.2.1 1, 32, .inl f1)), (a, .inl (E.2.1 1, 24, .inl f)), (b, .inl (E.2.1 1, 96, .inl gg)), (h, .inr (4, [.int (nI n), .int (nI r), .ref a, .ref b]))]) (k' := 0) (n' := 0) C (run_SN (As := [.int 6]) (rest := [.int 1, .int (nI tt)]) C (c_under X.2.1 E ro 6) ms_X11_under (List.mem_of_getElem? (i := 15) rfl) rfl rfl rfl rfl dX2_plain_45) (roK hro) [] [0, 1, 2, 3, 4] rfl rfl rfl rfl (fun r_119 uz hw => ?_)
          rcases hw with hw | hw | hw
          · refine an2 hw ?_
            clear hw
            intro he_121 he_122 hw
            have h_120 := hw
            clear hw
            have he_121 := he_121.symm
            subst he_121
            subst he_122
            exact absurd h_120 (by decide)
          · refine an2 hw ?_
            clear hw
            intro he_124 he_125 hw
            have h_123 := hw
            clear hw
            have he_124 := he_124.symm
            subst he_124
            subst he_125
            exact absurd h_123 (by decide)
          · refine an2 hw ?_
            clear hw
            intro he_127 he_128 hw
            have h_126 := hw
            clear hw
            have he_127 := he_127.symm
            subst he_127
            subst he_128
            refine ww_eq (ws' := [(qj, .inr (2, [.ref jt, .ref je, .ref ju, .ref ja])), (ju, .inl (E.2.1 1, 32, .inl f1)), (a, .inl (E.2.1 1, 24, .inl f)), (b, .inl (E.2.1 1, 96, .inl gg)), (h, .inr (4, [.int (nI n), .int (nI r), .ref a, .ref b]))]) ?_ rfl rfl rfl
            refine ww_isub (v := 0) C dX2_plain_48 (by decide) ?_
            refine ww_iadd (v := (nI tt)) C dX2_plain_49 (nI_add tt 0) ?_
            refine ww_istore (lv' := [(4, .int (nI tt)), (7, .int x_118), (6, .int 6), (5, .int (nI j_7)), (3, .int r_1), (0, .ref qj), (1, .ref h), (2, .ref sa)]) C dX2_plain_50 rfl rfl ?_
            refine ww_iload C dX2_plain_52 0 rfl ?_
            refine ww_iconst (v := 1) C dX2_plain_54 rfl ?_
            refine ww_isub (v := (nI (tt - 1))) C dX2_plain_55 (pk_sub (a := tt) (b := 1) (by omega)) ?_
            refine ww_istore (lv' := [(8, .int (nI (tt - 1))), (4, .int (nI tt)), (7, .int x_118), (6, .int 6), (5, .int (nI j_7)), (3, .int r_1), (0, .ref qj), (1, .ref h), (2, .ref sa)]) C dX2_plain_56 rfl rfl ?_
            refine ww_aload_n C dX2_plain_58 6 rfl rfl ?_
            refine ww_get C fg_X2_23 0 rfl rfl dX2_plain_59 ?_
            refine ww_iload C dX2_plain_62 0 rfl ?_
            obtain ⟨x_129, ex_129⟩ : ∃ z : Int32, f1 (tt - 1) = z := ⟨_, rfl⟩
            refine ww_iald (v := x_129) C 1 rfl (vp_in_nI (by omega) (by omega)) (ldn (by omega) ex_129) dX2_plain_64 ?_
            refine ww_istore (lv' := [(9, .int x_129), (8, .int (nI (tt - 1))), (4, .int (nI tt)), (7, .int x_118), (6, .int 6), (5, .int (nI j_7)), (3, .int r_1), (0, .ref qj), (1, .ref h), (2, .ref sa)]) C dX2_plain_65 rfl rfl ?_
            refine ww_iload_n C dX2_plain_67 6 rfl rfl ?_
            refine ww_iload C dX2_plain_68 0 rfl ?_
            refine ww_iconst (v := (-1)) C dX2_plain_70 rfl ?_
            obtain ⟨x_130, ex_130⟩ : ∃ z : Int32, x_129 ^^^ ((-1) : Int32) = z := ⟨_, rfl⟩
            refine ww_ixor (v := x_130) C dX2_plain_71 ex_130 ?_
            obtain ⟨x_131, ex_131⟩ : ∃ z : Int32, r_1 &&& x_130 = z := ⟨_, rfl⟩
            refine ww_iand (v := x_131) C dX2_plain_72 ex_131 ?_
            refine ww_istore (lv' := [(10, .int x_131), (9, .int x_129), (8, .int (nI (tt - 1))), (4, .int (nI tt)), (7, .int x_118), (6, .int 6), (5, .int (nI j_7)), (3, .int r_1), (0, .ref qj), (1, .ref h), (2, .ref sa)]) C dX2_plain_73 rfl rfl ?_
            refine ww_iload C dX2_plain_75 5 rfl ?_
            refine ww_tableIn (tgt := 236) C dX2_plain_77 (by decide) (by decide) rfl (by decide) ?_
            refine ww_aload_n C dX2_plain_236 8 rfl rfl ?_
            refine ww_get C fg_X2_23 0 rfl rfl dX2_plain_237 ?_
            refine ww_iload C dX2_plain_240 2 rfl ?_
            refine ww_iload_n C dX2_plain_242 7 rfl rfl ?_
            refine ww_aload_n C dX2_plain_243 9 rfl rfl ?_
            refine ww_iload C dX2_plain_244 4 rfl ?_
            refine ww_iload C dX2_plain_246 0 rfl ?_
            refine ww_iconst (v := 1) C dX2_plain_248 rfl ?_
            refine ww_ci (wr := [(qj, .inr (2, [.ref jt, .ref je, .ref ju, .ref ja])), (ju, .inl (E.2.1 1, 32, .inl f1))]) (k' := 0) (n' := 0) C (run_V (As := [.int x_118, .int x_131, .int 1]) (rest := [.int r_1, .int (nI (tt - 1)), .ref ju]) C (m_leadingTo X.2.1 E ro h x_118 x_131 1 n r a b f gg (by omega) (by omega) (by omega)) mi_X4_leadingTo wl_X2_87 rfl 0 4 rfl rfl rfl rfl rfl dX2_plain_249) (roK hro) [4, 2, 3] [0, 1] rfl rfl rfl rfl (fun r_132 uz hw => ?_)
            have he_133 := hw
            clear hw
            subst he_133
            refine ww_eq (ws' := [(qj, .inr (2, [.ref jt, .ref je, .ref ju, .ref ja])), (ju, .inl (E.2.1 1, 32, .inl f1)), (h, .inr (4, [.int (nI n), .int (nI r), .ref a, .ref b])), (a, .inl (E.2.1 1, 24, .inl f)), (b, .inl (E.2.1 1, 96, .inl gg))]) ?_ rfl rfl rfl
            refine ww_iconst (v := (-1)) C dX2_plain_252 rfl ?_
            obtain ⟨x_134, ex_134⟩ : ∃ z : Int32, r_132 ^^^ ((-1) : Int32) = z := ⟨_, rfl⟩
            refine ww_ixor (v := x_134) C dX2_plain_253 ex_134 ?_
            obtain ⟨x_135, ex_135⟩ : ∃ z : Int32, r_1 &&& x_134 = z := ⟨_, rfl⟩
            refine ww_iand (v := x_135) C dX2_plain_254 ex_135 ?_
            obtain ⟨f_136, ef_136⟩ : ∃ z : Nat → Int32, upd f1 (tt - 1) x_135 = z := ⟨_, rfl⟩
            refine ww_iast (ws' := [(qj, .inr (2, [.ref jt, .ref je, .ref ju, .ref ja])), (ju, .inl (E.2.1 1, 32, .inl f_136)), (h, .inr (4, [.int (nI n), .int (nI r), .ref a, .ref b])), (a, .inl (E.2.1 1, 24, .inl f)), (b, .inl (E.2.1 1, 96, .inl gg))]) C 1 rfl (vp_in_nI (by omega) (by omega)) (ldn2 (by omega) ef_136) rfl dX2_plain_255 ?_
            refine ww_goto (tgt := 298) C dX2_plain_256 (by decide) ?_
            obtain ⟨x_137, ex_137⟩ : ∃ z : Int32, (nI j_7) + Int32.ofInt (-1) = z := ⟨_, rfl⟩
            have zx_137 : x_137.toInt = ((j_7 : Nat) : Int) - 1 := by rw [← ex_137]; exact i_dec (c := 1) (nI_toInt (n := j_7) (by omega)) rfl (by omega) (by omega)
            refine ww_iinc (j := 6) (v := x_137) (lv' := [(5, .int x_137), (10, .int x_131), (9, .int x_129), (8, .int (nI (tt - 1))), (4, .int (nI tt)), (7, .int x_118), (6, .int 6), (3, .int r_1), (0, .ref qj), (1, .ref h), (2, .ref sa)]) C dX2_plain_298 rfl ex_137 rfl rfl ?_
            refine ww_goto (tgt := 17) C dX2_plain_301 (by decide) ?_
            exact ww_lv [0, 4, 7, 8, 9, 10] rfl (ww_sub [0, 1, 3, 4, 2] rfl rfl (ih_17 x_137 j_7 tt f_136 (by omega) (by omega) (by omega) (by omega)))
        · rw [ex_8, uN_7] at hoj_7
          refine ww_aload_n C dX2_plain_31 6 rfl rfl ?_
          refine ww_getR C hro fg_X2_77 i0 h0 rfl dX2_plain_32 ?_
          refine ww_iload C dX2_plain_35 1 rfl ?_
          obtain ⟨x_138, ex_138⟩ : ∃ z : Int32, sr j_7 = z := ⟨_, rfl⟩
          refine ww_ialdR (v := x_138) C hro i2 h2 (vp_in_nI (by omega) (by omega)) (ldn (by omega) ex_138) dX2_plain_37 ?_
          refine ww_istore (lv' := [(7, .int x_138), (6, .int 7), (5, .int (nI j_7)), (4, .int (nI tt)), (3, .int r_1), (0, .ref qj), (1, .ref h), (2, .ref sa)]) C dX2_plain_38 rfl rfl ?_
          refine ww_iload C dX2_plain_40 3 rfl ?_
          refine ww_iconst (v := 1) C dX2_plain_42 rfl ?_
          refine ww_iload C dX2_plain_43 1 rfl ?_
          refine ww_ci (wr := [(qj, .inr (2, [.ref jt, .ref je, .ref ju, .ref ja])), (ju, .inl (E.2.1 1, 32, .inl f1)), (a, .inl (E.2.1 1, 24, .inl f)), (b, .inl (E.2.1 1, 96, .inl gg)), (h, .inr (4, [.int (nI n), .int (nI r), .ref a, .ref b]))]) (k' := 0) (n' := 0) C (run_SN (As := [.int 7]) (rest := [.int 1, .int (nI tt)]) C (c_under X.2.1 E ro 7) ms_X11_under (List.mem_of_getElem? (i := 15) rfl) rfl rfl rfl rfl dX2_plain_45) (roK hro) [] [0, 1, 2, 3, 4] rfl rfl rfl rfl (fun r_139 uz hw => ?_)
          rcases hw with hw | hw | hw
          · refine an2 hw ?_
            clear hw
            intro he_141 he_142 hw
            have h_140 := hw
            clear hw
            have he_141 := he_141.symm
            subst he_141
            subst he_142
            exact absurd h_140 (by decide)
          · refine an2 hw ?_
            clear hw
            intro he_144 he_145 hw
            have h_143 := hw
            clear hw
            have he_144 := he_144.symm
            subst he_144
            subst he_145
            exact absurd h_143 (by decide)
          · refine an2 hw ?_
            clear hw
            intro he_147 he_148 hw
            have h_146 := hw
            clear hw
            have he_147 := he_147.symm
            subst he_147
            subst he_148
            refine ww_eq (ws' := [(qj, .inr (2, [.ref jt, .ref je, .ref ju, .ref ja])), (ju, .inl (E.2.1 1, 32, .inl f1)), (a, .inl (E.2.1 1, 24, .inl f)), (b, .inl (E.2.1 1, 96, .inl gg)), (h, .inr (4, [.int (nI n), .int (nI r), .ref a, .ref b]))]) ?_ rfl rfl rfl
            refine ww_isub (v := 0) C dX2_plain_48 (by decide) ?_
            refine ww_iadd (v := (nI tt)) C dX2_plain_49 (nI_add tt 0) ?_
            refine ww_istore (lv' := [(4, .int (nI tt)), (7, .int x_138), (6, .int 7), (5, .int (nI j_7)), (3, .int r_1), (0, .ref qj), (1, .ref h), (2, .ref sa)]) C dX2_plain_50 rfl rfl ?_
            refine ww_iload C dX2_plain_52 0 rfl ?_
            refine ww_iconst (v := 1) C dX2_plain_54 rfl ?_
            refine ww_isub (v := (nI (tt - 1))) C dX2_plain_55 (pk_sub (a := tt) (b := 1) (by omega)) ?_
            refine ww_istore (lv' := [(8, .int (nI (tt - 1))), (4, .int (nI tt)), (7, .int x_138), (6, .int 7), (5, .int (nI j_7)), (3, .int r_1), (0, .ref qj), (1, .ref h), (2, .ref sa)]) C dX2_plain_56 rfl rfl ?_
            refine ww_aload_n C dX2_plain_58 6 rfl rfl ?_
            refine ww_get C fg_X2_23 0 rfl rfl dX2_plain_59 ?_
            refine ww_iload C dX2_plain_62 0 rfl ?_
            obtain ⟨x_149, ex_149⟩ : ∃ z : Int32, f1 (tt - 1) = z := ⟨_, rfl⟩
            refine ww_iald (v := x_149) C 1 rfl (vp_in_nI (by omega) (by omega)) (ldn (by omega) ex_149) dX2_plain_64 ?_
            refine ww_istore (lv' := [(9, .int x_149), (8, .int (nI (tt - 1))), (4, .int (nI tt)), (7, .int x_138), (6, .int 7), (5, .int (nI j_7)), (3, .int r_1), (0, .ref qj), (1, .ref h), (2, .ref sa)]) C dX2_plain_65 rfl rfl ?_
            refine ww_iload_n C dX2_plain_67 6 rfl rfl ?_
            refine ww_iload C dX2_plain_68 0 rfl ?_
            refine ww_iconst (v := (-1)) C dX2_plain_70 rfl ?_
            obtain ⟨x_150, ex_150⟩ : ∃ z : Int32, x_149 ^^^ ((-1) : Int32) = z := ⟨_, rfl⟩
            refine ww_ixor (v := x_150) C dX2_plain_71 ex_150 ?_
            obtain ⟨x_151, ex_151⟩ : ∃ z : Int32, r_1 &&& x_150 = z := ⟨_, rfl⟩
            refine ww_iand (v := x_151) C dX2_plain_72 ex_151 ?_
            refine ww_istore (lv' := [(10, .int x_151), (9, .int x_149), (8, .int (nI (tt - 1))), (4, .int (nI tt)), (7, .int x_138), (6, .int 7), (5, .int (nI j_7)), (3, .int r_1), (0, .ref qj), (1, .ref h), (2, .ref sa)]) C dX2_plain_73 rfl rfl ?_
            refine ww_iload C dX2_plain_75 5 rfl ?_
            refine ww_tableIn (tgt := 259) C dX2_plain_77 (by decide) (by decide) rfl (by decide) ?_
            refine ww_aload_n C dX2_plain_259 8 rfl rfl ?_
            refine ww_get C fg_X2_23 0 rfl rfl dX2_plain_260 ?_
            refine ww_iload C dX2_plain_263 2 rfl ?_
            refine ww_iload_n C dX2_plain_265 7 rfl rfl ?_
            refine ww_aload_n C dX2_plain_266 9 rfl rfl ?_
            refine ww_iload C dX2_plain_267 4 rfl ?_
            refine ww_iload C dX2_plain_269 0 rfl ?_
            refine ww_bipush (v := 24) C dX2_plain_271 rfl ?_
            refine ww_ci (wr := [(qj, .inr (2, [.ref jt, .ref je, .ref ju, .ref ja])), (ju, .inl (E.2.1 1, 32, .inl f1))]) (k' := 0) (n' := 0) C (run_V (As := [.int x_138, .int x_151, .int 24]) (rest := [.int r_1, .int (nI (tt - 1)), .ref ju]) C (m_leadingTo X.2.1 E ro h x_138 x_151 24 n r a b f gg (by omega) (by omega) (by omega)) mi_X4_leadingTo wl_X2_87 rfl 0 4 rfl rfl rfl rfl rfl dX2_plain_273) (roK hro) [4, 2, 3] [0, 1] rfl rfl rfl rfl (fun r_152 uz hw => ?_)
            have he_153 := hw
            clear hw
            subst he_153
            refine ww_eq (ws' := [(qj, .inr (2, [.ref jt, .ref je, .ref ju, .ref ja])), (ju, .inl (E.2.1 1, 32, .inl f1)), (h, .inr (4, [.int (nI n), .int (nI r), .ref a, .ref b])), (a, .inl (E.2.1 1, 24, .inl f)), (b, .inl (E.2.1 1, 96, .inl gg))]) ?_ rfl rfl rfl
            refine ww_iconst (v := (-1)) C dX2_plain_276 rfl ?_
            obtain ⟨x_154, ex_154⟩ : ∃ z : Int32, r_152 ^^^ ((-1) : Int32) = z := ⟨_, rfl⟩
            refine ww_ixor (v := x_154) C dX2_plain_277 ex_154 ?_
            obtain ⟨x_155, ex_155⟩ : ∃ z : Int32, r_1 &&& x_154 = z := ⟨_, rfl⟩
            refine ww_iand (v := x_155) C dX2_plain_278 ex_155 ?_
            obtain ⟨f_156, ef_156⟩ : ∃ z : Nat → Int32, upd f1 (tt - 1) x_155 = z := ⟨_, rfl⟩
            refine ww_iast (ws' := [(qj, .inr (2, [.ref jt, .ref je, .ref ju, .ref ja])), (ju, .inl (E.2.1 1, 32, .inl f_156)), (h, .inr (4, [.int (nI n), .int (nI r), .ref a, .ref b])), (a, .inl (E.2.1 1, 24, .inl f)), (b, .inl (E.2.1 1, 96, .inl gg))]) C 1 rfl (vp_in_nI (by omega) (by omega)) (ldn2 (by omega) ef_156) rfl dX2_plain_279 ?_
            refine ww_goto (tgt := 298) C dX2_plain_280 (by decide) ?_
            obtain ⟨x_157, ex_157⟩ : ∃ z : Int32, (nI j_7) + Int32.ofInt (-1) = z := ⟨_, rfl⟩
            have zx_157 : x_157.toInt = ((j_7 : Nat) : Int) - 1 := by rw [← ex_157]; exact i_dec (c := 1) (nI_toInt (n := j_7) (by omega)) rfl (by omega) (by omega)
            refine ww_iinc (j := 6) (v := x_157) (lv' := [(5, .int x_157), (10, .int x_151), (9, .int x_149), (8, .int (nI (tt - 1))), (4, .int (nI tt)), (7, .int x_138), (6, .int 7), (3, .int r_1), (0, .ref qj), (1, .ref h), (2, .ref sa)]) C dX2_plain_298 rfl ex_157 rfl rfl ?_
            refine ww_goto (tgt := 17) C dX2_plain_301 (by decide) ?_
            exact ww_lv [0, 4, 7, 8, 9, 10] rfl (ww_sub [0, 1, 3, 4, 2] rfl rfl (ih_17 x_157 j_7 tt f_156 (by omega) (by omega) (by omega) (by omega)))
        · rw [ex_8, uN_8] at hoj_7
          refine ww_aload_n C dX2_plain_31 6 rfl rfl ?_
          refine ww_getR C hro fg_X2_77 i0 h0 rfl dX2_plain_32 ?_
          refine ww_iload C dX2_plain_35 1 rfl ?_
          obtain ⟨x_158, ex_158⟩ : ∃ z : Int32, sr j_7 = z := ⟨_, rfl⟩
          refine ww_ialdR (v := x_158) C hro i2 h2 (vp_in_nI (by omega) (by omega)) (ldn (by omega) ex_158) dX2_plain_37 ?_
          refine ww_istore (lv' := [(7, .int x_158), (6, .int 8), (5, .int (nI j_7)), (4, .int (nI tt)), (3, .int r_1), (0, .ref qj), (1, .ref h), (2, .ref sa)]) C dX2_plain_38 rfl rfl ?_
          refine ww_iload C dX2_plain_40 3 rfl ?_
          refine ww_iconst (v := 1) C dX2_plain_42 rfl ?_
          refine ww_iload C dX2_plain_43 1 rfl ?_
          refine ww_ci (wr := [(qj, .inr (2, [.ref jt, .ref je, .ref ju, .ref ja])), (ju, .inl (E.2.1 1, 32, .inl f1)), (a, .inl (E.2.1 1, 24, .inl f)), (b, .inl (E.2.1 1, 96, .inl gg)), (h, .inr (4, [.int (nI n), .int (nI r), .ref a, .ref b]))]) (k' := 0) (n' := 0) C (run_SN (As := [.int 8]) (rest := [.int 1, .int (nI tt)]) C (c_under X.2.1 E ro 8) ms_X11_under (List.mem_of_getElem? (i := 15) rfl) rfl rfl rfl rfl dX2_plain_45) (roK hro) [] [0, 1, 2, 3, 4] rfl rfl rfl rfl (fun r_159 uz hw => ?_)
          rcases hw with hw | hw | hw
          · refine an2 hw ?_
            clear hw
            intro he_161 he_162 hw
            have h_160 := hw
            clear hw
            have he_161 := he_161.symm
            subst he_161
            subst he_162
            exact absurd h_160 (by decide)
          · refine an2 hw ?_
            clear hw
            intro he_164 he_165 hw
            have h_163 := hw
            clear hw
            have he_164 := he_164.symm
            subst he_164
            subst he_165
            exact absurd h_163 (by decide)
          · refine an2 hw ?_
            clear hw
            intro he_167 he_168 hw
            have h_166 := hw
            clear hw
            have he_167 := he_167.symm
            subst he_167
            subst he_168
            refine ww_eq (ws' := [(qj, .inr (2, [.ref jt, .ref je, .ref ju, .ref ja])), (ju, .inl (E.2.1 1, 32, .inl f1)), (a, .inl (E.2.1 1, 24, .inl f)), (b, .inl (E.2.1 1, 96, .inl gg)), (h, .inr (4, [.int (nI n), .int (nI r), .ref a, .ref b]))]) ?_ rfl rfl rfl
            refine ww_isub (v := 0) C dX2_plain_48 (by decide) ?_
            refine ww_iadd (v := (nI tt)) C dX2_plain_49 (nI_add tt 0) ?_
            refine ww_istore (lv' := [(4, .int (nI tt)), (7, .int x_158), (6, .int 8), (5, .int (nI j_7)), (3, .int r_1), (0, .ref qj), (1, .ref h), (2, .ref sa)]) C dX2_plain_50 rfl rfl ?_
            refine ww_iload C dX2_plain_52 0 rfl ?_
            refine ww_iconst (v := 1) C dX2_plain_54 rfl ?_
            refine ww_isub (v := (nI (tt - 1))) C dX2_plain_55 (pk_sub (a := tt) (b := 1) (by omega)) ?_
            refine ww_istore (lv' := [(8, .int (nI (tt - 1))), (4, .int (nI tt)), (7, .int x_158), (6, .int 8), (5, .int (nI j_7)), (3, .int r_1), (0, .ref qj), (1, .ref h), (2, .ref sa)]) C dX2_plain_56 rfl rfl ?_
            refine ww_aload_n C dX2_plain_58 6 rfl rfl ?_
            refine ww_get C fg_X2_23 0 rfl rfl dX2_plain_59 ?_
            refine ww_iload C dX2_plain_62 0 rfl ?_
            obtain ⟨x_169, ex_169⟩ : ∃ z : Int32, f1 (tt - 1) = z := ⟨_, rfl⟩
            refine ww_iald (v := x_169) C 1 rfl (vp_in_nI (by omega) (by omega)) (ldn (by omega) ex_169) dX2_plain_64 ?_
            refine ww_istore (lv' := [(9, .int x_169), (8, .int (nI (tt - 1))), (4, .int (nI tt)), (7, .int x_158), (6, .int 8), (5, .int (nI j_7)), (3, .int r_1), (0, .ref qj), (1, .ref h), (2, .ref sa)]) C dX2_plain_65 rfl rfl ?_
            refine ww_iload_n C dX2_plain_67 6 rfl rfl ?_
            refine ww_iload C dX2_plain_68 0 rfl ?_
            refine ww_iconst (v := (-1)) C dX2_plain_70 rfl ?_
            obtain ⟨x_170, ex_170⟩ : ∃ z : Int32, x_169 ^^^ ((-1) : Int32) = z := ⟨_, rfl⟩
            refine ww_ixor (v := x_170) C dX2_plain_71 ex_170 ?_
            obtain ⟨x_171, ex_171⟩ : ∃ z : Int32, r_1 &&& x_170 = z := ⟨_, rfl⟩
            refine ww_iand (v := x_171) C dX2_plain_72 ex_171 ?_
            refine ww_istore (lv' := [(10, .int x_171), (9, .int x_169), (8, .int (nI (tt - 1))), (4, .int (nI tt)), (7, .int x_158), (6, .int 8), (5, .int (nI j_7)), (3, .int r_1), (0, .ref qj), (1, .ref h), (2, .ref sa)]) C dX2_plain_73 rfl rfl ?_
            refine ww_iload C dX2_plain_75 5 rfl ?_
            refine ww_tableOut (tgt := 283) C dX2_plain_77 (by decide) (by decide) ?_
            refine ww_aload_n C dX2_plain_283 8 rfl rfl ?_
            refine ww_get C fg_X2_23 0 rfl rfl dX2_plain_284 ?_
            refine ww_iload C dX2_plain_287 2 rfl ?_
            refine ww_aload_n C dX2_plain_289 9 rfl rfl ?_
            refine ww_iload C dX2_plain_290 4 rfl ?_
            refine ww_iload C dX2_plain_292 1 rfl ?_
            refine ww_ci (wr := [(qj, .inr (2, [.ref jt, .ref je, .ref ju, .ref ja])), (ju, .inl (E.2.1 1, 32, .inl f1))]) (k' := 0) (n' := 0) C (run_V (As := [.int x_158, .int x_169]) (rest := [.int (nI (tt - 1)), .ref ju]) C (m_togetherWithin X.2.1 E ro h x_158 x_169 n r a b f gg (by omega) (by omega)) mi_X4_togetherWithin wl_X2_91 rfl 0 4 rfl rfl rfl rfl rfl dX2_plain_294) (roK hro) [4, 2, 3] [0, 1] rfl rfl rfl rfl (fun r_172 uz hw => ?_)
            have he_173 := hw
            clear hw
            subst he_173
            refine ww_eq (ws' := [(qj, .inr (2, [.ref jt, .ref je, .ref ju, .ref ja])), (ju, .inl (E.2.1 1, 32, .inl f1)), (h, .inr (4, [.int (nI n), .int (nI r), .ref a, .ref b])), (a, .inl (E.2.1 1, 24, .inl f)), (b, .inl (E.2.1 1, 96, .inl gg))]) ?_ rfl rfl rfl
            obtain ⟨f_174, ef_174⟩ : ∃ z : Nat → Int32, upd f1 (tt - 1) r_172 = z := ⟨_, rfl⟩
            refine ww_iast (ws' := [(qj, .inr (2, [.ref jt, .ref je, .ref ju, .ref ja])), (ju, .inl (E.2.1 1, 32, .inl f_174)), (h, .inr (4, [.int (nI n), .int (nI r), .ref a, .ref b])), (a, .inl (E.2.1 1, 24, .inl f)), (b, .inl (E.2.1 1, 96, .inl gg))]) C 1 rfl (vp_in_nI (by omega) (by omega)) (ldn2 (by omega) ef_174) rfl dX2_plain_297 ?_
            obtain ⟨x_175, ex_175⟩ : ∃ z : Int32, (nI j_7) + Int32.ofInt (-1) = z := ⟨_, rfl⟩
            have zx_175 : x_175.toInt = ((j_7 : Nat) : Int) - 1 := by rw [← ex_175]; exact i_dec (c := 1) (nI_toInt (n := j_7) (by omega)) rfl (by omega) (by omega)
            refine ww_iinc (j := 6) (v := x_175) (lv' := [(5, .int x_175), (10, .int x_171), (9, .int x_169), (8, .int (nI (tt - 1))), (4, .int (nI tt)), (7, .int x_158), (6, .int 8), (3, .int r_1), (0, .ref qj), (1, .ref h), (2, .ref sa)]) C dX2_plain_298 rfl ex_175 rfl rfl ?_
            refine ww_goto (tgt := 17) C dX2_plain_301 (by decide) ?_
            exact ww_lv [0, 4, 7, 8, 9, 10] rfl (ww_sub [0, 1, 3, 4, 2] rfl rfl (ih_17 x_175 j_7 tt f_174 (by omega) (by omega) (by omega) (by omega)))
  exact ww_lv [0, 1, 2, 3, 4, 5] rfl (ww_sub [0, 1, 2, 3, 4] rfl rfl (loop_17 _ x_4 nn 0 ft (by omega) (by omega) (by have := hwf.2.2.2.2; omega) (Nat.lt_succ_self _)))
