theorem dX2_plain_0 : decode cX2_plain 0 = .ok (.aload_n 1, 1) := by decide +kernel
theorem dX2_plain_1 : decode cX2_plain 1 = .ok (.invokevirtual 61, 3) := by decide +kernel
theorem wl_X2_61 : Cond.methodLink RX2 61 yX4_all ∈ TB := tbm (tq3 (List.mem_of_getElem? (i := 227) (by decide +kernel))) (by decide +kernel)
theorem dX2_plain_4 : decode cX2_plain 4 = .ok (.istore_n 3, 1) := by decide +kernel
theorem dX2_plain_5 : decode cX2_plain 5 = .ok (.iconst 0, 1) := by decide +kernel
theorem dX2_plain_6 : decode cX2_plain 6 = .ok (.istore 4, 2) := by decide +kernel
theorem dX2_plain_8 : decode cX2_plain 8 = .ok (.aload_n 2, 1) := by decide +kernel
theorem dX2_plain_9 : decode cX2_plain 9 = .ok (.getfield 74, 3) := by decide +kernel
theorem uw_X8 : ∀ w ∈ u_ws RX8 TX8 7, w ∈ TB := uw_of [652, 654, 656, 658, 660, 662, 664] (by decide +kernel) (by decide +kernel)
theorem wf_X2_74 : Cond.fieldLink RX2 74 RX8 "ops" "[I" ∈ TB := tbm (tq3 (List.mem_of_getElem? (i := 155) (by decide +kernel))) (by decide +kernel)
theorem fg_X2_74 : FG RX2 74 8 0 := ⟨RX8, TX8, 7, uw_X8, wf_X2_74, rfl, by decide, rfl⟩
theorem dX2_plain_12 : decode cX2_plain 12 = .ok (.arraylength, 1) := by decide +kernel
theorem dX2_plain_13 : decode cX2_plain 13 = .ok (.iconst 1, 1) := by decide +kernel
theorem dX2_plain_14 : decode cX2_plain 14 = .ok (.isub, 1) := by decide +kernel
theorem dX2_plain_15 : decode cX2_plain 15 = .ok (.istore 5, 2) := by decide +kernel
theorem dX2_plain_17 : decode cX2_plain 17 = .ok (.iload 5, 2) := by decide +kernel
theorem dX2_plain_19 : decode cX2_plain 19 = .ok (.ifCond .lt 285, 3) := by decide +kernel
theorem dX2_plain_304 : decode cX2_plain 304 = .ok (.aload_n 0, 1) := by decide +kernel
theorem dX2_plain_305 : decode cX2_plain 305 = .ok (.getfield 23, 3) := by decide +kernel
theorem uw_X2 : ∀ w ∈ u_ws RX2 TX2 4, w ∈ TB := uw_of [220, 222, 224, 226] (by decide +kernel) (by decide +kernel)
theorem wf_X2_23 : Cond.fieldLink RX2 23 RX2 "truths" "[I" ∈ TB := tbm (tq1 (List.mem_of_getElem? (i := 218) (by decide +kernel))) (by decide +kernel)
theorem fg_X2_23 : FG RX2 23 2 2 := ⟨RX2, TX2, 4, uw_X2, wf_X2_23, rfl, by decide, rfl⟩
theorem dX2_plain_308 : decode cX2_plain 308 = .ok (.iconst 0, 1) := by decide +kernel
theorem dX2_plain_309 : decode cX2_plain 309 = .ok (.iaload, 1) := by decide +kernel
theorem dX2_plain_310 : decode cX2_plain 310 = .ok (.ireturn, 1) := by decide +kernel
theorem dX2_plain_22 : decode cX2_plain 22 = .ok (.aload_n 2, 1) := by decide +kernel
theorem dX2_plain_23 : decode cX2_plain 23 = .ok (.getfield 74, 3) := by decide +kernel
theorem dX2_plain_26 : decode cX2_plain 26 = .ok (.iload 5, 2) := by decide +kernel
theorem dX2_plain_28 : decode cX2_plain 28 = .ok (.iaload, 1) := by decide +kernel
theorem dX2_plain_29 : decode cX2_plain 29 = .ok (.istore 6, 2) := by decide +kernel
theorem dX2_plain_31 : decode cX2_plain 31 = .ok (.aload_n 2, 1) := by decide +kernel
theorem dX2_plain_32 : decode cX2_plain 32 = .ok (.getfield 77, 3) := by decide +kernel
theorem wf_X2_77 : Cond.fieldLink RX2 77 RX8 "args" "[I" ∈ TB := tbm (tq3 (List.mem_of_getElem? (i := 158) (by decide +kernel))) (by decide +kernel)
theorem fg_X2_77 : FG RX2 77 8 1 := ⟨RX8, TX8, 7, uw_X8, wf_X2_77, rfl, by decide, rfl⟩
theorem dX2_plain_35 : decode cX2_plain 35 = .ok (.iload 5, 2) := by decide +kernel
theorem dX2_plain_37 : decode cX2_plain 37 = .ok (.iaload, 1) := by decide +kernel
theorem dX2_plain_38 : decode cX2_plain 38 = .ok (.istore 7, 2) := by decide +kernel
theorem dX2_plain_40 : decode cX2_plain 40 = .ok (.iload 4, 2) := by decide +kernel
theorem dX2_plain_42 : decode cX2_plain 42 = .ok (.iconst 1, 1) := by decide +kernel
theorem dX2_plain_43 : decode cX2_plain 43 = .ok (.iload 6, 2) := by decide +kernel
theorem dX2_plain_45 : decode cX2_plain 45 = .ok (.invokestatic 80, 3) := by decide +kernel
theorem wc_X11_under : Cond.code yX11_under cX11_under 1 (some .int) ∈ TB := tbm (tq3 (List.mem_of_getElem? (i := 143) (rfl))) (by decide +kernel)
theorem wt_X11_under : Cond.static yX11_under ∈ TB := tbm (tq3 (List.mem_of_getElem? (i := 142) (by decide +kernel))) (by decide +kernel)
theorem ms_X11_under : MS yX11_under cX11_under 1 (some .int) 1 := ⟨wc_X11_under, wn_X11, ⟨by decide +kernel, by decide +kernel, by decide +kernel⟩, wt_X11_under⟩
theorem dX2_plain_48 : decode cX2_plain 48 = .ok (.isub, 1) := by decide +kernel
theorem dX2_plain_49 : decode cX2_plain 49 = .ok (.iadd, 1) := by decide +kernel
theorem dX2_plain_50 : decode cX2_plain 50 = .ok (.istore 4, 2) := by decide +kernel
theorem dX2_plain_52 : decode cX2_plain 52 = .ok (.iload 4, 2) := by decide +kernel
theorem dX2_plain_54 : decode cX2_plain 54 = .ok (.iconst 1, 1) := by decide +kernel
theorem dX2_plain_55 : decode cX2_plain 55 = .ok (.isub, 1) := by decide +kernel
theorem dX2_plain_56 : decode cX2_plain 56 = .ok (.istore 8, 2) := by decide +kernel
theorem dX2_plain_58 : decode cX2_plain 58 = .ok (.aload_n 0, 1) := by decide +kernel
theorem dX2_plain_59 : decode cX2_plain 59 = .ok (.getfield 23, 3) := by decide +kernel
theorem dX2_plain_62 : decode cX2_plain 62 = .ok (.iload 8, 2) := by decide +kernel
theorem dX2_plain_64 : decode cX2_plain 64 = .ok (.iaload, 1) := by decide +kernel
theorem dX2_plain_65 : decode cX2_plain 65 = .ok (.istore 9, 2) := by decide +kernel
theorem dX2_plain_67 : decode cX2_plain 67 = .ok (.iload_n 3, 1) := by decide +kernel
theorem dX2_plain_68 : decode cX2_plain 68 = .ok (.iload 9, 2) := by decide +kernel
theorem dX2_plain_70 : decode cX2_plain 70 = .ok (.iconst (-1), 1) := by decide +kernel
theorem dX2_plain_71 : decode cX2_plain 71 = .ok (.ixor, 1) := by decide +kernel
theorem dX2_plain_72 : decode cX2_plain 72 = .ok (.iand, 1) := by decide +kernel
theorem dX2_plain_73 : decode cX2_plain 73 = .ok (.istore 10, 2) := by decide +kernel
theorem dX2_plain_75 : decode cX2_plain 75 = .ok (.iload 6, 2) := by decide +kernel
theorem dX2_plain_77 : decode cX2_plain 77 = .ok (.tableswitch 206 0 7 #[47, 63, 74, 86, 106, 126, 159, 182], 47) := by decide +kernel
theorem dX2_plain_124 : decode cX2_plain 124 = .ok (.aload_n 0, 1) := by decide +kernel
theorem dX2_plain_125 : decode cX2_plain 125 = .ok (.getfield 23, 3) := by decide +kernel
theorem dX2_plain_128 : decode cX2_plain 128 = .ok (.iload 8, 2) := by decide +kernel
theorem dX2_plain_130 : decode cX2_plain 130 = .ok (.aload_n 1, 1) := by decide +kernel
theorem dX2_plain_131 : decode cX2_plain 131 = .ok (.iload 7, 2) := by decide +kernel
theorem dX2_plain_133 : decode cX2_plain 133 = .ok (.invokevirtual 84, 3) := by decide +kernel
theorem wl_X2_84 : Cond.methodLink RX2 84 yX4_withFact ∈ TB := tbm (tq3 (List.mem_of_getElem? (i := 229) (by decide +kernel))) (by decide +kernel)
theorem wc_X4_withFact : Cond.code yX4_withFact cX4_withFact 4 (some .int) ∈ TB := tbm (tq3 (List.mem_of_getElem? (i := 232) (rfl))) (by decide +kernel)
theorem wi_X4_withFact : Cond.instanceMethod yX4_withFact ∈ TB := tbm (tq3 (List.mem_of_getElem? (i := 230) (by decide +kernel))) (by decide +kernel)
theorem ws_X4_withFact : Cond.selects RX4 yX4_withFact yX4_withFact ∈ TB := tbm (tq3 (List.mem_of_getElem? (i := 231) (by decide +kernel))) (by decide +kernel)
theorem mi_X4_withFact : MI yX4_withFact cX4_withFact 4 (some .int) 1 := ⟨wc_X4_withFact, wn_X4, ⟨by decide +kernel, by decide +kernel, by decide +kernel⟩, wi_X4_withFact, ws_X4_withFact⟩
theorem dX2_plain_136 : decode cX2_plain 136 = .ok (.iastore, 1) := by decide +kernel
theorem dX2_plain_137 : decode cX2_plain 137 = .ok (.goto 161, 3) := by decide +kernel
theorem dX2_plain_298 : decode cX2_plain 298 = .ok (.iinc 5 (-1), 3) := by decide +kernel
theorem dX2_plain_301 : decode cX2_plain 301 = .ok (.goto (-284), 3) := by decide +kernel
theorem dX2_plain_140 : decode cX2_plain 140 = .ok (.aload_n 0, 1) := by decide +kernel
theorem dX2_plain_141 : decode cX2_plain 141 = .ok (.getfield 23, 3) := by decide +kernel
theorem dX2_plain_144 : decode cX2_plain 144 = .ok (.iload 8, 2) := by decide +kernel
theorem dX2_plain_146 : decode cX2_plain 146 = .ok (.iload_n 3, 1) := by decide +kernel
theorem dX2_plain_147 : decode cX2_plain 147 = .ok (.iastore, 1) := by decide +kernel
theorem dX2_plain_148 : decode cX2_plain 148 = .ok (.goto 150, 3) := by decide +kernel
theorem dX2_plain_151 : decode cX2_plain 151 = .ok (.aload_n 0, 1) := by decide +kernel
theorem dX2_plain_152 : decode cX2_plain 152 = .ok (.getfield 23, 3) := by decide +kernel
theorem dX2_plain_155 : decode cX2_plain 155 = .ok (.iload 8, 2) := by decide +kernel
theorem dX2_plain_157 : decode cX2_plain 157 = .ok (.iload 10, 2) := by decide +kernel
theorem dX2_plain_159 : decode cX2_plain 159 = .ok (.iastore, 1) := by decide +kernel
theorem dX2_plain_160 : decode cX2_plain 160 = .ok (.goto 138, 3) := by decide +kernel
theorem dX2_plain_163 : decode cX2_plain 163 = .ok (.aload_n 0, 1) := by decide +kernel
theorem dX2_plain_164 : decode cX2_plain 164 = .ok (.getfield 23, 3) := by decide +kernel
theorem dX2_plain_167 : decode cX2_plain 167 = .ok (.iload 8, 2) := by decide +kernel
theorem dX2_plain_169 : decode cX2_plain 169 = .ok (.iload 9, 2) := by decide +kernel
theorem dX2_plain_171 : decode cX2_plain 171 = .ok (.aload_n 0, 1) := by decide +kernel
theorem dX2_plain_172 : decode cX2_plain 172 = .ok (.getfield 23, 3) := by decide +kernel
theorem dX2_plain_175 : decode cX2_plain 175 = .ok (.iload 4, 2) := by decide +kernel
theorem dX2_plain_177 : decode cX2_plain 177 = .ok (.iaload, 1) := by decide +kernel
theorem dX2_plain_178 : decode cX2_plain 178 = .ok (.iand, 1) := by decide +kernel
theorem dX2_plain_179 : decode cX2_plain 179 = .ok (.iastore, 1) := by decide +kernel
theorem dX2_plain_180 : decode cX2_plain 180 = .ok (.goto 118, 3) := by decide +kernel
theorem dX2_plain_183 : decode cX2_plain 183 = .ok (.aload_n 0, 1) := by decide +kernel
theorem dX2_plain_184 : decode cX2_plain 184 = .ok (.getfield 23, 3) := by decide +kernel
theorem dX2_plain_187 : decode cX2_plain 187 = .ok (.iload 8, 2) := by decide +kernel
theorem dX2_plain_189 : decode cX2_plain 189 = .ok (.iload 9, 2) := by decide +kernel
theorem dX2_plain_191 : decode cX2_plain 191 = .ok (.aload_n 0, 1) := by decide +kernel
theorem dX2_plain_192 : decode cX2_plain 192 = .ok (.getfield 23, 3) := by decide +kernel
theorem dX2_plain_195 : decode cX2_plain 195 = .ok (.iload 4, 2) := by decide +kernel
theorem dX2_plain_197 : decode cX2_plain 197 = .ok (.iaload, 1) := by decide +kernel
theorem dX2_plain_198 : decode cX2_plain 198 = .ok (.ior, 1) := by decide +kernel
theorem dX2_plain_199 : decode cX2_plain 199 = .ok (.iastore, 1) := by decide +kernel
theorem dX2_plain_200 : decode cX2_plain 200 = .ok (.goto 98, 3) := by decide +kernel
theorem dX2_plain_203 : decode cX2_plain 203 = .ok (.aload_n 0, 1) := by decide +kernel
theorem dX2_plain_204 : decode cX2_plain 204 = .ok (.getfield 23, 3) := by decide +kernel
theorem dX2_plain_207 : decode cX2_plain 207 = .ok (.iload 8, 2) := by decide +kernel
theorem dX2_plain_209 : decode cX2_plain 209 = .ok (.iload_n 3, 1) := by decide +kernel
theorem dX2_plain_210 : decode cX2_plain 210 = .ok (.aload_n 1, 1) := by decide +kernel
theorem dX2_plain_211 : decode cX2_plain 211 = .ok (.iload 7, 2) := by decide +kernel
theorem dX2_plain_213 : decode cX2_plain 213 = .ok (.iload 9, 2) := by decide +kernel
theorem dX2_plain_215 : decode cX2_plain 215 = .ok (.iconst 1, 1) := by decide +kernel
theorem dX2_plain_216 : decode cX2_plain 216 = .ok (.invokevirtual 87, 3) := by decide +kernel
theorem wl_X2_87 : Cond.methodLink RX2 87 yX4_leadingTo ∈ TB := tbm (tq3 (List.mem_of_getElem? (i := 233) (by decide +kernel))) (by decide +kernel)
theorem wc_X4_leadingTo : Cond.code yX4_leadingTo cX4_leadingTo 8 (some .int) ∈ TB := tbm (tq3 (List.mem_of_getElem? (i := 236) (rfl))) (by decide +kernel)
theorem wi_X4_leadingTo : Cond.instanceMethod yX4_leadingTo ∈ TB := tbm (tq3 (List.mem_of_getElem? (i := 234) (by decide +kernel))) (by decide +kernel)
theorem ws_X4_leadingTo : Cond.selects RX4 yX4_leadingTo yX4_leadingTo ∈ TB := tbm (tq3 (List.mem_of_getElem? (i := 235) (by decide +kernel))) (by decide +kernel)
theorem mi_X4_leadingTo : MI yX4_leadingTo cX4_leadingTo 8 (some .int) 3 := ⟨wc_X4_leadingTo, wn_X4, ⟨by decide +kernel, by decide +kernel, by decide +kernel⟩, wi_X4_leadingTo, ws_X4_leadingTo⟩
theorem dX2_plain_219 : decode cX2_plain 219 = .ok (.aload_n 1, 1) := by decide +kernel
theorem dX2_plain_220 : decode cX2_plain 220 = .ok (.iload 7, 2) := by decide +kernel
theorem dX2_plain_222 : decode cX2_plain 222 = .ok (.iload 10, 2) := by decide +kernel
theorem dX2_plain_224 : decode cX2_plain 224 = .ok (.iconst 1, 1) := by decide +kernel
theorem dX2_plain_225 : decode cX2_plain 225 = .ok (.invokevirtual 87, 3) := by decide +kernel
theorem dX2_plain_228 : decode cX2_plain 228 = .ok (.iand, 1) := by decide +kernel
theorem dX2_plain_229 : decode cX2_plain 229 = .ok (.iconst (-1), 1) := by decide +kernel
theorem dX2_plain_230 : decode cX2_plain 230 = .ok (.ixor, 1) := by decide +kernel
theorem dX2_plain_231 : decode cX2_plain 231 = .ok (.iand, 1) := by decide +kernel
theorem dX2_plain_232 : decode cX2_plain 232 = .ok (.iastore, 1) := by decide +kernel
theorem dX2_plain_233 : decode cX2_plain 233 = .ok (.goto 65, 3) := by decide +kernel
theorem dX2_plain_236 : decode cX2_plain 236 = .ok (.aload_n 0, 1) := by decide +kernel
theorem dX2_plain_237 : decode cX2_plain 237 = .ok (.getfield 23, 3) := by decide +kernel
theorem dX2_plain_240 : decode cX2_plain 240 = .ok (.iload 8, 2) := by decide +kernel
theorem dX2_plain_242 : decode cX2_plain 242 = .ok (.iload_n 3, 1) := by decide +kernel
theorem dX2_plain_243 : decode cX2_plain 243 = .ok (.aload_n 1, 1) := by decide +kernel
theorem dX2_plain_244 : decode cX2_plain 244 = .ok (.iload 7, 2) := by decide +kernel
theorem dX2_plain_246 : decode cX2_plain 246 = .ok (.iload 10, 2) := by decide +kernel
theorem dX2_plain_248 : decode cX2_plain 248 = .ok (.iconst 1, 1) := by decide +kernel
theorem dX2_plain_249 : decode cX2_plain 249 = .ok (.invokevirtual 87, 3) := by decide +kernel
theorem dX2_plain_252 : decode cX2_plain 252 = .ok (.iconst (-1), 1) := by decide +kernel
theorem dX2_plain_253 : decode cX2_plain 253 = .ok (.ixor, 1) := by decide +kernel
theorem dX2_plain_254 : decode cX2_plain 254 = .ok (.iand, 1) := by decide +kernel
theorem dX2_plain_255 : decode cX2_plain 255 = .ok (.iastore, 1) := by decide +kernel
theorem dX2_plain_256 : decode cX2_plain 256 = .ok (.goto 42, 3) := by decide +kernel
theorem dX2_plain_259 : decode cX2_plain 259 = .ok (.aload_n 0, 1) := by decide +kernel
theorem dX2_plain_260 : decode cX2_plain 260 = .ok (.getfield 23, 3) := by decide +kernel
theorem dX2_plain_263 : decode cX2_plain 263 = .ok (.iload 8, 2) := by decide +kernel
theorem dX2_plain_265 : decode cX2_plain 265 = .ok (.iload_n 3, 1) := by decide +kernel
theorem dX2_plain_266 : decode cX2_plain 266 = .ok (.aload_n 1, 1) := by decide +kernel
theorem dX2_plain_267 : decode cX2_plain 267 = .ok (.iload 7, 2) := by decide +kernel
theorem dX2_plain_269 : decode cX2_plain 269 = .ok (.iload 10, 2) := by decide +kernel
theorem dX2_plain_271 : decode cX2_plain 271 = .ok (.bipush 24, 2) := by decide +kernel
theorem dX2_plain_273 : decode cX2_plain 273 = .ok (.invokevirtual 87, 3) := by decide +kernel
theorem dX2_plain_276 : decode cX2_plain 276 = .ok (.iconst (-1), 1) := by decide +kernel
theorem dX2_plain_277 : decode cX2_plain 277 = .ok (.ixor, 1) := by decide +kernel
theorem dX2_plain_278 : decode cX2_plain 278 = .ok (.iand, 1) := by decide +kernel
theorem dX2_plain_279 : decode cX2_plain 279 = .ok (.iastore, 1) := by decide +kernel
theorem dX2_plain_280 : decode cX2_plain 280 = .ok (.goto 18, 3) := by decide +kernel
theorem dX2_plain_283 : decode cX2_plain 283 = .ok (.aload_n 0, 1) := by decide +kernel
theorem dX2_plain_284 : decode cX2_plain 284 = .ok (.getfield 23, 3) := by decide +kernel
theorem dX2_plain_287 : decode cX2_plain 287 = .ok (.iload 8, 2) := by decide +kernel
theorem dX2_plain_289 : decode cX2_plain 289 = .ok (.aload_n 1, 1) := by decide +kernel
theorem dX2_plain_290 : decode cX2_plain 290 = .ok (.iload 7, 2) := by decide +kernel
theorem dX2_plain_292 : decode cX2_plain 292 = .ok (.iload 9, 2) := by decide +kernel
theorem dX2_plain_294 : decode cX2_plain 294 = .ok (.invokevirtual 91, 3) := by decide +kernel
theorem wl_X2_91 : Cond.methodLink RX2 91 yX4_togetherWithin ∈ TB := tbm (tq3 (List.mem_of_getElem? (i := 237) (by decide +kernel))) (by decide +kernel)
theorem wc_X4_togetherWithin : Cond.code yX4_togetherWithin cX4_togetherWithin 7 (some .int) ∈ TB := tbm (tq4 (List.mem_of_getElem? (i := 0) (rfl))) (by decide +kernel)
theorem wi_X4_togetherWithin : Cond.instanceMethod yX4_togetherWithin ∈ TB := tbm (tq3 (List.mem_of_getElem? (i := 238) (by decide +kernel))) (by decide +kernel)
theorem ws_X4_togetherWithin : Cond.selects RX4 yX4_togetherWithin yX4_togetherWithin ∈ TB := tbm (tq3 (List.mem_of_getElem? (i := 239) (by decide +kernel))) (by decide +kernel)
theorem mi_X4_togetherWithin : MI yX4_togetherWithin cX4_togetherWithin 7 (some .int) 2 := ⟨wc_X4_togetherWithin, wn_X4, ⟨by decide +kernel, by decide +kernel, by decide +kernel⟩, wi_X4_togetherWithin, ws_X4_togetherWithin⟩
theorem dX2_plain_297 : decode cX2_plain 297 = .ok (.iastore, 1) := by decide +kernel
set_option maxRecDepth 100000 in
set_option maxHeartbeats 4000000 in
theorem j_plain (l : Launch) (E : EV) (ro : va_W) (qj : Nat) (h : Nat) (sa : Nat) (jt : Nat) (je : Nat) (ju : Nat) (ja : Nat) (ft : Nat → Int32) (n : Nat) (r : Nat) (a : Nat) (b : Nat) (f : Nat → Int32) (gg : Nat → Int32) (hn : n ≤ 24) (hr : r < n ∨ r = 0) (hsa : SYg E ro sa) : CT l yX2_plain (Cond.code yX2_plain cX2_plain 11 (some .int) :: TB) ({ frames := 2, cells := 0, slots := 0, locals := 51 }) E ro [.ref qj, .ref h, .ref sa] [(qj, .inr (2, [.ref jt, .ref je, .ref ju, .ref ja])), (ju, .inl (E.2.1 1, 32, .inl ft)), (h, .inr (4, [.int (nI n), .int (nI r), .ref a, .ref b])), (a, .inl (E.2.1 1, 24, .inl f)), (b, .inl (E.2.1 1, 96, .inl gg))] (Qi E (fun (rz : Int32) uz => (∃ (ft2 : Nat → Int32), uz = [(qj, .inr (2, [.ref jt, .ref je, .ref ju, .ref ja])), (ju, .inl (E.2.1 1, 32, .inl ft2)), (h, .inr (4, [.int (nI n), .int (nI r), .ref a, .ref b])), (a, .inl (E.2.1 1, 24, .inl f)), (b, .inl (E.2.1 1, 96, .inl gg))]))) 0 0 := by
  refine ct_of rfl rfl ?_
  intro X C hT hin hro
  show WW X 11 E 0 [(0, .ref qj), (1, .ref h), (2, .ref sa)] [] [(qj, .inr (2, [.ref jt, .ref je, .ref ju, .ref ja])), (ju, .inl (E.2.1 1, 32, .inl ft)), (h, .inr (4, [.int (nI n), .int (nI r), .ref a, .ref b])), (a, .inl (E.2.1 1, 24, .inl f)), (b, .inl (E.2.1 1, 96, .inl gg))] 0 0
  obtain ⟨nn, so, sr, sf, tk, dp, nm, na, i0, i1, i2, i3, sx, sy, sz, h0, h1, h2, h3, hwf, hna, haf⟩ := id hsa
  have hwn : 1 ≤ nn ∧ nn ≤ 32 := ⟨hwf.1, hwf.2.1⟩
  refine ww_aload_n C dX2_plain_0 1 rfl rfl ?_
  refine ww_ci (wr := [(qj, .inr (2, [.ref jt, .ref je, .ref ju, .ref ja])), (ju, .inl (E.2.1 1, 32, .inl ft)), (a, .inl (E.2.1 1, 24, .inl f)), (b, .inl (E.2.1 1, 96, .inl gg))]) (k' := 0) (n' := 0) C (run_V (As := []) (rest := []) C (m_all X.2.1 E ro h n r a b (by omega)) mi_X4_all wl_X2_61 rfl 0 4 rfl rfl rfl rfl rfl dX2_plain_1) (roK hro) [2] [0, 1, 3, 4] rfl rfl rfl rfl (fun r_1 uz hw => ?_)
  obtain ⟨rfl, h_2⟩ := hw
  refine ww_eq (ws' := [(qj, .inr (2, [.ref jt, .ref je, .ref ju, .ref ja])), (ju, .inl (E.2.1 1, 32, .inl ft)), (a, .inl (E.2.1 1, 24, .inl f)), (b, .inl (E.2.1 1, 96, .inl gg)), (h, .inr (4, [.int (nI n), .int (nI r), .ref a, .ref b]))]) ?_ rfl rfl rfl
  refine ww_istore_n (lv' := [(3, .int r_1), (0, .ref qj), (1, .ref h), (2, .ref sa)]) C dX2_plain_4 rfl rfl rfl ?_
  refine ww_iconst (v := 0) C dX2_plain_5 rfl ?_
  refine ww_istore (lv' := [(4, .int 0), (3, .int r_1), (0, .ref qj), (1, .ref h), (2, .ref sa)]) C dX2_plain_6 rfl rfl ?_
  refine ww_aload_n C dX2_plain_8 4 rfl rfl ?_
  refine ww_getR C hro fg_X2_74 i0 h0 rfl dX2_plain_9 ?_
  refine ww_alenR (v := (nI nn)) (t0 := 1) C hro i1 h1 rfl rfl dX2_plain_12 ?_
  refine ww_iconst (v := 1) C dX2_plain_13 rfl ?_
  obtain ⟨x_3, ex_3⟩ : ∃ z : Int32, (nI nn) - (1 : Int32) = z := ⟨_, rfl⟩
  have zx_3 : x_3.toInt = ((nn : Nat) : Int) - 1 := by rw [← ex_3]; exact i_sub (nI_toInt (n := nn) (by omega)) rfl (by omega) (by omega)
  refine ww_isub (v := x_3) C dX2_plain_14 ex_3 ?_
  refine ww_istore (lv' := [(5, .int x_3), (4, .int 0), (3, .int r_1), (0, .ref qj), (1, .ref h), (2, .ref sa)]) C dX2_plain_15 rfl rfl ?_
  have loop_17 : ∀ (fu : Nat) (xi : Int32) (ii : Nat) (tt : Nat) (f1 : Nat → Int32), (xi.toInt = (ii : Int) - 1) → (ii ≤ nn) → ((tt : Int) = opn so ii) → ii < fu → WW X 11 E 17 [(5, .int xi), (4, .int (nI tt)), (3, .int r_1), (0, .ref qj), (1, .ref h), (2, .ref sa)] [] [(qj, .inr (2, [.ref jt, .ref je, .ref ju, .ref ja])), (ju, .inl (E.2.1 1, 32, .inl f1)), (a, .inl (E.2.1 1, 24, .inl f)), (b, .inl (E.2.1 1, 96, .inl gg)), (h, .inr (4, [.int (nI n), .int (nI r), .ref a, .ref b]))] 0 0 := by
    intro fu
    induction fu with
    | zero => intro xi ii tt f1 hxi hii htt hmeas; exact absurd hmeas (Nat.not_lt_zero _)
    | succ fu ih_17 =>
      intro xi ii tt f1 hxi hii htt hmeas
      refine ww_iload C dX2_plain_17 0 rfl ?_
      refine ww_if_lt (tgt := 304) C dX2_plain_19 (by decide) (fun c_4 => ?_) (fun c_4 => ?_)
      · have zc_4 : ((ii : Int) - 1) < 0 := i_lt hxi rfl c_4
        refine ww_aload_n C dX2_plain_304 3 rfl rfl ?_
        refine ww_get C fg_X2_23 0 rfl rfl dX2_plain_305 ?_
        refine ww_iconst (v := 0) C dX2_plain_308 rfl ?_
        obtain ⟨x_5, ex_5⟩ : ∃ z : Int32, f1 0 = z := ⟨_, rfl⟩
        refine ww_iald (v := x_5) C 1 rfl (vin rfl) ex_5 dX2_plain_309 ?_
        exact ww_iret (u := [(qj, .inr (2, [.ref jt, .ref je, .ref ju, .ref ja])), (ju, .inl (E.2.1 1, 32, .inl f1)), (h, .inr (4, [.int (nI n), .int (nI r), .ref a, .ref b])), (a, .inl (E.2.1 1, 24, .inl f)), (b, .inl (E.2.1 1, 96, .inl gg))]) C hT [0, 1, 4, 2, 3] rfl rfl rfl rfl dX2_plain_310 (⟨f1, rfl⟩)
      · have zc_4 : ((ii : Int) - 1) ≥ 0 := i_nlt hxi rfl c_4
        obtain ⟨j_6, hj_6, rfl⟩ := i_nat (x := xi) (N := 31) (by omega) (by omega)
        have hzj_6 := nI_toInt (n := j_6) (by omega)
        refine ww_aload_n C dX2_plain_22 5 rfl rfl ?_
        refine ww_getR C hro fg_X2_74 i0 h0 rfl dX2_plain_23 ?_
        refine ww_iload C dX2_plain_26 0 rfl ?_
        obtain ⟨x_7, ex_7⟩ : ∃ z : Int32, so j_6 = z := ⟨_, rfl⟩
        refine ww_ialdR (v := x_7) C hro i1 h1 (vp_in_nI (by omega) (by omega)) (ldn (by omega) ex_7) dX2_plain_28 ?_
        refine ww_istore (lv' := [(6, .int x_7), (5, .int (nI j_6)), (4, .int (nI tt)), (3, .int r_1), (0, .ref qj), (1, .ref h), (2, .ref sa)]) C dX2_plain_29 rfl rfl ?_
        have hbj_6 := hwf.2.2.1 j_6 (by omega)
        rw [ex_7] at hbj_6
        have hoj_6 := opn_s so j_6
        have h1j_6 := hwf.2.2.2.1 j_6 (by omega)
        have h2j_6 := opn_le hwf (i := j_6 + 1) (by omega)
        have h3j_6 := opn_le hwf (i := j_6) (by omega)
        have h4j_6 : ii = j_6 + 1 := by omega
        rw [h4j_6] at htt
        rcases sp_0_8 (x := x_7) (by omega) (by omega) with rfl | rfl | rfl | rfl | rfl | rfl | rfl | rfl | rfl
        · rw [ex_7, uN_0] at hoj_6
          refine ww_aload_n C dX2_plain_31 6 rfl rfl ?_
          refine ww_getR C hro fg_X2_77 i0 h0 rfl dX2_plain_32 ?_
          refine ww_iload C dX2_plain_35 1 rfl ?_
          obtain ⟨x_8, ex_8⟩ : ∃ z : Int32, sr j_6 = z := ⟨_, rfl⟩
          refine ww_ialdR (v := x_8) C hro i2 h2 (vp_in_nI (by omega) (by omega)) (ldn (by omega) ex_8) dX2_plain_37 ?_
          refine ww_istore (lv' := [(7, .int x_8), (6, .int 0), (5, .int (nI j_6)), (4, .int (nI tt)), (3, .int r_1), (0, .ref qj), (1, .ref h), (2, .ref sa)]) C dX2_plain_38 rfl rfl ?_
          refine ww_iload C dX2_plain_40 3 rfl ?_
          refine ww_iconst (v := 1) C dX2_plain_42 rfl ?_
          refine ww_iload C dX2_plain_43 1 rfl ?_
          refine ww_ci (wr := [(qj, .inr (2, [.ref jt, .ref je, .ref ju, .ref ja])), (ju, .inl (E.2.1 1, 32, .inl f1)), (a, .inl (E.2.1 1, 24, .inl f)), (b, .inl (E.2.1 1, 96, .inl gg)), (h, .inr (4, [.int (nI n), .int (nI r), .ref a, .ref b]))]) (k' := 0) (n' := 0) C (run_SN (As := [.int 0]) (rest := [.int 1, .int (nI tt)]) C (c_under X.2.1 E ro 0) ms_X11_under (List.mem_of_getElem? (i := 15) rfl) rfl rfl rfl rfl dX2_plain_45) (roK hro) [] [0, 1, 2, 3, 4] rfl rfl rfl rfl (fun r_9 uz hw => ?_)
          rcases hw with ⟨rfl, rfl, h_10⟩ | ⟨rfl, rfl, h_11⟩ | ⟨rfl, rfl, h_12⟩
          · refine ww_eq (ws' := [(qj, .inr (2, [.ref jt, .ref je, .ref ju, .ref ja])), (ju, .inl (E.2.1 1, 32, .inl f1)), (a, .inl (E.2.1 1, 24, .inl f)), (b, .inl (E.2.1 1, 96, .inl gg)), (h, .inr (4, [.int (nI n), .int (nI r), .ref a, .ref b]))]) ?_ rfl rfl rfl
            refine ww_isub (v := 1) C dX2_plain_48 (by decide) ?_
            refine ww_iadd (v := (nI (tt + 1))) C dX2_plain_49 (nI_add tt 1) ?_
            refine ww_istore (lv' := [(4, .int (nI (tt + 1))), (7, .int x_8), (6, .int 0), (5, .int (nI j_6)), (3, .int r_1), (0, .ref qj), (1, .ref h), (2, .ref sa)]) C dX2_plain_50 rfl rfl ?_
            refine ww_iload C dX2_plain_52 0 rfl ?_
            refine ww_iconst (v := 1) C dX2_plain_54 rfl ?_
            refine ww_isub (v := (nI ((tt + 1) - 1))) C dX2_plain_55 (pk_sub (a := (tt + 1)) (b := 1) (by omega)) ?_
            refine ww_istore (lv' := [(8, .int (nI ((tt + 1) - 1))), (4, .int (nI (tt + 1))), (7, .int x_8), (6, .int 0), (5, .int (nI j_6)), (3, .int r_1), (0, .ref qj), (1, .ref h), (2, .ref sa)]) C dX2_plain_56 rfl rfl ?_
            refine ww_aload_n C dX2_plain_58 6 rfl rfl ?_
            refine ww_get C fg_X2_23 0 rfl rfl dX2_plain_59 ?_
            refine ww_iload C dX2_plain_62 0 rfl ?_
            obtain ⟨x_13, ex_13⟩ : ∃ z : Int32, f1 ((tt + 1) - 1) = z := ⟨_, rfl⟩
            refine ww_iald (v := x_13) C 1 rfl (vp_in_nI (by omega) (by omega)) (ldn (by omega) ex_13) dX2_plain_64 ?_
            refine ww_istore (lv' := [(9, .int x_13), (8, .int (nI ((tt + 1) - 1))), (4, .int (nI (tt + 1))), (7, .int x_8), (6, .int 0), (5, .int (nI j_6)), (3, .int r_1), (0, .ref qj), (1, .ref h), (2, .ref sa)]) C dX2_plain_65 rfl rfl ?_
            refine ww_iload_n C dX2_plain_67 6 rfl rfl ?_
            refine ww_iload C dX2_plain_68 0 rfl ?_
            refine ww_iconst (v := (-1)) C dX2_plain_70 rfl ?_
            obtain ⟨x_14, ex_14⟩ : ∃ z : Int32, x_13 ^^^ ((-1) : Int32) = z := ⟨_, rfl⟩
            refine ww_ixor (v := x_14) C dX2_plain_71 ex_14 ?_
            obtain ⟨x_15, ex_15⟩ : ∃ z : Int32, r_1 &&& x_14 = z := ⟨_, rfl⟩
            refine ww_iand (v := x_15) C dX2_plain_72 ex_15 ?_
            refine ww_istore (lv' := [(10, .int x_15), (9, .int x_13), (8, .int (nI ((tt + 1) - 1))), (4, .int (nI (tt + 1))), (7, .int x_8), (6, .int 0), (5, .int (nI j_6)), (3, .int r_1), (0, .ref qj), (1, .ref h), (2, .ref sa)]) C dX2_plain_73 rfl rfl ?_
            refine ww_iload C dX2_plain_75 5 rfl ?_
            refine ww_tableIn (tgt := 124) C dX2_plain_77 (by decide) (by decide) rfl (by decide) ?_
            refine ww_aload_n C dX2_plain_124 8 rfl rfl ?_
            refine ww_get C fg_X2_23 0 rfl rfl dX2_plain_125 ?_
            refine ww_iload C dX2_plain_128 2 rfl ?_
            refine ww_aload_n C dX2_plain_130 9 rfl rfl ?_
            refine ww_iload C dX2_plain_131 4 rfl ?_
            refine ww_ci (wr := [(qj, .inr (2, [.ref jt, .ref je, .ref ju, .ref ja])), (ju, .inl (E.2.1 1, 32, .inl f1))]) (k' := 0) (n' := 0) C (run_V (As := [.int x_8]) (rest := [.int (nI ((tt + 1) - 1)), .ref ju]) C (m_withFact X.2.1 E ro h x_8 n r a b f gg (by omega) (by omega)) mi_X4_withFact wl_X2_84 rfl 0 4 rfl rfl rfl rfl rfl dX2_plain_133) (roK hro) [4, 2, 3] [0, 1] rfl rfl rfl rfl (fun r_16 uz hw => ?_)
            obtain rfl := hw
            refine ww_eq (ws' := [(qj, .inr (2, [.ref jt, .ref je, .ref ju, .ref ja])), (ju, .inl (E.2.1 1, 32, .inl f1)), (h, .inr (4, [.int (nI n), .int (nI r), .ref a, .ref b])), (a, .inl (E.2.1 1, 24, .inl f)), (b, .inl (E.2.1 1, 96, .inl gg))]) ?_ rfl rfl rfl
            obtain ⟨f_17, ef_17⟩ : ∃ z : Nat → Int32, upd f1 ((tt + 1) - 1) r_16 = z := ⟨_, rfl⟩
            refine ww_iast (ws' := [(qj, .inr (2, [.ref jt, .ref je, .ref ju, .ref ja])), (ju, .inl (E.2.1 1, 32, .inl f_17)), (h, .inr (4, [.int (nI n), .int (nI r), .ref a, .ref b])), (a, .inl (E.2.1 1, 24, .inl f)), (b, .inl (E.2.1 1, 96, .inl gg))]) C 1 rfl (vp_in_nI (by omega) (by omega)) (ldn2 (by omega) ef_17) rfl dX2_plain_136 ?_
            refine ww_goto (tgt := 298) C dX2_plain_137 (by decide) ?_
            obtain ⟨x_18, ex_18⟩ : ∃ z : Int32, (nI j_6) + Int32.ofInt (-1) = z := ⟨_, rfl⟩
            have zx_18 : x_18.toInt = ((j_6 : Nat) : Int) - 1 := by rw [← ex_18]; exact i_dec (c := 1) (nI_toInt (n := j_6) (by omega)) rfl (by omega) (by omega)
            refine ww_iinc (j := 6) (v := x_18) (lv' := [(5, .int x_18), (10, .int x_15), (9, .int x_13), (8, .int (nI ((tt + 1) - 1))), (4, .int (nI (tt + 1))), (7, .int x_8), (6, .int 0), (3, .int r_1), (0, .ref qj), (1, .ref h), (2, .ref sa)]) C dX2_plain_298 rfl ex_18 rfl rfl ?_
            refine ww_goto (tgt := 17) C dX2_plain_301 (by decide) ?_
            exact ww_lv [0, 4, 7, 8, 9, 10] rfl (ww_sub [0, 1, 3, 4, 2] rfl rfl (ih_17 x_18 j_6 (tt + 1) f_17 (by omega) (by omega) (by omega) (by omega)))
          · exact absurd h_11 (by decide)
          · exact absurd h_12 (by decide)
        · rw [ex_7, uN_1] at hoj_6
          refine ww_aload_n C dX2_plain_31 6 rfl rfl ?_
          refine ww_getR C hro fg_X2_77 i0 h0 rfl dX2_plain_32 ?_
          refine ww_iload C dX2_plain_35 1 rfl ?_
          obtain ⟨x_19, ex_19⟩ : ∃ z : Int32, sr j_6 = z := ⟨_, rfl⟩
          refine ww_ialdR (v := x_19) C hro i2 h2 (vp_in_nI (by omega) (by omega)) (ldn (by omega) ex_19) dX2_plain_37 ?_
          refine ww_istore (lv' := [(7, .int x_19), (6, .int 1), (5, .int (nI j_6)), (4, .int (nI tt)), (3, .int r_1), (0, .ref qj), (1, .ref h), (2, .ref sa)]) C dX2_plain_38 rfl rfl ?_
          refine ww_iload C dX2_plain_40 3 rfl ?_
          refine ww_iconst (v := 1) C dX2_plain_42 rfl ?_
          refine ww_iload C dX2_plain_43 1 rfl ?_
          refine ww_ci (wr := [(qj, .inr (2, [.ref jt, .ref je, .ref ju, .ref ja])), (ju, .inl (E.2.1 1, 32, .inl f1)), (a, .inl (E.2.1 1, 24, .inl f)), (b, .inl (E.2.1 1, 96, .inl gg)), (h, .inr (4, [.int (nI n), .int (nI r), .ref a, .ref b]))]) (k' := 0) (n' := 0) C (run_SN (As := [.int 1]) (rest := [.int 1, .int (nI tt)]) C (c_under X.2.1 E ro 1) ms_X11_under (List.mem_of_getElem? (i := 15) rfl) rfl rfl rfl rfl dX2_plain_45) (roK hro) [] [0, 1, 2, 3, 4] rfl rfl rfl rfl (fun r_20 uz hw => ?_)
          rcases hw with ⟨rfl, rfl, h_21⟩ | ⟨rfl, rfl, h_22⟩ | ⟨rfl, rfl, h_23⟩
          · refine ww_eq (ws' := [(qj, .inr (2, [.ref jt, .ref je, .ref ju, .ref ja])), (ju, .inl (E.2.1 1, 32, .inl f1)), (a, .inl (E.2.1 1, 24, .inl f)), (b, .inl (E.2.1 1, 96, .inl gg)), (h, .inr (4, [.int (nI n), .int (nI r), .ref a, .ref b]))]) ?_ rfl rfl rfl
            refine ww_isub (v := 1) C dX2_plain_48 (by decide) ?_
            refine ww_iadd (v := (nI (tt + 1))) C dX2_plain_49 (nI_add tt 1) ?_
            refine ww_istore (lv' := [(4, .int (nI (tt + 1))), (7, .int x_19), (6, .int 1), (5, .int (nI j_6)), (3, .int r_1), (0, .ref qj), (1, .ref h), (2, .ref sa)]) C dX2_plain_50 rfl rfl ?_
            refine ww_iload C dX2_plain_52 0 rfl ?_
            refine ww_iconst (v := 1) C dX2_plain_54 rfl ?_
            refine ww_isub (v := (nI ((tt + 1) - 1))) C dX2_plain_55 (pk_sub (a := (tt + 1)) (b := 1) (by omega)) ?_
            refine ww_istore (lv' := [(8, .int (nI ((tt + 1) - 1))), (4, .int (nI (tt + 1))), (7, .int x_19), (6, .int 1), (5, .int (nI j_6)), (3, .int r_1), (0, .ref qj), (1, .ref h), (2, .ref sa)]) C dX2_plain_56 rfl rfl ?_
            refine ww_aload_n C dX2_plain_58 6 rfl rfl ?_
            refine ww_get C fg_X2_23 0 rfl rfl dX2_plain_59 ?_
            refine ww_iload C dX2_plain_62 0 rfl ?_
            obtain ⟨x_24, ex_24⟩ : ∃ z : Int32, f1 ((tt + 1) - 1) = z := ⟨_, rfl⟩
            refine ww_iald (v := x_24) C 1 rfl (vp_in_nI (by omega) (by omega)) (ldn (by omega) ex_24) dX2_plain_64 ?_
            refine ww_istore (lv' := [(9, .int x_24), (8, .int (nI ((tt + 1) - 1))), (4, .int (nI (tt + 1))), (7, .int x_19), (6, .int 1), (5, .int (nI j_6)), (3, .int r_1), (0, .ref qj), (1, .ref h), (2, .ref sa)]) C dX2_plain_65 rfl rfl ?_
            refine ww_iload_n C dX2_plain_67 6 rfl rfl ?_
            refine ww_iload C dX2_plain_68 0 rfl ?_
            refine ww_iconst (v := (-1)) C dX2_plain_70 rfl ?_
            obtain ⟨x_25, ex_25⟩ : ∃ z : Int32, x_24 ^^^ ((-1) : Int32) = z := ⟨_, rfl⟩
            refine ww_ixor (v := x_25) C dX2_plain_71 ex_25 ?_
            obtain ⟨x_26, ex_26⟩ : ∃ z : Int32, r_1 &&& x_25 = z := ⟨_, rfl⟩
            refine ww_iand (v := x_26) C dX2_plain_72 ex_26 ?_
            refine ww_istore (lv' := [(10, .int x_26), (9, .int x_24), (8, .int (nI ((tt + 1) - 1))), (4, .int (nI (tt + 1))), (7, .int x_19), (6, .int 1), (5, .int (nI j_6)), (3, .int r_1), (0, .ref qj), (1, .ref h), (2, .ref sa)]) C dX2_plain_73 rfl rfl ?_
            refine ww_iload C dX2_plain_75 5 rfl ?_
            refine ww_tableIn (tgt := 140) C dX2_plain_77 (by decide) (by decide) rfl (by decide) ?_
            refine ww_aload_n C dX2_plain_140 8 rfl rfl ?_
            refine ww_get C fg_X2_23 0 rfl rfl dX2_plain_141 ?_
            refine ww_iload C dX2_plain_144 2 rfl ?_
            refine ww_iload_n C dX2_plain_146 7 rfl rfl ?_
            obtain ⟨f_27, ef_27⟩ : ∃ z : Nat → Int32, upd f1 ((tt + 1) - 1) r_1 = z := ⟨_, rfl⟩
            refine ww_iast (ws' := [(qj, .inr (2, [.ref jt, .ref je, .ref ju, .ref ja])), (ju, .inl (E.2.1 1, 32, .inl f_27)), (a, .inl (E.2.1 1, 24, .inl f)), (b, .inl (E.2.1 1, 96, .inl gg)), (h, .inr (4, [.int (nI n), .int (nI r), .ref a, .ref b]))]) C 1 rfl (vp_in_nI (by omega) (by omega)) (ldn2 (by omega) ef_27) rfl dX2_plain_147 ?_
            refine ww_goto (tgt := 298) C dX2_plain_148 (by decide) ?_
            obtain ⟨x_28, ex_28⟩ : ∃ z : Int32, (nI j_6) + Int32.ofInt (-1) = z := ⟨_, rfl⟩
            have zx_28 : x_28.toInt = ((j_6 : Nat) : Int) - 1 := by rw [← ex_28]; exact i_dec (c := 1) (nI_toInt (n := j_6) (by omega)) rfl (by omega) (by omega)
            refine ww_iinc (j := 6) (v := x_28) (lv' := [(5, .int x_28), (10, .int x_26), (9, .int x_24), (8, .int (nI ((tt + 1) - 1))), (4, .int (nI (tt + 1))), (7, .int x_19), (6, .int 1), (3, .int r_1), (0, .ref qj), (1, .ref h), (2, .ref sa)]) C dX2_plain_298 rfl ex_28 rfl rfl ?_
            refine ww_goto (tgt := 17) C dX2_plain_301 (by decide) ?_
            exact ww_lv [0, 4, 7, 8, 9, 10] rfl (ww_sub [0, 1, 2, 3, 4] rfl rfl (ih_17 x_28 j_6 (tt + 1) f_27 (by omega) (by omega) (by omega) (by omega)))
          · exact absurd h_22 (by decide)
          · exact absurd h_23 (by decide)
        · rw [ex_7, uN_2] at hoj_6
          refine ww_aload_n C dX2_plain_31 6 rfl rfl ?_
          refine ww_getR C hro fg_X2_77 i0 h0 rfl dX2_plain_32 ?_
          refine ww_iload C dX2_plain_35 1 rfl ?_
          obtain ⟨x_29, ex_29⟩ : ∃ z : Int32, sr j_6 = z := ⟨_, rfl⟩
          refine ww_ialdR (v := x_29) C hro i2 h2 (vp_in_nI (by omega) (by omega)) (ldn (by omega) ex_29) dX2_plain_37 ?_
          refine ww_istore (lv' := [(7, .int x_29), (6, .int 2), (5, .int (nI j_6)), (4, .int (nI tt)), (3, .int r_1), (0, .ref qj), (1, .ref h), (2, .ref sa)]) C dX2_plain_38 rfl rfl ?_
          refine ww_iload C dX2_plain_40 3 rfl ?_
          refine ww_iconst (v := 1) C dX2_plain_42 rfl ?_
          refine ww_iload C dX2_plain_43 1 rfl ?_
          refine ww_ci (wr := [(qj, .inr (2, [.ref jt, .ref je, .ref ju, .ref ja])), (ju, .inl (E.2.1 1, 32, .inl f1)), (a, .inl (E.2.1 1, 24, .inl f)), (b, .inl (E.2.1 1, 96, .inl gg)), (h, .inr (4, [.int (nI n), .int (nI r), .ref a, .ref b]))]) (k' := 0) (n' := 0) C (run_SN (As := [.int 2]) (rest := [.int 1, .int (nI tt)]) C (c_under X.2.1 E ro 2) ms_X11_under (List.mem_of_getElem? (i := 15) rfl) rfl rfl rfl rfl dX2_plain_45) (roK hro) [] [0, 1, 2, 3, 4] rfl rfl rfl rfl (fun r_30 uz hw => ?_)
          rcases hw with ⟨rfl, rfl, h_31⟩ | ⟨rfl, rfl, h_32⟩ | ⟨rfl, rfl, h_33⟩
          · exact absurd h_31 (by decide)
          · exact absurd h_32 (by decide)
          · refine ww_eq (ws' := [(qj, .inr (2, [.ref jt, .ref je, .ref ju, .ref ja])), (ju, .inl (E.2.1 1, 32, .inl f1)), (a, .inl (E.2.1 1, 24, .inl f)), (b, .inl (E.2.1 1, 96, .inl gg)), (h, .inr (4, [.int (nI n), .int (nI r), .ref a, .ref b]))]) ?_ rfl rfl rfl
            refine ww_isub (v := 0) C dX2_plain_48 (by decide) ?_
            refine ww_iadd (v := (nI tt)) C dX2_plain_49 (nI_add tt 0) ?_
            refine ww_istore (lv' := [(4, .int (nI tt)), (7, .int x_29), (6, .int 2), (5, .int (nI j_6)), (3, .int r_1), (0, .ref qj), (1, .ref h), (2, .ref sa)]) C dX2_plain_50 rfl rfl ?_
            refine ww_iload C dX2_plain_52 0 rfl ?_
            refine ww_iconst (v := 1) C dX2_plain_54 rfl ?_
            refine ww_isub (v := (nI (tt - 1))) C dX2_plain_55 (pk_sub (a := tt) (b := 1) (by omega)) ?_
            refine ww_istore (lv' := [(8, .int (nI (tt - 1))), (4, .int (nI tt)), (7, .int x_29), (6, .int 2), (5, .int (nI j_6)), (3, .int r_1), (0, .ref qj), (1, .ref h), (2, .ref sa)]) C dX2_plain_56 rfl rfl ?_
            refine ww_aload_n C dX2_plain_58 6 rfl rfl ?_
            refine ww_get C fg_X2_23 0 rfl rfl dX2_plain_59 ?_
            refine ww_iload C dX2_plain_62 0 rfl ?_
            obtain ⟨x_34, ex_34⟩ : ∃ z : Int32, f1 (tt - 1) = z := ⟨_, rfl⟩
            refine ww_iald (v := x_34) C 1 rfl (vp_in_nI (by omega) (by omega)) (ldn (by omega) ex_34) dX2_plain_64 ?_
            refine ww_istore (lv' := [(9, .int x_34), (8, .int (nI (tt - 1))), (4, .int (nI tt)), (7, .int x_29), (6, .int 2), (5, .int (nI j_6)), (3, .int r_1), (0, .ref qj), (1, .ref h), (2, .ref sa)]) C dX2_plain_65 rfl rfl ?_
            refine ww_iload_n C dX2_plain_67 6 rfl rfl ?_
            refine ww_iload C dX2_plain_68 0 rfl ?_
            refine ww_iconst (v := (-1)) C dX2_plain_70 rfl ?_
            obtain ⟨x_35, ex_35⟩ : ∃ z : Int32, x_34 ^^^ ((-1) : Int32) = z := ⟨_, rfl⟩
            refine ww_ixor (v := x_35) C dX2_plain_71 ex_35 ?_
            obtain ⟨x_36, ex_36⟩ : ∃ z : Int32, r_1 &&& x_35 = z := ⟨_, rfl⟩
            refine ww_iand (v := x_36) C dX2_plain_72 ex_36 ?_
            refine ww_istore (lv' := [(10, .int x_36), (9, .int x_34), (8, .int (nI (tt - 1))), (4, .int (nI tt)), (7, .int x_29), (6, .int 2), (5, .int (nI j_6)), (3, .int r_1), (0, .ref qj), (1, .ref h), (2, .ref sa)]) C dX2_plain_73 rfl rfl ?_
            refine ww_iload C dX2_plain_75 5 rfl ?_
            refine ww_tableIn (tgt := 151) C dX2_plain_77 (by decide) (by decide) rfl (by decide) ?_
            refine ww_aload_n C dX2_plain_151 8 rfl rfl ?_
            refine ww_get C fg_X2_23 0 rfl rfl dX2_plain_152 ?_
            refine ww_iload C dX2_plain_155 2 rfl ?_
            refine ww_iload C dX2_plain_157 0 rfl ?_
            obtain ⟨f_37, ef_37⟩ : ∃ z : Nat → Int32, upd f1 (tt - 1) x_36 = z := ⟨_, rfl⟩
            refine ww_iast (ws' := [(qj, .inr (2, [.ref jt, .ref je, .ref ju, .ref ja])), (ju, .inl (E.2.1 1, 32, .inl f_37)), (a, .inl (E.2.1 1, 24, .inl f)), (b, .inl (E.2.1 1, 96, .inl gg)), (h, .inr (4, [.int (nI n), .int (nI r), .ref a, .ref b]))]) C 1 rfl (vp_in_nI (by omega) (by omega)) (ldn2 (by omega) ef_37) rfl dX2_plain_159 ?_
            refine ww_goto (tgt := 298) C dX2_plain_160 (by decide) ?_
            obtain ⟨x_38, ex_38⟩ : ∃ z : Int32, (nI j_6) + Int32.ofInt (-1) = z := ⟨_, rfl⟩
            have zx_38 : x_38.toInt = ((j_6 : Nat) : Int) - 1 := by rw [← ex_38]; exact i_dec (c := 1) (nI_toInt (n := j_6) (by omega)) rfl (by omega) (by omega)
            refine ww_iinc (j := 6) (v := x_38) (lv' := [(5, .int x_38), (10, .int x_36), (9, .int x_34), (8, .int (nI (tt - 1))), (4, .int (nI tt)), (7, .int x_29), (6, .int 2), (3, .int r_1), (0, .ref qj), (1, .ref h), (2, .ref sa)]) C dX2_plain_298 rfl ex_38 rfl rfl ?_
            refine ww_goto (tgt := 17) C dX2_plain_301 (by decide) ?_
            exact ww_lv [0, 4, 7, 8, 9, 10] rfl (ww_sub [0, 1, 2, 3, 4] rfl rfl (ih_17 x_38 j_6 tt f_37 (by omega) (by omega) (by omega) (by omega)))
        · rw [ex_7, uN_3] at hoj_6
          refine ww_aload_n C dX2_plain_31 6 rfl rfl ?_
          refine ww_getR C hro fg_X2_77 i0 h0 rfl dX2_plain_32 ?_
          refine ww_iload C dX2_plain_35 1 rfl ?_
          obtain ⟨x_39, ex_39⟩ : ∃ z : Int32, sr j_6 = z := ⟨_, rfl⟩
          refine ww_ialdR (v := x_39) C hro i2 h2 (vp_in_nI (by omega) (by omega)) (ldn (by omega) ex_39) dX2_plain_37 ?_
          refine ww_istore (lv' := [(7, .int x_39), (6, .int 3), (5, .int (nI j_6)), (4, .int (nI tt)), (3, .int r_1), (0, .ref qj), (1, .ref h), (2, .ref sa)]) C dX2_plain_38 rfl rfl ?_
          refine ww_iload C dX2_plain_40 3 rfl ?_
          refine ww_iconst (v := 1) C dX2_plain_42 rfl ?_
          refine ww_iload C dX2_plain_43 1 rfl ?_
          refine ww_ci (wr := [(qj, .inr (2, [.ref jt, .ref je, .ref ju, .ref ja])), (ju, .inl (E.2.1 1, 32, .inl f1)), (a, .inl (E.2.1 1, 24, .inl f)), (b, .inl (E.2.1 1, 96, .inl gg)), (h, .inr (4, [.int (nI n), .int (nI r), .ref a, .ref b]))]) (k' := 0) (n' := 0) C (run_SN (As := [.int 3]) (rest := [.int 1, .int (nI tt)]) C (c_under X.2.1 E ro 3) ms_X11_under (List.mem_of_getElem? (i := 15) rfl) rfl rfl rfl rfl dX2_plain_45) (roK hro) [] [0, 1, 2, 3, 4] rfl rfl rfl rfl (fun r_40 uz hw => ?_)
          rcases hw with ⟨rfl, rfl, h_41⟩ | ⟨rfl, rfl, h_42⟩ | ⟨rfl, rfl, h_43⟩
          · exact absurd h_41 (by decide)
          · refine ww_eq (ws' := [(qj, .inr (2, [.ref jt, .ref je, .ref ju, .ref ja])), (ju, .inl (E.2.1 1, 32, .inl f1)), (a, .inl (E.2.1 1, 24, .inl f)), (b, .inl (E.2.1 1, 96, .inl gg)), (h, .inr (4, [.int (nI n), .int (nI r), .ref a, .ref b]))]) ?_ rfl rfl rfl
            refine ww_isub (v := (-1)) C dX2_plain_48 (by decide) ?_
            refine ww_iadd (v := (nI (tt - 1))) C dX2_plain_49 (nI_subc (a := tt) (c := 1) (by omega) rfl) ?_
            refine ww_istore (lv' := [(4, .int (nI (tt - 1))), (7, .int x_39), (6, .int 3), (5, .int (nI j_6)), (3, .int r_1), (0, .ref qj), (1, .ref h), (2, .ref sa)]) C dX2_plain_50 rfl rfl ?_
            refine ww_iload C dX2_plain_52 0 rfl ?_
            refine ww_iconst (v := 1) C dX2_plain_54 rfl ?_
            refine ww_isub (v := (nI ((tt - 1) - 1))) C dX2_plain_55 (pk_sub (a := (tt - 1)) (b := 1) (by omega)) ?_
            refine ww_istore (lv' := [(8, .int (nI ((tt - 1) - 1))), (4, .int (nI (tt - 1))), (7, .int x_39), (6, .int 3), (5, .int (nI j_6)), (3, .int r_1), (0, .ref qj), (1, .ref h), (2, .ref sa)]) C dX2_plain_56 rfl rfl ?_
            refine ww_aload_n C dX2_plain_58 6 rfl rfl ?_
            refine ww_get C fg_X2_23 0 rfl rfl dX2_plain_59 ?_
            refine ww_iload C dX2_plain_62 0 rfl ?_
            obtain ⟨x_44, ex_44⟩ : ∃ z : Int32, f1 ((tt - 1) - 1) = z := ⟨_, rfl⟩
            refine ww_iald (v := x_44) C 1 rfl (vp_in_nI (by omega) (by omega)) (ldn (by omega) ex_44) dX2_plain_64 ?_
            refine ww_istore (lv' := [(9, .int x_44), (8, .int (nI ((tt - 1) - 1))), (4, .int (nI (tt - 1))), (7, .int x_39), (6, .int 3), (5, .int (nI j_6)), (3, .int r_1), (0, .ref qj), (1, .ref h), (2, .ref sa)]) C dX2_plain_65 rfl rfl ?_
            refine ww_iload_n C dX2_plain_67 6 rfl rfl ?_
            refine ww_iload C dX2_plain_68 0 rfl ?_
            refine ww_iconst (v := (-1)) C dX2_plain_70 rfl ?_
            obtain ⟨x_45, ex_45⟩ : ∃ z : Int32, x_44 ^^^ ((-1) : Int32) = z := ⟨_, rfl⟩
            refine ww_ixor (v := x_45) C dX2_plain_71 ex_45 ?_
            obtain ⟨x_46, ex_46⟩ : ∃ z : Int32, r_1 &&& x_45 = z := ⟨_, rfl⟩
            refine ww_iand (v := x_46) C dX2_plain_72 ex_46 ?_
            refine ww_istore (lv' := [(10, .int x_46), (9, .int x_44), (8, .int (nI ((tt - 1) - 1))), (4, .int (nI (tt - 1))), (7, .int x_39), (6, .int 3), (5, .int (nI j_6)), (3, .int r_1), (0, .ref qj), (1, .ref h), (2, .ref sa)]) C dX2_plain_73 rfl rfl ?_
            refine ww_iload C dX2_plain_75 5 rfl ?_
            refine ww_tableIn (tgt := 163) C dX2_plain_77 (by decide) (by decide) rfl (by decide) ?_
            refine ww_aload_n C dX2_plain_163 8 rfl rfl ?_
            refine ww_get C fg_X2_23 0 rfl rfl dX2_plain_164 ?_
            refine ww_iload C dX2_plain_167 2 rfl ?_
            refine ww_iload C dX2_plain_169 1 rfl ?_
            refine ww_aload_n C dX2_plain_171 8 rfl rfl ?_
            refine ww_get C fg_X2_23 0 rfl rfl dX2_plain_172 ?_
            refine ww_iload C dX2_plain_175 3 rfl ?_
            obtain ⟨x_47, ex_47⟩ : ∃ z : Int32, f1 (tt - 1) = z := ⟨_, rfl⟩
            refine ww_iald (v := x_47) C 1 rfl (vp_in_nI (by omega) (by omega)) (ldn (by omega) ex_47) dX2_plain_177 ?_
            obtain ⟨x_48, ex_48⟩ : ∃ z : Int32, x_44 &&& x_47 = z := ⟨_, rfl⟩
            refine ww_iand (v := x_48) C dX2_plain_178 ex_48 ?_
            obtain ⟨f_49, ef_49⟩ : ∃ z : Nat → Int32, upd f1 ((tt - 1) - 1) x_48 = z := ⟨_, rfl⟩
            refine ww_iast (ws' := [(qj, .inr (2, [.ref jt, .ref je, .ref ju, .ref ja])), (ju, .inl (E.2.1 1, 32, .inl f_49)), (a, .inl (E.2.1 1, 24, .inl f)), (b, .inl (E.2.1 1, 96, .inl gg)), (h, .inr (4, [.int (nI n), .int (nI r), .ref a, .ref b]))]) C 1 rfl (vp_in_nI (by omega) (by omega)) (ldn2 (by omega) ef_49) rfl dX2_plain_179 ?_
            refine ww_goto (tgt := 298) C dX2_plain_180 (by decide) ?_
            obtain ⟨x_50, ex_50⟩ : ∃ z : Int32, (nI j_6) + Int32.ofInt (-1) = z := ⟨_, rfl⟩
            have zx_50 : x_50.toInt = ((j_6 : Nat) : Int) - 1 := by rw [← ex_50]; exact i_dec (c := 1) (nI_toInt (n := j_6) (by omega)) rfl (by omega) (by omega)
            refine ww_iinc (j := 6) (v := x_50) (lv' := [(5, .int x_50), (10, .int x_46), (9, .int x_44), (8, .int (nI ((tt - 1) - 1))), (4, .int (nI (tt - 1))), (7, .int x_39), (6, .int 3), (3, .int r_1), (0, .ref qj), (1, .ref h), (2, .ref sa)]) C dX2_plain_298 rfl ex_50 rfl rfl ?_
            refine ww_goto (tgt := 17) C dX2_plain_301 (by decide) ?_
            exact ww_lv [0, 4, 7, 8, 9, 10] rfl (ww_sub [0, 1, 2, 3, 4] rfl rfl (ih_17 x_50 j_6 (tt - 1) f_49 (by omega) (by omega) (by omega) (by omega)))
          · exact absurd h_43 (by decide)
        · rw [ex_7, uN_4] at hoj_6
          refine ww_aload_n C dX2_plain_31 6 rfl rfl ?_
          refine ww_getR C hro fg_X2_77 i0 h0 rfl dX2_plain_32 ?_
          refine ww_iload C dX2_plain_35 1 rfl ?_
          obtain ⟨x_51, ex_51⟩ : ∃ z : Int32, sr j_6 = z := ⟨_, rfl⟩
          refine ww_ialdR (v := x_51) C hro i2 h2 (vp_in_nI (by omega) (by omega)) (ldn (by omega) ex_51) dX2_plain_37 ?_
          refine ww_istore (lv' := [(7, .int x_51), (6, .int 4), (5, .int (nI j_6)), (4, .int (nI tt)), (3, .int r_1), (0, .ref qj), (1, .ref h), (2, .ref sa)]) C dX2_plain_38 rfl rfl ?_
          refine ww_iload C dX2_plain_40 3 rfl ?_
          refine ww_iconst (v := 1) C dX2_plain_42 rfl ?_
          refine ww_iload C dX2_plain_43 1 rfl ?_
          refine ww_ci (wr := [(qj, .inr (2, [.ref jt, .ref je, .ref ju, .ref ja])), (ju, .inl (E.2.1 1, 32, .inl f1)), (a, .inl (E.2.1 1, 24, .inl f)), (b, .inl (E.2.1 1, 96, .inl gg)), (h, .inr (4, [.int (nI n), .int (nI r), .ref a, .ref b]))]) (k' := 0) (n' := 0) C (run_SN (As := [.int 4]) (rest := [.int 1, .int (nI tt)]) C (c_under X.2.1 E ro 4) ms_X11_under (List.mem_of_getElem? (i := 15) rfl) rfl rfl rfl rfl dX2_plain_45) (roK hro) [] [0, 1, 2, 3, 4] rfl rfl rfl rfl (fun r_52 uz hw => ?_)
          rcases hw with ⟨rfl, rfl, h_53⟩ | ⟨rfl, rfl, h_54⟩ | ⟨rfl, rfl, h_55⟩
          · exact absurd h_53 (by decide)
          · refine ww_eq (ws' := [(qj, .inr (2, [.ref jt, .ref je, .ref ju, .ref ja])), (ju, .inl (E.2.1 1, 32, .inl f1)), (a, .inl (E.2.1 1, 24, .inl f)), (b, .inl (E.2.1 1, 96, .inl gg)), (h, .inr (4, [.int (nI n), .int (nI r), .ref a, .ref b]))]) ?_ rfl rfl rfl
            refine ww_isub (v := (-1)) C dX2_plain_48 (by decide) ?_
            refine ww_iadd (v := (nI (tt - 1))) C dX2_plain_49 (nI_subc (a := tt) (c := 1) (by omega) rfl) ?_
            refine ww_istore (lv' := [(4, .int (nI (tt - 1))), (7, .int x_51), (6, .int 4), (5, .int (nI j_6)), (3, .int r_1), (0, .ref qj), (1, .ref h), (2, .ref sa)]) C dX2_plain_50 rfl rfl ?_
            refine ww_iload C dX2_plain_52 0 rfl ?_
            refine ww_iconst (v := 1) C dX2_plain_54 rfl ?_
            refine ww_isub (v := (nI ((tt - 1) - 1))) C dX2_plain_55 (pk_sub (a := (tt - 1)) (b := 1) (by omega)) ?_
            refine ww_istore (lv' := [(8, .int (nI ((tt - 1) - 1))), (4, .int (nI (tt - 1))), (7, .int x_51), (6, .int 4), (5, .int (nI j_6)), (3, .int r_1), (0, .ref qj), (1, .ref h), (2, .ref sa)]) C dX2_plain_56 rfl rfl ?_
            refine ww_aload_n C dX2_plain_58 6 rfl rfl ?_
            refine ww_get C fg_X2_23 0 rfl rfl dX2_plain_59 ?_
            refine ww_iload C dX2_plain_62 0 rfl ?_
            obtain ⟨x_56, ex_56⟩ : ∃ z : Int32, f1 ((tt - 1) - 1) = z := ⟨_, rfl⟩
            refine ww_iald (v := x_56) C 1 rfl (vp_in_nI (by omega) (by omega)) (ldn (by omega) ex_56) dX2_plain_64 ?_
            refine ww_istore (lv' := [(9, .int x_56), (8, .int (nI ((tt - 1) - 1))), (4, .int (nI (tt - 1))), (7, .int x_51), (6, .int 4), (5, .int (nI j_6)), (3, .int r_1), (0, .ref qj), (1, .ref h), (2, .ref sa)]) C dX2_plain_65 rfl rfl ?_
            refine ww_iload_n C dX2_plain_67 6 rfl rfl ?_
            refine ww_iload C dX2_plain_68 0 rfl ?_
            refine ww_iconst (v := (-1)) C dX2_plain_70 rfl ?_
            obtain ⟨x_57, ex_57⟩ : ∃ z : Int32, x_56 ^^^ ((-1) : Int32) = z := ⟨_, rfl⟩
            refine ww_ixor (v := x_57) C dX2_plain_71 ex_57 ?_
            obtain ⟨x_58, ex_58⟩ : ∃ z : Int32, r_1 &&& x_57 = z := ⟨_, rfl⟩
            refine ww_iand (v := x_58) C dX2_plain_72 ex_58 ?_
            refine ww_istore (lv' := [(10, .int x_58), (9, .int x_56), (8, .int (nI ((tt - 1) - 1))), (4, .int (nI (tt - 1))), (7, .int x_51), (6, .int 4), (5, .int (nI j_6)), (3, .int r_1), (0, .ref qj), (1, .ref h), (2, .ref sa)]) C dX2_plain_73 rfl rfl ?_
            refine ww_iload C dX2_plain_75 5 rfl ?_
            refine ww_tableIn (tgt := 183) C dX2_plain_77 (by decide) (by decide) rfl (by decide) ?_
            refine ww_aload_n C dX2_plain_183 8 rfl rfl ?_
            refine ww_get C fg_X2_23 0 rfl rfl dX2_plain_184 ?_
            refine ww_iload C dX2_plain_187 2 rfl ?_
            refine ww_iload C dX2_plain_189 1 rfl ?_
            refine ww_aload_n C dX2_plain_191 8 rfl rfl ?_
            refine ww_get C fg_X2_23 0 rfl rfl dX2_plain_192 ?_
            refine ww_iload C dX2_plain_195 3 rfl ?_
            obtain ⟨x_59, ex_59⟩ : ∃ z : Int32, f1 (tt - 1) = z := ⟨_, rfl⟩
            refine ww_iald (v := x_59) C 1 rfl (vp_in_nI (by omega) (by omega)) (ldn (by omega) ex_59) dX2_plain_197 ?_
            obtain ⟨x_60, ex_60⟩ : ∃ z : Int32, x_56 ||| x_59 = z := ⟨_, rfl⟩
            refine ww_ior (v := x_60) C dX2_plain_198 ex_60 ?_
            obtain ⟨f_61, ef_61⟩ : ∃ z : Nat → Int32, upd f1 ((tt - 1) - 1) x_60 = z := ⟨_, rfl⟩
            refine ww_iast (ws' := [(qj, .inr (2, [.ref jt, .ref je, .ref ju, .ref ja])), (ju, .inl (E.2.1 1, 32, .inl f_61)), (a, .inl (E.2.1 1, 24, .inl f)), (b, .inl (E.2.1 1, 96, .inl gg)), (h, .inr (4, [.int (nI n), .int (nI r), .ref a, .ref b]))]) C 1 rfl (vp_in_nI (by omega) (by omega)) (ldn2 (by omega) ef_61) rfl dX2_plain_199 ?_
            refine ww_goto (tgt := 298) C dX2_plain_200 (by decide) ?_
            obtain ⟨x_62, ex_62⟩ : ∃ z : Int32, (nI j_6) + Int32.ofInt (-1) = z := ⟨_, rfl⟩
            have zx_62 : x_62.toInt = ((j_6 : Nat) : Int) - 1 := by rw [← ex_62]; exact i_dec (c := 1) (nI_toInt (n := j_6) (by omega)) rfl (by omega) (by omega)
            refine ww_iinc (j := 6) (v := x_62) (lv' := [(5, .int x_62), (10, .int x_58), (9, .int x_56), (8, .int (nI ((tt - 1) - 1))), (4, .int (nI (tt - 1))), (7, .int x_51), (6, .int 4), (3, .int r_1), (0, .ref qj), (1, .ref h), (2, .ref sa)]) C dX2_plain_298 rfl ex_62 rfl rfl ?_
            refine ww_goto (tgt := 17) C dX2_plain_301 (by decide) ?_
            exact ww_lv [0, 4, 7, 8, 9, 10] rfl (ww_sub [0, 1, 2, 3, 4] rfl rfl (ih_17 x_62 j_6 (tt - 1) f_61 (by omega) (by omega) (by omega) (by omega)))
          · exact absurd h_55 (by decide)
        · rw [ex_7, uN_5] at hoj_6
          refine ww_aload_n C dX2_plain_31 6 rfl rfl ?_
          refine ww_getR C hro fg_X2_77 i0 h0 rfl dX2_plain_32 ?_
          refine ww_iload C dX2_plain_35 1 rfl ?_
          obtain ⟨x_63, ex_63⟩ : ∃ z : Int32, sr j_6 = z := ⟨_, rfl⟩
          refine ww_ialdR (v := x_63) C hro i2 h2 (vp_in_nI (by omega) (by omega)) (ldn (by omega) ex_63) dX2_plain_37 ?_
          refine ww_istore (lv' := [(7, .int x_63), (6, .int 5), (5, .int (nI j_6)), (4, .int (nI tt)), (3, .int r_1), (0, .ref qj), (1, .ref h), (2, .ref sa)]) C dX2_plain_38 rfl rfl ?_
          refine ww_iload C dX2_plain_40 3 rfl ?_
          refine ww_iconst (v := 1) C dX2_plain_42 rfl ?_
          refine ww_iload C dX2_plain_43 1 rfl ?_
          refine ww_ci (wr := [(qj, .inr (2, [.ref jt, .ref je, .ref ju, .ref ja])), (ju, .inl (E.2.1 1, 32, .inl f1)), (a, .inl (E.2.1 1, 24, .inl f)), (b, .inl (E.2.1 1, 96, .inl gg)), (h, .inr (4, [.int (nI n), .int (nI r), .ref a, .ref b]))]) (k' := 0) (n' := 0) C (run_SN (As := [.int 5]) (rest := [.int 1, .int (nI tt)]) C (c_under X.2.1 E ro 5) ms_X11_under (List.mem_of_getElem? (i := 15) rfl) rfl rfl rfl rfl dX2_plain_45) (roK hro) [] [0, 1, 2, 3, 4] rfl rfl rfl rfl (fun r_64 uz hw => ?_)
          rcases hw with ⟨rfl, rfl, h_65⟩ | ⟨rfl, rfl, h_66⟩ | ⟨rfl, rfl, h_67⟩
          · exact absurd h_65 (by decide)
          · exact absurd h_66 (by decide)
          · refine ww_eq (ws' := [(qj, .inr (2, [.ref jt, .ref je, .ref ju, .ref ja])), (ju, .inl (E.2.1 1, 32, .inl f1)), (a, .inl (E.2.1 1, 24, .inl f)), (b, .inl (E.2.1 1, 96, .inl gg)), (h, .inr (4, [.int (nI n), .int (nI r), .ref a, .ref b]))]) ?_ rfl rfl rfl
            refine ww_isub (v := 0) C dX2_plain_48 (by decide) ?_
            refine ww_iadd (v := (nI tt)) C dX2_plain_49 (nI_add tt 0) ?_
            refine ww_istore (lv' := [(4, .int (nI tt)), (7, .int x_63), (6, .int 5), (5, .int (nI j_6)), (3, .int r_1), (0, .ref qj), (1, .ref h), (2, .ref sa)]) C dX2_plain_50 rfl rfl ?_
            refine ww_iload C dX2_plain_52 0 rfl ?_
            refine ww_iconst (v := 1) C dX2_plain_54 rfl ?_
            refine ww_isub (v := (nI (tt - 1))) C dX2_plain_55 (pk_sub (a := tt) (b := 1) (by omega)) ?_
            refine ww_istore (lv' := [(8, .int (nI (tt - 1))), (4, .int (nI tt)), (7, .int x_63), (6, .int 5), (5, .int (nI j_6)), (3, .int r_1), (0, .ref qj), (1, .ref h), (2, .ref sa)]) C dX2_plain_56 rfl rfl ?_
            refine ww_aload_n C dX2_plain_58 6 rfl rfl ?_
            refine ww_get C fg_X2_23 0 rfl rfl dX2_plain_59 ?_
            refine ww_iload C dX2_plain_62 0 rfl ?_
            obtain ⟨x_68, ex_68⟩ : ∃ z : Int32, f1 (tt - 1) = z := ⟨_, rfl⟩
            refine ww_iald (v := x_68) C 1 rfl (vp_in_nI (by omega) (by omega)) (ldn (by omega) ex_68) dX2_plain_64 ?_
            refine ww_istore (lv' := [(9, .int x_68), (8, .int (nI (tt - 1))), (4, .int (nI tt)), (7, .int x_63), (6, .int 5), (5, .int (nI j_6)), (3, .int r_1), (0, .ref qj), (1, .ref h), (2, .ref sa)]) C dX2_plain_65 rfl rfl ?_
            refine ww_iload_n C dX2_plain_67 6 rfl rfl ?_
            refine ww_iload C dX2_plain_68 0 rfl ?_
            refine ww_iconst (v := (-1)) C dX2_plain_70 rfl ?_
            obtain ⟨x_69, ex_69⟩ : ∃ z : Int32, x_68 ^^^ ((-1) : Int32) = z := ⟨_, rfl⟩
            refine ww_ixor (v := x_69) C dX2_plain_71 ex_69 ?_
            obtain ⟨x_70, ex_70⟩ : ∃ z : Int32, r_1 &&& x_69 = z := ⟨_, rfl⟩
            refine ww_iand (v := x_70) C dX2_plain_72 ex_70 ?_
            refine ww_istore (lv' := [(10, .int x_70), (9, .int x_68), (8, .int (nI (tt - 1))), (4, .int (nI tt)), (7, .int x_63), (6, .int 5), (5, .int (nI j_6)), (3, .int r_1), (0, .ref qj), (1, .ref h), (2, .ref sa)]) C dX2_plain_73 rfl rfl ?_
            refine ww_iload C dX2_plain_75 5 rfl ?_
            refine ww_tableIn (tgt := 203) C dX2_plain_77 (by decide) (by decide) rfl (by decide) ?_
            refine ww_aload_n C dX2_plain_203 8 rfl rfl ?_
            refine ww_get C fg_X2_23 0 rfl rfl dX2_plain_204 ?_
            refine ww_iload C dX2_plain_207 2 rfl ?_
            refine ww_iload_n C dX2_plain_209 7 rfl rfl ?_
            refine ww_aload_n C dX2_plain_210 9 rfl rfl ?_
            refine ww_iload C dX2_plain_211 4 rfl ?_
            refine ww_iload C dX2_plain_213 1 rfl ?_
            refine ww_iconst (v := 1) C dX2_plain_215 rfl ?_
            refine ww_ci (wr := [(qj, .inr (2, [.ref jt, .ref je, .ref ju, .ref ja])), (ju, .inl (E.2.1 1, 32, .inl f1))]) (k' := 0) (n' := 0) C (run_V (As := [.int x_63, .int x_68, .int 1]) (rest := [.int r_1, .int (nI (tt - 1)), .ref ju]) C (m_leadingTo X.2.1 E ro h x_63 x_68 1 n r a b f gg (by omega) (by omega) (by omega)) mi_X4_leadingTo wl_X2_87 rfl 0 4 rfl rfl rfl rfl rfl dX2_plain_216) (roK hro) [4, 2, 3] [0, 1] rfl rfl rfl rfl (fun r_71 uz hw => ?_)
            obtain rfl := hw
            refine ww_eq (ws' := [(qj, .inr (2, [.ref jt, .ref je, .ref ju, .ref ja])), (ju, .inl (E.2.1 1, 32, .inl f1)), (h, .inr (4, [.int (nI n), .int (nI r), .ref a, .ref b])), (a, .inl (E.2.1 1, 24, .inl f)), (b, .inl (E.2.1 1, 96, .inl gg))]) ?_ rfl rfl rfl
            refine ww_aload_n C dX2_plain_219 9 rfl rfl ?_
            refine ww_iload C dX2_plain_220 4 rfl ?_
            refine ww_iload C dX2_plain_222 0 rfl ?_
            refine ww_iconst (v := 1) C dX2_plain_224 rfl ?_
            refine ww_ci (wr := [(qj, .inr (2, [.ref jt, .ref je, .ref ju, .ref ja])), (ju, .inl (E.2.1 1, 32, .inl f1))]) (k' := 0) (n' := 0) C (run_V (As := [.int x_63, .int x_70, .int 1]) (rest := [.int r_71, .int r_1, .int (nI (tt - 1)), .ref ju]) C (m_leadingTo X.2.1 E ro h x_63 x_70 1 n r a b f gg (by omega) (by omega) (by omega)) mi_X4_leadingTo wl_X2_87 rfl 0 4 rfl rfl rfl rfl rfl dX2_plain_225) (roK hro) [2, 3, 4] [0, 1] rfl rfl rfl rfl (fun r_72 uz hw => ?_)
            obtain rfl := hw
            refine ww_eq (ws' := [(qj, .inr (2, [.ref jt, .ref je, .ref ju, .ref ja])), (ju, .inl (E.2.1 1, 32, .inl f1)), (h, .inr (4, [.int (nI n), .int (nI r), .ref a, .ref b])), (a, .inl (E.2.1 1, 24, .inl f)), (b, .inl (E.2.1 1, 96, .inl gg))]) ?_ rfl rfl rfl
            obtain ⟨x_73, ex_73⟩ : ∃ z : Int32, r_71 &&& r_72 = z := ⟨_, rfl⟩
            refine ww_iand (v := x_73) C dX2_plain_228 ex_73 ?_
            refine ww_iconst (v := (-1)) C dX2_plain_229 rfl ?_
            obtain ⟨x_74, ex_74⟩ : ∃ z : Int32, x_73 ^^^ ((-1) : Int32) = z := ⟨_, rfl⟩
            refine ww_ixor (v := x_74) C dX2_plain_230 ex_74 ?_
            obtain ⟨x_75, ex_75⟩ : ∃ z : Int32, r_1 &&& x_74 = z := ⟨_, rfl⟩
            refine ww_iand (v := x_75) C dX2_plain_231 ex_75 ?_
            obtain ⟨f_76, ef_76⟩ : ∃ z : Nat → Int32, upd f1 (tt - 1) x_75 = z := ⟨_, rfl⟩
            refine ww_iast (ws' := [(qj, .inr (2, [.ref jt, .ref je, .ref ju, .ref ja])), (ju, .inl (E.2.1 1, 32, .inl f_76)), (h, .inr (4, [.int (nI n), .int (nI r), .ref a, .ref b])), (a, .inl (E.2.1 1, 24, .inl f)), (b, .inl (E.2.1 1, 96, .inl gg))]) C 1 rfl (vp_in_nI (by omega) (by omega)) (ldn2 (by omega) ef_76) rfl dX2_plain_232 ?_
            refine ww_goto (tgt := 298) C dX2_plain_233 (by decide) ?_
            obtain ⟨x_77, ex_77⟩ : ∃ z : Int32, (nI j_6) + Int32.ofInt (-1) = z := ⟨_, rfl⟩
            have zx_77 : x_77.toInt = ((j_6 : Nat) : Int) - 1 := by rw [← ex_77]; exact i_dec (c := 1) (nI_toInt (n := j_6) (by omega)) rfl (by omega) (by omega)
            refine ww_iinc (j := 6) (v := x_77) (lv' := [(5, .int x_77), (10, .int x_70), (9, .int x_68), (8, .int (nI (tt - 1))), (4, .int (nI tt)), (7, .int x_63), (6, .int 5), (3, .int r_1), (0, .ref qj), (1, .ref h), (2, .ref sa)]) C dX2_plain_298 rfl ex_77 rfl rfl ?_
            refine ww_goto (tgt := 17) C dX2_plain_301 (by decide) ?_
            exact ww_lv [0, 4, 7, 8, 9, 10] rfl (ww_sub [0, 1, 3, 4, 2] rfl rfl (ih_17 x_77 j_6 tt f_76 (by omega) (by omega) (by omega) (by omega)))
        · rw [ex_7, uN_6] at hoj_6
          refine ww_aload_n C dX2_plain_31 6 rfl rfl ?_
          refine ww_getR C hro fg_X2_77 i0 h0 rfl dX2_plain_32 ?_
          refine ww_iload C dX2_plain_35 1 rfl ?_
          obtain ⟨x_78, ex_78⟩ : ∃ z : Int32, sr j_6 = z := ⟨_, rfl⟩
          refine ww_ialdR (v := x_78) C hro i2 h2 (vp_in_nI (by omega) (by omega)) (ldn (by omega) ex_78) dX2_plain_37 ?_
          refine ww_istore (lv' := [(7, .int x_78), (6, .int 6), (5, .int (nI j_6)), (4, .int (nI tt)), (3, .int r_1), (0, .ref qj), (1, .ref h), (2, .ref sa)]) C dX2_plain_38 rfl rfl ?_
          refine ww_iload C dX2_plain_40 3 rfl ?_
          refine ww_iconst (v := 1) C dX2_plain_42 rfl ?_
          refine ww_iload C dX2_plain_43 1 rfl ?_
          refine ww_ci (wr := [(qj, .inr (2, [.ref jt, .ref je, .ref ju, .ref ja])), (ju, .inl (E.2.1 1, 32, .inl f1)), (a, .inl (E.2.1 1, 24, .inl f)), (b, .inl (E.2.1 1, 96, .inl gg)), (h, .inr (4, [.int (nI n), .int (nI r), .ref a, .ref b]))]) (k' := 0) (n' := 0) C (run_SN (As := [.int 6]) (rest := [.int 1, .int (nI tt)]) C (c_under X.2.1 E ro 6) ms_X11_under (List.mem_of_getElem? (i := 15) rfl) rfl rfl rfl rfl dX2_plain_45) (roK hro) [] [0, 1, 2, 3, 4] rfl rfl rfl rfl (fun r_79 uz hw => ?_)
          rcases hw with ⟨rfl, rfl, h_80⟩ | ⟨rfl, rfl, h_81⟩ | ⟨rfl, rfl, h_82⟩
          · exact absurd h_80 (by decide)
          · exact absurd h_81 (by decide)
          · refine ww_eq (ws' := [(qj, .inr (2, [.ref jt, .ref je, .ref ju, .ref ja])), (ju, .inl (E.2.1 1, 32, .inl f1)), (a, .inl (E.2.1 1, 24, .inl f)), (b, .inl (E.2.1 1, 96, .inl gg)), (h, .inr (4, [.int (nI n), .int (nI r), .ref a, .ref b]))]) ?_ rfl rfl rfl
            refine ww_isub (v := 0) C dX2_plain_48 (by decide) ?_
            refine ww_iadd (v := (nI tt)) C dX2_plain_49 (nI_add tt 0) ?_
            refine ww_istore (lv' := [(4, .int (nI tt)), (7, .int x_78), (6, .int 6), (5, .int (nI j_6)), (3, .int r_1), (0, .ref qj), (1, .ref h), (2, .ref sa)]) C dX2_plain_50 rfl rfl ?_
            refine ww_iload C dX2_plain_52 0 rfl ?_
            refine ww_iconst (v := 1) C dX2_plain_54 rfl ?_
            refine ww_isub (v := (nI (tt - 1))) C dX2_plain_55 (pk_sub (a := tt) (b := 1) (by omega)) ?_
            refine ww_istore (lv' := [(8, .int (nI (tt - 1))), (4, .int (nI tt)), (7, .int x_78), (6, .int 6), (5, .int (nI j_6)), (3, .int r_1), (0, .ref qj), (1, .ref h), (2, .ref sa)]) C dX2_plain_56 rfl rfl ?_
            refine ww_aload_n C dX2_plain_58 6 rfl rfl ?_
            refine ww_get C fg_X2_23 0 rfl rfl dX2_plain_59 ?_
            refine ww_iload C dX2_plain_62 0 rfl ?_
            obtain ⟨x_83, ex_83⟩ : ∃ z : Int32, f1 (tt - 1) = z := ⟨_, rfl⟩
            refine ww_iald (v := x_83) C 1 rfl (vp_in_nI (by omega) (by omega)) (ldn (by omega) ex_83) dX2_plain_64 ?_
            refine ww_istore (lv' := [(9, .int x_83), (8, .int (nI (tt - 1))), (4, .int (nI tt)), (7, .int x_78), (6, .int 6), (5, .int (nI j_6)), (3, .int r_1), (0, .ref qj), (1, .ref h), (2, .ref sa)]) C dX2_plain_65 rfl rfl ?_
            refine ww_iload_n C dX2_plain_67 6 rfl rfl ?_
            refine ww_iload C dX2_plain_68 0 rfl ?_
            refine ww_iconst (v := (-1)) C dX2_plain_70 rfl ?_
            obtain ⟨x_84, ex_84⟩ : ∃ z : Int32, x_83 ^^^ ((-1) : Int32) = z := ⟨_, rfl⟩
            refine ww_ixor (v := x_84) C dX2_plain_71 ex_84 ?_
            obtain ⟨x_85, ex_85⟩ : ∃ z : Int32, r_1 &&& x_84 = z := ⟨_, rfl⟩
            refine ww_iand (v := x_85) C dX2_plain_72 ex_85 ?_
            refine ww_istore (lv' := [(10, .int x_85), (9, .int x_83), (8, .int (nI (tt - 1))), (4, .int (nI tt)), (7, .int x_78), (6, .int 6), (5, .int (nI j_6)), (3, .int r_1), (0, .ref qj), (1, .ref h), (2, .ref sa)]) C dX2_plain_73 rfl rfl ?_
            refine ww_iload C dX2_plain_75 5 rfl ?_
            refine ww_tableIn (tgt := 236) C dX2_plain_77 (by decide) (by decide) rfl (by decide) ?_
            refine ww_aload_n C dX2_plain_236 8 rfl rfl ?_
            refine ww_get C fg_X2_23 0 rfl rfl dX2_plain_237 ?_
            refine ww_iload C dX2_plain_240 2 rfl ?_
            refine ww_iload_n C dX2_plain_242 7 rfl rfl ?_
            refine ww_aload_n C dX2_plain_243 9 rfl rfl ?_
            refine ww_iload C dX2_plain_244 4 rfl ?_
            refine ww_iload C dX2_plain_246 0 rfl ?_
            refine ww_iconst (v := 1) C dX2_plain_248 rfl ?_
            refine ww_ci (wr := [(qj, .inr (2, [.ref jt, .ref je, .ref ju, .ref ja])), (ju, .inl (E.2.1 1, 32, .inl f1))]) (k' := 0) (n' := 0) C (run_V (As := [.int x_78, .int x_85, .int 1]) (rest := [.int r_1, .int (nI (tt - 1)), .ref ju]) C (m_leadingTo X.2.1 E ro h x_78 x_85 1 n r a b f gg (by omega) (by omega) (by omega)) mi_X4_leadingTo wl_X2_87 rfl 0 4 rfl rfl rfl rfl rfl dX2_plain_249) (roK hro) [4, 2, 3] [0, 1] rfl rfl rfl rfl (fun r_86 uz hw => ?_)
            obtain rfl := hw
            refine ww_eq (ws' := [(qj, .inr (2, [.ref jt, .ref je, .ref ju, .ref ja])), (ju, .inl (E.2.1 1, 32, .inl f1)), (h, .inr (4, [.int (nI n), .int (nI r), .ref a, .ref b])), (a, .inl (E.2.1 1, 24, .inl f)), (b, .inl (E.2.1 1, 96, .inl gg))]) ?_ rfl rfl rfl
            refine ww_iconst (v := (-1)) C dX2_plain_252 rfl ?_
            obtain ⟨x_87, ex_87⟩ : ∃ z : Int32, r_86 ^^^ ((-1) : Int32) = z := ⟨_, rfl⟩
            refine ww_ixor (v := x_87) C dX2_plain_253 ex_87 ?_
            obtain ⟨x_88, ex_88⟩ : ∃ z : Int32, r_1 &&& x_87 = z := ⟨_, rfl⟩
            refine ww_iand (v := x_88) C dX2_plain_254 ex_88 ?_
            obtain ⟨f_89, ef_89⟩ : ∃ z : Nat → Int32, upd f1 (tt - 1) x_88 = z := ⟨_, rfl⟩
            refine ww_iast (ws' := [(qj, .inr (2, [.ref jt, .ref je, .ref ju, .ref ja])), (ju, .inl (E.2.1 1, 32, .inl f_89)), (h, .inr (4, [.int (nI n), .int (nI r), .ref a, .ref b])), (a, .inl (E.2.1 1, 24, .inl f)), (b, .inl (E.2.1 1, 96, .inl gg))]) C 1 rfl (vp_in_nI (by omega) (by omega)) (ldn2 (by omega) ef_89) rfl dX2_plain_255 ?_
            refine ww_goto (tgt := 298) C dX2_plain_256 (by decide) ?_
            obtain ⟨x_90, ex_90⟩ : ∃ z : Int32, (nI j_6) + Int32.ofInt (-1) = z := ⟨_, rfl⟩
            have zx_90 : x_90.toInt = ((j_6 : Nat) : Int) - 1 := by rw [← ex_90]; exact i_dec (c := 1) (nI_toInt (n := j_6) (by omega)) rfl (by omega) (by omega)
            refine ww_iinc (j := 6) (v := x_90) (lv' := [(5, .int x_90), (10, .int x_85), (9, .int x_83), (8, .int (nI (tt - 1))), (4, .int (nI tt)), (7, .int x_78), (6, .int 6), (3, .int r_1), (0, .ref qj), (1, .ref h), (2, .ref sa)]) C dX2_plain_298 rfl ex_90 rfl rfl ?_
            refine ww_goto (tgt := 17) C dX2_plain_301 (by decide) ?_
            exact ww_lv [0, 4, 7, 8, 9, 10] rfl (ww_sub [0, 1, 3, 4, 2] rfl rfl (ih_17 x_90 j_6 tt f_89 (by omega) (by omega) (by omega) (by omega)))
        · rw [ex_7, uN_7] at hoj_6
          refine ww_aload_n C dX2_plain_31 6 rfl rfl ?_
          refine ww_getR C hro fg_X2_77 i0 h0 rfl dX2_plain_32 ?_
          refine ww_iload C dX2_plain_35 1 rfl ?_
          obtain ⟨x_91, ex_91⟩ : ∃ z : Int32, sr j_6 = z := ⟨_, rfl⟩
          refine ww_ialdR (v := x_91) C hro i2 h2 (vp_in_nI (by omega) (by omega)) (ldn (by omega) ex_91) dX2_plain_37 ?_
          refine ww_istore (lv' := [(7, .int x_91), (6, .int 7), (5, .int (nI j_6)), (4, .int (nI tt)), (3, .int r_1), (0, .ref qj), (1, .ref h), (2, .ref sa)]) C dX2_plain_38 rfl rfl ?_
          refine ww_iload C dX2_plain_40 3 rfl ?_
          refine ww_iconst (v := 1) C dX2_plain_42 rfl ?_
          refine ww_iload C dX2_plain_43 1 rfl ?_
          refine ww_ci (wr := [(qj, .inr (2, [.ref jt, .ref je, .ref ju, .ref ja])), (ju, .inl (E.2.1 1, 32, .inl f1)), (a, .inl (E.2.1 1, 24, .inl f)), (b, .inl (E.2.1 1, 96, .inl gg)), (h, .inr (4, [.int (nI n), .int (nI r), .ref a, .ref b]))]) (k' := 0) (n' := 0) C (run_SN (As := [.int 7]) (rest := [.int 1, .int (nI tt)]) C (c_under X.2.1 E ro 7) ms_X11_under (List.mem_of_getElem? (i := 15) rfl) rfl rfl rfl rfl dX2_plain_45) (roK hro) [] [0, 1, 2, 3, 4] rfl rfl rfl rfl (fun r_92 uz hw => ?_)
          rcases hw with ⟨rfl, rfl, h_93⟩ | ⟨rfl, rfl, h_94⟩ | ⟨rfl, rfl, h_95⟩
          · exact absurd h_93 (by decide)
          · exact absurd h_94 (by decide)
          · refine ww_eq (ws' := [(qj, .inr (2, [.ref jt, .ref je, .ref ju, .ref ja])), (ju, .inl (E.2.1 1, 32, .inl f1)), (a, .inl (E.2.1 1, 24, .inl f)), (b, .inl (E.2.1 1, 96, .inl gg)), (h, .inr (4, [.int (nI n), .int (nI r), .ref a, .ref b]))]) ?_ rfl rfl rfl
            refine ww_isub (v := 0) C dX2_plain_48 (by decide) ?_
            refine ww_iadd (v := (nI tt)) C dX2_plain_49 (nI_add tt 0) ?_
            refine ww_istore (lv' := [(4, .int (nI tt)), (7, .int x_91), (6, .int 7), (5, .int (nI j_6)), (3, .int r_1), (0, .ref qj), (1, .ref h), (2, .ref sa)]) C dX2_plain_50 rfl rfl ?_
            refine ww_iload C dX2_plain_52 0 rfl ?_
            refine ww_iconst (v := 1) C dX2_plain_54 rfl ?_
            refine ww_isub (v := (nI (tt - 1))) C dX2_plain_55 (pk_sub (a := tt) (b := 1) (by omega)) ?_
            refine ww_istore (lv' := [(8, .int (nI (tt - 1))), (4, .int (nI tt)), (7, .int x_91), (6, .int 7), (5, .int (nI j_6)), (3, .int r_1), (0, .ref qj), (1, .ref h), (2, .ref sa)]) C dX2_plain_56 rfl rfl ?_
            refine ww_aload_n C dX2_plain_58 6 rfl rfl ?_
            refine ww_get C fg_X2_23 0 rfl rfl dX2_plain_59 ?_
            refine ww_iload C dX2_plain_62 0 rfl ?_
            obtain ⟨x_96, ex_96⟩ : ∃ z : Int32, f1 (tt - 1) = z := ⟨_, rfl⟩
            refine ww_iald (v := x_96) C 1 rfl (vp_in_nI (by omega) (by omega)) (ldn (by omega) ex_96) dX2_plain_64 ?_
            refine ww_istore (lv' := [(9, .int x_96), (8, .int (nI (tt - 1))), (4, .int (nI tt)), (7, .int x_91), (6, .int 7), (5, .int (nI j_6)), (3, .int r_1), (0, .ref qj), (1, .ref h), (2, .ref sa)]) C dX2_plain_65 rfl rfl ?_
            refine ww_iload_n C dX2_plain_67 6 rfl rfl ?_
            refine ww_iload C dX2_plain_68 0 rfl ?_
            refine ww_iconst (v := (-1)) C dX2_plain_70 rfl ?_
            obtain ⟨x_97, ex_97⟩ : ∃ z : Int32, x_96 ^^^ ((-1) : Int32) = z := ⟨_, rfl⟩
            refine ww_ixor (v := x_97) C dX2_plain_71 ex_97 ?_
            obtain ⟨x_98, ex_98⟩ : ∃ z : Int32, r_1 &&& x_97 = z := ⟨_, rfl⟩
            refine ww_iand (v := x_98) C dX2_plain_72 ex_98 ?_
            refine ww_istore (lv' := [(10, .int x_98), (9, .int x_96), (8, .int (nI (tt - 1))), (4, .int (nI tt)), (7, .int x_91), (6, .int 7), (5, .int (nI j_6)), (3, .int r_1), (0, .ref qj), (1, .ref h), (2, .ref sa)]) C dX2_plain_73 rfl rfl ?_
            refine ww_iload C dX2_plain_75 5 rfl ?_
            refine ww_tableIn (tgt := 259) C dX2_plain_77 (by decide) (by decide) rfl (by decide) ?_
            refine ww_aload_n C dX2_plain_259 8 rfl rfl ?_
            refine ww_get C fg_X2_23 0 rfl rfl dX2_plain_260 ?_
            refine ww_iload C dX2_plain_263 2 rfl ?_
            refine ww_iload_n C dX2_plain_265 7 rfl rfl ?_
            refine ww_aload_n C dX2_plain_266 9 rfl rfl ?_
            refine ww_iload C dX2_plain_267 4 rfl ?_
            refine ww_iload C dX2_plain_269 0 rfl ?_
            refine ww_bipush (v := 24) C dX2_plain_271 rfl ?_
            refine ww_ci (wr := [(qj, .inr (2, [.ref jt, .ref je, .ref ju, .ref ja])), (ju, .inl (E.2.1 1, 32, .inl f1))]) (k' := 0) (n' := 0) C (run_V (As := [.int x_91, .int x_98, .int 24]) (rest := [.int r_1, .int (nI (tt - 1)), .ref ju]) C (m_leadingTo X.2.1 E ro h x_91 x_98 24 n r a b f gg (by omega) (by omega) (by omega)) mi_X4_leadingTo wl_X2_87 rfl 0 4 rfl rfl rfl rfl rfl dX2_plain_273) (roK hro) [4, 2, 3] [0, 1] rfl rfl rfl rfl (fun r_99 uz hw => ?_)
            obtain rfl := hw
            refine ww_eq (ws' := [(qj, .inr (2, [.ref jt, .ref je, .ref ju, .ref ja])), (ju, .inl (E.2.1 1, 32, .inl f1)), (h, .inr (4, [.int (nI n), .int (nI r), .ref a, .ref b])), (a, .inl (E.2.1 1, 24, .inl f)), (b, .inl (E.2.1 1, 96, .inl gg))]) ?_ rfl rfl rfl
            refine ww_iconst (v := (-1)) C dX2_plain_276 rfl ?_
            obtain ⟨x_100, ex_100⟩ : ∃ z : Int32, r_99 ^^^ ((-1) : Int32) = z := ⟨_, rfl⟩
            refine ww_ixor (v := x_100) C dX2_plain_277 ex_100 ?_
            obtain ⟨x_101, ex_101⟩ : ∃ z : Int32, r_1 &&& x_100 = z := ⟨_, rfl⟩
            refine ww_iand (v := x_101) C dX2_plain_278 ex_101 ?_
            obtain ⟨f_102, ef_102⟩ : ∃ z : Nat → Int32, upd f1 (tt - 1) x_101 = z := ⟨_, rfl⟩
            refine ww_iast (ws' := [(qj, .inr (2, [.ref jt, .ref je, .ref ju, .ref ja])), (ju, .inl (E.2.1 1, 32, .inl f_102)), (h, .inr (4, [.int (nI n), .int (nI r), .ref a, .ref b])), (a, .inl (E.2.1 1, 24, .inl f)), (b, .inl (E.2.1 1, 96, .inl gg))]) C 1 rfl (vp_in_nI (by omega) (by omega)) (ldn2 (by omega) ef_102) rfl dX2_plain_279 ?_
            refine ww_goto (tgt := 298) C dX2_plain_280 (by decide) ?_
            obtain ⟨x_103, ex_103⟩ : ∃ z : Int32, (nI j_6) + Int32.ofInt (-1) = z := ⟨_, rfl⟩
            have zx_103 : x_103.toInt = ((j_6 : Nat) : Int) - 1 := by rw [← ex_103]; exact i_dec (c := 1) (nI_toInt (n := j_6) (by omega)) rfl (by omega) (by omega)
            refine ww_iinc (j := 6) (v := x_103) (lv' := [(5, .int x_103), (10, .int x_98), (9, .int x_96), (8, .int (nI (tt - 1))), (4, .int (nI tt)), (7, .int x_91), (6, .int 7), (3, .int r_1), (0, .ref qj), (1, .ref h), (2, .ref sa)]) C dX2_plain_298 rfl ex_103 rfl rfl ?_
            refine ww_goto (tgt := 17) C dX2_plain_301 (by decide) ?_
            exact ww_lv [0, 4, 7, 8, 9, 10] rfl (ww_sub [0, 1, 3, 4, 2] rfl rfl (ih_17 x_103 j_6 tt f_102 (by omega) (by omega) (by omega) (by omega)))
        · rw [ex_7, uN_8] at hoj_6
          refine ww_aload_n C dX2_plain_31 6 rfl rfl ?_
          refine ww_getR C hro fg_X2_77 i0 h0 rfl dX2_plain_32 ?_
          refine ww_iload C dX2_plain_35 1 rfl ?_
          obtain ⟨x_104, ex_104⟩ : ∃ z : Int32, sr j_6 = z := ⟨_, rfl⟩
          refine ww_ialdR (v := x_104) C hro i2 h2 (vp_in_nI (by omega) (by omega)) (ldn (by omega) ex_104) dX2_plain_37 ?_
          refine ww_istore (lv' := [(7, .int x_104), (6, .int 8), (5, .int (nI j_6)), (4, .int (nI tt)), (3, .int r_1), (0, .ref qj), (1, .ref h), (2, .ref sa)]) C dX2_plain_38 rfl rfl ?_
          refine ww_iload C dX2_plain_40 3 rfl ?_
          refine ww_iconst (v := 1) C dX2_plain_42 rfl ?_
          refine ww_iload C dX2_plain_43 1 rfl ?_
          refine ww_ci (wr := [(qj, .inr (2, [.ref jt, .ref je, .ref ju, .ref ja])), (ju, .inl (E.2.1 1, 32, .inl f1)), (a, .inl (E.2.1 1, 24, .inl f)), (b, .inl (E.2.1 1, 96, .inl gg)), (h, .inr (4, [.int (nI n), .int (nI r), .ref a, .ref b]))]) (k' := 0) (n' := 0) C (run_SN (As := [.int 8]) (rest := [.int 1, .int (nI tt)]) C (c_under X.2.1 E ro 8) ms_X11_under (List.mem_of_getElem? (i := 15) rfl) rfl rfl rfl rfl dX2_plain_45) (roK hro) [] [0, 1, 2, 3, 4] rfl rfl rfl rfl (fun r_105 uz hw => ?_)
          rcases hw with ⟨rfl, rfl, h_106⟩ | ⟨rfl, rfl, h_107⟩ | ⟨rfl, rfl, h_108⟩
          · exact absurd h_106 (by decide)
          · exact absurd h_107 (by decide)
          · refine ww_eq (ws' := [(qj, .inr (2, [.ref jt, .ref je, .ref ju, .ref ja])), (ju, .inl (E.2.1 1, 32, .inl f1)), (a, .inl (E.2.1 1, 24, .inl f)), (b, .inl (E.2.1 1, 96, .inl gg)), (h, .inr (4, [.int (nI n), .int (nI r), .ref a, .ref b]))]) ?_ rfl rfl rfl
            refine ww_isub (v := 0) C dX2_plain_48 (by decide) ?_
            refine ww_iadd (v := (nI tt)) C dX2_plain_49 (nI_add tt 0) ?_
            refine ww_istore (lv' := [(4, .int (nI tt)), (7, .int x_104), (6, .int 8), (5, .int (nI j_6)), (3, .int r_1), (0, .ref qj), (1, .ref h), (2, .ref sa)]) C dX2_plain_50 rfl rfl ?_
            refine ww_iload C dX2_plain_52 0 rfl ?_
            refine ww_iconst (v := 1) C dX2_plain_54 rfl ?_
            refine ww_isub (v := (nI (tt - 1))) C dX2_plain_55 (pk_sub (a := tt) (b := 1) (by omega)) ?_
            refine ww_istore (lv' := [(8, .int (nI (tt - 1))), (4, .int (nI tt)), (7, .int x_104), (6, .int 8), (5, .int (nI j_6)), (3, .int r_1), (0, .ref qj), (1, .ref h), (2, .ref sa)]) C dX2_plain_56 rfl rfl ?_
            refine ww_aload_n C dX2_plain_58 6 rfl rfl ?_
            refine ww_get C fg_X2_23 0 rfl rfl dX2_plain_59 ?_
            refine ww_iload C dX2_plain_62 0 rfl ?_
            obtain ⟨x_109, ex_109⟩ : ∃ z : Int32, f1 (tt - 1) = z := ⟨_, rfl⟩
            refine ww_iald (v := x_109) C 1 rfl (vp_in_nI (by omega) (by omega)) (ldn (by omega) ex_109) dX2_plain_64 ?_
            refine ww_istore (lv' := [(9, .int x_109), (8, .int (nI (tt - 1))), (4, .int (nI tt)), (7, .int x_104), (6, .int 8), (5, .int (nI j_6)), (3, .int r_1), (0, .ref qj), (1, .ref h), (2, .ref sa)]) C dX2_plain_65 rfl rfl ?_
            refine ww_iload_n C dX2_plain_67 6 rfl rfl ?_
            refine ww_iload C dX2_plain_68 0 rfl ?_
            refine ww_iconst (v := (-1)) C dX2_plain_70 rfl ?_
            obtain ⟨x_110, ex_110⟩ : ∃ z : Int32, x_109 ^^^ ((-1) : Int32) = z := ⟨_, rfl⟩
            refine ww_ixor (v := x_110) C dX2_plain_71 ex_110 ?_
            obtain ⟨x_111, ex_111⟩ : ∃ z : Int32, r_1 &&& x_110 = z := ⟨_, rfl⟩
            refine ww_iand (v := x_111) C dX2_plain_72 ex_111 ?_
            refine ww_istore (lv' := [(10, .int x_111), (9, .int x_109), (8, .int (nI (tt - 1))), (4, .int (nI tt)), (7, .int x_104), (6, .int 8), (5, .int (nI j_6)), (3, .int r_1), (0, .ref qj), (1, .ref h), (2, .ref sa)]) C dX2_plain_73 rfl rfl ?_
            refine ww_iload C dX2_plain_75 5 rfl ?_
            refine ww_tableOut (tgt := 283) C dX2_plain_77 (by decide) (by decide) ?_
            refine ww_aload_n C dX2_plain_283 8 rfl rfl ?_
            refine ww_get C fg_X2_23 0 rfl rfl dX2_plain_284 ?_
            refine ww_iload C dX2_plain_287 2 rfl ?_
            refine ww_aload_n C dX2_plain_289 9 rfl rfl ?_
            refine ww_iload C dX2_plain_290 4 rfl ?_
            refine ww_iload C dX2_plain_292 1 rfl ?_
            refine ww_ci (wr := [(qj, .inr (2, [.ref jt, .ref je, .ref ju, .ref ja])), (ju, .inl (E.2.1 1, 32, .inl f1))]) (k' := 0) (n' := 0) C (run_V (As := [.int x_104, .int x_109]) (rest := [.int (nI (tt - 1)), .ref ju]) C (m_togetherWithin X.2.1 E ro h x_104 x_109 n r a b f gg (by omega) (by omega)) mi_X4_togetherWithin wl_X2_91 rfl 0 4 rfl rfl rfl rfl rfl dX2_plain_294) (roK hro) [4, 2, 3] [0, 1] rfl rfl rfl rfl (fun r_112 uz hw => ?_)
            obtain rfl := hw
            refine ww_eq (ws' := [(qj, .inr (2, [.ref jt, .ref je, .ref ju, .ref ja])), (ju, .inl (E.2.1 1, 32, .inl f1)), (h, .inr (4, [.int (nI n), .int (nI r), .ref a, .ref b])), (a, .inl (E.2.1 1, 24, .inl f)), (b, .inl (E.2.1 1, 96, .inl gg))]) ?_ rfl rfl rfl
            obtain ⟨f_113, ef_113⟩ : ∃ z : Nat → Int32, upd f1 (tt - 1) r_112 = z := ⟨_, rfl⟩
            refine ww_iast (ws' := [(qj, .inr (2, [.ref jt, .ref je, .ref ju, .ref ja])), (ju, .inl (E.2.1 1, 32, .inl f_113)), (h, .inr (4, [.int (nI n), .int (nI r), .ref a, .ref b])), (a, .inl (E.2.1 1, 24, .inl f)), (b, .inl (E.2.1 1, 96, .inl gg))]) C 1 rfl (vp_in_nI (by omega) (by omega)) (ldn2 (by omega) ef_113) rfl dX2_plain_297 ?_
            obtain ⟨x_114, ex_114⟩ : ∃ z : Int32, (nI j_6) + Int32.ofInt (-1) = z := ⟨_, rfl⟩
            have zx_114 : x_114.toInt = ((j_6 : Nat) : Int) - 1 := by rw [← ex_114]; exact i_dec (c := 1) (nI_toInt (n := j_6) (by omega)) rfl (by omega) (by omega)
            refine ww_iinc (j := 6) (v := x_114) (lv' := [(5, .int x_114), (10, .int x_111), (9, .int x_109), (8, .int (nI (tt - 1))), (4, .int (nI tt)), (7, .int x_104), (6, .int 8), (3, .int r_1), (0, .ref qj), (1, .ref h), (2, .ref sa)]) C dX2_plain_298 rfl ex_114 rfl rfl ?_
            refine ww_goto (tgt := 17) C dX2_plain_301 (by decide) ?_
            exact ww_lv [0, 4, 7, 8, 9, 10] rfl (ww_sub [0, 1, 3, 4, 2] rfl rfl (ih_17 x_114 j_6 tt f_113 (by omega) (by omega) (by omega) (by omega)))
  exact ww_lv [0, 1, 2, 3, 4, 5] rfl (ww_sub [0, 1, 2, 3, 4] rfl rfl (loop_17 _ x_3 nn 0 ft (by omega) (by omega) (by have := hwf.2.2.2.2; omega) (Nat.lt_succ_self _)))
