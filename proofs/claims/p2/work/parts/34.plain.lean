theorem BS.at {f : Nat → Int32} {P : Nat → Bool} {j : Nat} {x : Int32} (e : f j = x) (h : BS (f j) P) : BS x P := by rw [← e]; exact h
theorem BS.at2 {f : Nat → Int32} {P : Nat → Bool} {j k : Nat} {x : Int32} (hk : j = k) (e : f j = x) (h : BS (f k) P) : BS x P := by subst hk; rw [← e]; exact h
theorem all_bs {n r : Nat} {f g : Nat → Int32} {x : Int32} (h : ∀ i, i < 32 → bt x i = decide (i < n)) : BS x (vAll (am n r f g)) := h
section EVS
variable {m : AM} {al x y z u v arg : Int32} {P Q : Nat → Bool}
theorem ev_0 (h : BS x (vF m arg)) : BS x (evC m 0 arg P Q) := h
theorem ev_1 (h : BS al (vAll m)) : BS al (evC m 1 arg P Q) := h
theorem ev_b {g b c : Int32} (h : BS al (vAll m)) (hg : BS g P) (e1 : g ^^^ (-1 : Int32) = b) (e2 : al &&& b = c) : BS c (vNot m P) := BS.and h (BS.not hg e1) e2
theorem ev_2 {nn : Nat} {g b c : Int32} (h : BS al (vAll m)) (hg : BS g P) (e1 : g ^^^ (-1 : Int32) = b) (e2 : al &&& b = c) : BS c (evC m 2 arg P Q) := ev_b h hg e1 e2
theorem ev_3 {g k c : Int32} (hg : BS g P) (hk : BS k Q) (e : g &&& k = c) : BS c (evC m 3 arg P Q) := BS.and hg hk e
theorem ev_4 {g k c : Int32} (hg : BS g P) (hk : BS k Q) (e : g ||| k = c) : BS c (evC m 4 arg P Q) := BS.or hg hk e
theorem ev_5 {g b c : Int32} (hw : WFm m) (h : BS al (vAll m)) (hg : BS g P) (e1 : g ^^^ (-1 : Int32) = b) (e2 : al &&& b = c) (hx : BS x (ld m arg (bt g) 1)) (hy : BS y (ld m arg (bt c) 1)) (e3 : x &&& y = z) (e4 : z ^^^ (-1 : Int32) = u) (e5 : al &&& u = v) : BS v (evC m 5 arg P Q) := by
  have h1 := BS.and h (BS.not (BS.and (ld_b hx hg) (ld_b hy (ev_b h hg e1 e2)) e3) e4) e5
  exact h1.cg (fun w _ => vwh_c hw w)
theorem ev_6 {g b c : Int32} (hw : WFm m) (h : BS al (vAll m)) (hg : BS g P) (e1 : g ^^^ (-1 : Int32) = b) (e2 : al &&& b = c) (hx : BS x (ld m arg (bt c) 1)) (e4 : x ^^^ (-1 : Int32) = u) (e5 : al &&& u = v) : BS v (evC m 6 arg P Q) := by
  have h1 := BS.and h (BS.not (ld_b hx (ev_b h hg e1 e2)) e4) e5
  exact h1.cg (fun w _ => vev_c hw w)
theorem ev_7 {g b c : Int32} (hw : WFm m) (hn : m.1 ≤ 24) (h : BS al (vAll m)) (hg : BS g P) (e1 : g ^^^ (-1 : Int32) = b) (e2 : al &&& b = c) (hx : BS x (ld m arg (bt c) 24)) (e4 : x ^^^ (-1 : Int32) = u) (e5 : al &&& u = v) : BS v (evC m 7 arg P Q) := by
  have h1 := BS.and h (BS.not (ld_b hx (ev_b h hg e1 e2)) e4) e5
  exact h1.cg (fun w _ => vcom_c hw hn w)
theorem ev_8 {g : Int32} (hg : BS g P) (hx : BS x (vTog m arg (bt g))) : BS x (evC m 8 arg P Q) := vTog_b hx hg
end EVS
theorem dX2_plain_0 : decode cX2_plain 0 = .ok (.aload_n 1, 1) := by decide +kernel
theorem dX2_plain_1 : decode cX2_plain 1 = .ok (.invokevirtual 61, 3) := by decide +kernel
theorem wl_X2_61 : Cond.methodLink RX2 61 yX4_all ∈ TB := tbm (tq3 (List.mem_of_getElem? (i := 227) (by decide +kernel))) (by decide +kernel)
theorem dX2_plain_4 : decode cX2_plain 4 = .ok (.istore_n 3, 1) := by decide +kernel
theorem dX2_plain_5 : decode cX2_plain 5 = .ok (.iconst 0, 1) := by decide +kernel
theorem dX2_plain_6 : decode cX2_plain 6 = .ok (.istore 4, 2) := by decide +kernel
theorem dX2_plain_8 : decode cX2_plain 8 = .ok (.aload_n 2, 1) := by decide +kernel
theorem dX2_plain_9 : decode cX2_plain 9 = .ok (.getfield 74, 3) := by decide +kernel
theorem uw_X8 : ∀ w ∈ u_ws RX8 TX8 7, w ∈ TB := uw_of [652, 654, 656, 658, 660, 662, 664] (by decide +kernel) (by decide +kernel)
theorem wf_X2_74 : Cond.fieldLink RX2 74 RX8 "ops" "[I" ∈ TB := tbm (tq3 (List.mem_of_getElem? (i := 155) (by decide +kernel))) (by decide +kernel)
theorem fg_X2_74 : FG RX2 74 8 0 := ⟨RX8, TX8, 7, uw_X8, wf_X2_74, rfl, by decide, rfl⟩
theorem dX2_plain_12 : decode cX2_plain 12 = .ok (.arraylength, 1) := by decide +kernel
theorem dX2_plain_13 : decode cX2_plain 13 = .ok (.iconst 1, 1) := by decide +kernel
theorem dX2_plain_14 : decode cX2_plain 14 = .ok (.isub, 1) := by decide +kernel
theorem dX2_plain_15 : decode cX2_plain 15 = .ok (.istore 5, 2) := by decide +kernel
theorem dX2_plain_17 : decode cX2_plain 17 = .ok (.iload 5, 2) := by decide +kernel
theorem dX2_plain_19 : decode cX2_plain 19 = .ok (.ifCond .lt 285, 3) := by decide +kernel
theorem dX2_plain_304 : decode cX2_plain 304 = .ok (.aload_n 0, 1) := by decide +kernel
theorem dX2_plain_305 : decode cX2_plain 305 = .ok (.getfield 23, 3) := by decide +kernel
theorem uw_X2 : ∀ w ∈ u_ws RX2 TX2 4, w ∈ TB := uw_of [220, 222, 224, 226] (by decide +kernel) (by decide +kernel)
theorem wf_X2_23 : Cond.fieldLink RX2 23 RX2 "truths" "[I" ∈ TB := tbm (tq1 (List.mem_of_getElem? (i := 218) (by decide +kernel))) (by decide +kernel)
theorem fg_X2_23 : FG RX2 23 2 2 := ⟨RX2, TX2, 4, uw_X2, wf_X2_23, rfl, by decide, rfl⟩
theorem dX2_plain_308 : decode cX2_plain 308 = .ok (.iconst 0, 1) := by decide +kernel
theorem dX2_plain_309 : decode cX2_plain 309 = .ok (.iaload, 1) := by decide +kernel
theorem dX2_plain_310 : decode cX2_plain 310 = .ok (.ireturn, 1) := by decide +kernel
theorem dX2_plain_22 : decode cX2_plain 22 = .ok (.aload_n 2, 1) := by decide +kernel
theorem dX2_plain_23 : decode cX2_plain 23 = .ok (.getfield 74, 3) := by decide +kernel
theorem dX2_plain_26 : decode cX2_plain 26 = .ok (.iload 5, 2) := by decide +kernel
theorem dX2_plain_28 : decode cX2_plain 28 = .ok (.iaload, 1) := by decide +kernel
theorem dX2_plain_29 : decode cX2_plain 29 = .ok (.istore 6, 2) := by decide +kernel
theorem dX2_plain_31 : decode cX2_plain 31 = .ok (.aload_n 2, 1) := by decide +kernel
theorem dX2_plain_32 : decode cX2_plain 32 = .ok (.getfield 77, 3) := by decide +kernel
theorem wf_X2_77 : Cond.fieldLink RX2 77 RX8 "args" "[I" ∈ TB := tbm (tq3 (List.mem_of_getElem? (i := 158) (by decide +kernel))) (by decide +kernel)
theorem fg_X2_77 : FG RX2 77 8 1 := ⟨RX8, TX8, 7, uw_X8, wf_X2_77, rfl, by decide, rfl⟩
theorem dX2_plain_35 : decode cX2_plain 35 = .ok (.iload 5, 2) := by decide +kernel
theorem dX2_plain_37 : decode cX2_plain 37 = .ok (.iaload, 1) := by decide +kernel
theorem dX2_plain_38 : decode cX2_plain 38 = .ok (.istore 7, 2) := by decide +kernel
theorem dX2_plain_40 : decode cX2_plain 40 = .ok (.iload 4, 2) := by decide +kernel
theorem dX2_plain_42 : decode cX2_plain 42 = .ok (.iconst 1, 1) := by decide +kernel
theorem dX2_plain_43 : decode cX2_plain 43 = .ok (.iload 6, 2) := by decide +kernel
theorem dX2_plain_45 : decode cX2_plain 45 = .ok (.invokestatic 80, 3) := by decide +kernel
theorem wc_X11_under : Cond.code yX11_under cX11_under 1 (some .int) ∈ TB := tbm (tq3 (List.mem_of_getElem? (i := 143) (rfl))) (by decide +kernel)
theorem wt_X11_under : Cond.static yX11_under ∈ TB := tbm (tq3 (List.mem_of_getElem? (i := 142) (by decide +kernel))) (by decide +kernel)
theorem ms_X11_under : MS yX11_under cX11_under 1 (some .int) 1 := ⟨wc_X11_under, wn_X11, ⟨by decide +kernel, by decide +kernel, by decide +kernel⟩, wt_X11_under⟩
theorem dX2_plain_48 : decode cX2_plain 48 = .ok (.isub, 1) := by decide +kernel
theorem dX2_plain_49 : decode cX2_plain 49 = .ok (.iadd, 1) := by decide +kernel
theorem dX2_plain_50 : decode cX2_plain 50 = .ok (.istore 4, 2) := by decide +kernel
theorem dX2_plain_52 : decode cX2_plain 52 = .ok (.iload 4, 2) := by decide +kernel
theorem dX2_plain_54 : decode cX2_plain 54 = .ok (.iconst 1, 1) := by decide +kernel
theorem dX2_plain_55 : decode cX2_plain 55 = .ok (.isub, 1) := by decide +kernel
theorem dX2_plain_56 : decode cX2_plain 56 = .ok (.istore 8, 2) := by decide +kernel
theorem dX2_plain_58 : decode cX2_plain 58 = .ok (.aload_n 0, 1) := by decide +kernel
theorem dX2_plain_59 : decode cX2_plain 59 = .ok (.getfield 23, 3) := by decide +kernel
theorem dX2_plain_62 : decode cX2_plain 62 = .ok (.iload 8, 2) := by decide +kernel
theorem dX2_plain_64 : decode cX2_plain 64 = .ok (.iaload, 1) := by decide +kernel
theorem dX2_plain_65 : decode cX2_plain 65 = .ok (.istore 9, 2) := by decide +kernel
theorem dX2_plain_67 : decode cX2_plain 67 = .ok (.iload_n 3, 1) := by decide +kernel
theorem dX2_plain_68 : decode cX2_plain 68 = .ok (.iload 9, 2) := by decide +kernel
theorem dX2_plain_70 : decode cX2_plain 70 = .ok (.iconst (-1), 1) := by decide +kernel
theorem dX2_plain_71 : decode cX2_plain 71 = .ok (.ixor, 1) := by decide +kernel
theorem dX2_plain_72 : decode cX2_plain 72 = .ok (.iand, 1) := by decide +kernel
theorem dX2_plain_73 : decode cX2_plain 73 = .ok (.istore 10, 2) := by decide +kernel
theorem dX2_plain_75 : decode cX2_plain 75 = .ok (.iload 6, 2) := by decide +kernel
theorem dX2_plain_77 : decode cX2_plain 77 = .ok (.tableswitch 206 0 7 #[47, 63, 74, 86, 106, 126, 159, 182], 47) := by decide +kernel
theorem dX2_plain_124 : decode cX2_plain 124 = .ok (.aload_n 0, 1) := by decide +kernel
theorem dX2_plain_125 : decode cX2_plain 125 = .ok (.getfield 23, 3) := by decide +kernel
theorem dX2_plain_128 : decode cX2_plain 128 = .ok (.iload 8, 2) := by decide +kernel
theorem dX2_plain_130 : decode cX2_plain 130 = .ok (.aload_n 1, 1) := by decide +kernel
theorem dX2_plain_131 : decode cX2_plain 131 = .ok (.iload 7, 2) := by decide +kernel
theorem dX2_plain_133 : decode cX2_plain 133 = .ok (.invokevirtual 84, 3) := by decide +kernel
theorem wl_X2_84 : Cond.methodLink RX2 84 yX4_withFact ∈ TB := tbm (tq3 (List.mem_of_getElem? (i := 229) (by decide +kernel))) (by decide +kernel)
theorem wc_X4_withFact : Cond.code yX4_withFact cX4_withFact 4 (some .int) ∈ TB := tbm (tq3 (List.mem_of_getElem? (i := 232) (rfl))) (by decide +kernel)
theorem wi_X4_withFact : Cond.instanceMethod yX4_withFact ∈ TB := tbm (tq3 (List.mem_of_getElem? (i := 230) (by decide +kernel))) (by decide +kernel)
theorem ws_X4_withFact : Cond.selects RX4 yX4_withFact yX4_withFact ∈ TB := tbm (tq3 (List.mem_of_getElem? (i := 231) (by decide +kernel))) (by decide +kernel)
theorem mi_X4_withFact : MI yX4_withFact cX4_withFact 4 (some .int) 1 := ⟨wc_X4_withFact, wn_X4, ⟨by decide +kernel, by decide +kernel, by decide +kernel⟩, wi_X4_withFact, ws_X4_withFact⟩
theorem dX2_plain_136 : decode cX2_plain 136 = .ok (.iastore, 1) := by decide +kernel
theorem dX2_plain_137 : decode cX2_plain 137 = .ok (.goto 161, 3) := by decide +kernel
theorem dX2_plain_298 : decode cX2_plain 298 = .ok (.iinc 5 (-1), 3) := by decide +kernel
theorem dX2_plain_301 : decode cX2_plain 301 = .ok (.goto (-284), 3) := by decide +kernel
theorem dX2_plain_140 : decode cX2_plain 140 = .ok (.aload_n 0, 1) := by decide +kernel
theorem dX2_plain_141 : decode cX2_plain 141 = .ok (.getfield 23, 3) := by decide +kernel
theorem dX2_plain_144 : decode cX2_plain 144 = .ok (.iload 8, 2) := by decide +kernel
theorem dX2_plain_146 : decode cX2_plain 146 = .ok (.iload_n 3, 1) := by decide +kernel
theorem dX2_plain_147 : decode cX2_plain 147 = .ok (.iastore, 1) := by decide +kernel
theorem dX2_plain_148 : decode cX2_plain 148 = .ok (.goto 150, 3) := by decide +kernel
theorem dX2_plain_151 : decode cX2_plain 151 = .ok (.aload_n 0, 1) := by decide +kernel
theorem dX2_plain_152 : decode cX2_plain 152 = .ok (.getfield 23, 3) := by decide +kernel
theorem dX2_plain_155 : decode cX2_plain 155 = .ok (.iload 8, 2) := by decide +kernel
theorem dX2_plain_157 : decode cX2_plain 157 = .ok (.iload 10, 2) := by decide +kernel
theorem dX2_plain_159 : decode cX2_plain 159 = .ok (.iastore, 1) := by decide +kernel
theorem dX2_plain_160 : decode cX2_plain 160 = .ok (.goto 138, 3) := by decide +kernel
theorem dX2_plain_163 : decode cX2_plain 163 = .ok (.aload_n 0, 1) := by decide +kernel
theorem dX2_plain_164 : decode cX2_plain 164 = .ok (.getfield 23, 3) := by decide +kernel
theorem dX2_plain_167 : decode cX2_plain 167 = .ok (.iload 8, 2) := by decide +kernel
theorem dX2_plain_169 : decode cX2_plain 169 = .ok (.iload 9, 2) := by decide +kernel
theorem dX2_plain_171 : decode cX2_plain 171 = .ok (.aload_n 0, 1) := by decide +kernel
theorem dX2_plain_172 : decode cX2_plain 172 = .ok (.getfield 23, 3) := by decide +kernel
theorem dX2_plain_175 : decode cX2_plain 175 = .ok (.iload 4, 2) := by decide +kernel
theorem dX2_plain_177 : decode cX2_plain 177 = .ok (.iaload, 1) := by decide +kernel
theorem dX2_plain_178 : decode cX2_plain 178 = .ok (.iand, 1) := by decide +kernel
theorem dX2_plain_179 : decode cX2_plain 179 = .ok (.iastore, 1) := by decide +kernel
theorem dX2_plain_180 : decode cX2_plain 180 = .ok (.goto 118, 3) := by decide +kernel
theorem dX2_plain_183 : decode cX2_plain 183 = .ok (.aload_n 0, 1) := by decide +kernel
theorem dX2_plain_184 : decode cX2_plain 184 = .ok (.getfield 23, 3) := by decide +kernel
theorem dX2_plain_187 : decode cX2_plain 187 = .ok (.iload 8, 2) := by decide +kernel
theorem dX2_plain_189 : decode cX2_plain 189 = .ok (.iload 9, 2) := by decide +kernel
theorem dX2_plain_191 : decode cX2_plain 191 = .ok (.aload_n 0, 1) := by decide +kernel
theorem dX2_plain_192 : decode cX2_plain 192 = .ok (.getfield 23, 3) := by decide +kernel
theorem dX2_plain_195 : decode cX2_plain 195 = .ok (.iload 4, 2) := by decide +kernel
theorem dX2_plain_197 : decode cX2_plain 197 = .ok (.iaload, 1) := by decide +kernel
theorem dX2_plain_198 : decode cX2_plain 198 = .ok (.ior, 1) := by decide +kernel
theorem dX2_plain_199 : decode cX2_plain 199 = .ok (.iastore, 1) := by decide +kernel
theorem dX2_plain_200 : decode cX2_plain 200 = .ok (.goto 98, 3) := by decide +kernel
theorem dX2_plain_203 : decode cX2_plain 203 = .ok (.aload_n 0, 1) := by decide +kernel
theorem dX2_plain_204 : decode cX2_plain 204 = .ok (.getfield 23, 3) := by decide +kernel
theorem dX2_plain_207 : decode cX2_plain 207 = .ok (.iload 8, 2) := by decide +kernel
theorem dX2_plain_209 : decode cX2_plain 209 = .ok (.iload_n 3, 1) := by decide +kernel
theorem dX2_plain_210 : decode cX2_plain 210 = .ok (.aload_n 1, 1) := by decide +kernel
theorem dX2_plain_211 : decode cX2_plain 211 = .ok (.iload 7, 2) := by decide +kernel
theorem dX2_plain_213 : decode cX2_plain 213 = .ok (.iload 9, 2) := by decide +kernel
theorem dX2_plain_215 : decode cX2_plain 215 = .ok (.iconst 1, 1) := by decide +kernel
theorem dX2_plain_216 : decode cX2_plain 216 = .ok (.invokevirtual 87, 3) := by decide +kernel
theorem wl_X2_87 : Cond.methodLink RX2 87 yX4_leadingTo ∈ TB := tbm (tq3 (List.mem_of_getElem? (i := 233) (by decide +kernel))) (by decide +kernel)
theorem wc_X4_leadingTo : Cond.code yX4_leadingTo cX4_leadingTo 8 (some .int) ∈ TB := tbm (tq3 (List.mem_of_getElem? (i := 236) (rfl))) (by decide +kernel)
theorem wi_X4_leadingTo : Cond.instanceMethod yX4_leadingTo ∈ TB := tbm (tq3 (List.mem_of_getElem? (i := 234) (by decide +kernel))) (by decide +kernel)
theorem ws_X4_leadingTo : Cond.selects RX4 yX4_leadingTo yX4_leadingTo ∈ TB := tbm (tq3 (List.mem_of_getElem? (i := 235) (by decide +kernel))) (by decide +kernel)
theorem mi_X4_leadingTo : MI yX4_leadingTo cX4_leadingTo 8 (some .int) 3 := ⟨wc_X4_leadingTo, wn_X4, ⟨by decide +kernel, by decide +kernel, by decide +kernel⟩, wi_X4_leadingTo, ws_X4_leadingTo⟩
theorem dX2_plain_219 : decode cX2_plain 219 = .ok (.aload_n 1, 1) := by decide +kernel
theorem dX2_plain_220 : decode cX2_plain 220 = .ok (.iload 7, 2) := by decide +kernel
theorem dX2_plain_222 : decode cX2_plain 222 = .ok (.iload 10, 2) := by decide +kernel
theorem dX2_plain_224 : decode cX2_plain 224 = .ok (.iconst 1, 1) := by decide +kernel
theorem dX2_plain_225 : decode cX2_plain 225 = .ok (.invokevirtual 87, 3) := by decide +kernel
theorem dX2_plain_228 : decode cX2_plain 228 = .ok (.iand, 1) := by decide +kernel
theorem dX2_plain_229 : decode cX2_plain 229 = .ok (.iconst (-1), 1) := by decide +kernel
theorem dX2_plain_230 : decode cX2_plain 230 = .ok (.ixor, 1) := by decide +kernel
theorem dX2_plain_231 : decode cX2_plain 231 = .ok (.iand, 1) := by decide +kernel
theorem dX2_plain_232 : decode cX2_plain 232 = .ok (.iastore, 1) := by decide +kernel
theorem dX2_plain_233 : decode cX2_plain 233 = .ok (.goto 65, 3) := by decide +kernel
theorem dX2_plain_236 : decode cX2_plain 236 = .ok (.aload_n 0, 1) := by decide +kernel
theorem dX2_plain_237 : decode cX2_plain 237 = .ok (.getfield 23, 3) := by decide +kernel
theorem dX2_plain_240 : decode cX2_plain 240 = .ok (.iload 8, 2) := by decide +kernel
theorem dX2_plain_242 : decode cX2_plain 242 = .ok (.iload_n 3, 1) := by decide +kernel
theorem dX2_plain_243 : decode cX2_plain 243 = .ok (.aload_n 1, 1) := by decide +kernel
theorem dX2_plain_244 : decode cX2_plain 244 = .ok (.iload 7, 2) := by decide +kernel
theorem dX2_plain_246 : decode cX2_plain 246 = .ok (.iload 10, 2) := by decide +kernel
theorem dX2_plain_248 : decode cX2_plain 248 = .ok (.iconst 1, 1) := by decide +kernel
theorem dX2_plain_249 : decode cX2_plain 249 = .ok (.invokevirtual 87, 3) := by decide +kernel
theorem dX2_plain_252 : decode cX2_plain 252 = .ok (.iconst (-1), 1) := by decide +kernel
theorem dX2_plain_253 : decode cX2_plain 253 = .ok (.ixor, 1) := by decide +kernel
theorem dX2_plain_254 : decode cX2_plain 254 = .ok (.iand, 1) := by decide +kernel
theorem dX2_plain_255 : decode cX2_plain 255 = .ok (.iastore, 1) := by decide +kernel
theorem dX2_plain_256 : decode cX2_plain 256 = .ok (.goto 42, 3) := by decide +kernel
theorem dX2_plain_259 : decode cX2_plain 259 = .ok (.aload_n 0, 1) := by decide +kernel
theorem dX2_plain_260 : decode cX2_plain 260 = .ok (.getfield 23, 3) := by decide +kernel
theorem dX2_plain_263 : decode cX2_plain 263 = .ok (.iload 8, 2) := by decide +kernel
theorem dX2_plain_265 : decode cX2_plain 265 = .ok (.iload_n 3, 1) := by decide +kernel
theorem dX2_plain_266 : decode cX2_plain 266 = .ok (.aload_n 1, 1) := by decide +kernel
theorem dX2_plain_267 : decode cX2_plain 267 = .ok (.iload 7, 2) := by decide +kernel
theorem dX2_plain_269 : decode cX2_plain 269 = .ok (.iload 10, 2) := by decide +kernel
theorem dX2_plain_271 : decode cX2_plain 271 = .ok (.bipush 24, 2) := by decide +kernel
theorem dX2_plain_273 : decode cX2_plain 273 = .ok (.invokevirtual 87, 3) := by decide +kernel
theorem dX2_plain_276 : decode cX2_plain 276 = .ok (.iconst (-1), 1) := by decide +kernel
theorem dX2_plain_277 : decode cX2_plain 277 = .ok (.ixor, 1) := by decide +kernel
theorem dX2_plain_278 : decode cX2_plain 278 = .ok (.iand, 1) := by decide +kernel
theorem dX2_plain_279 : decode cX2_plain 279 = .ok (.iastore, 1) := by decide +kernel
theorem dX2_plain_280 : decode cX2_plain 280 = .ok (.goto 18, 3) := by decide +kernel
theorem dX2_plain_283 : decode cX2_plain 283 = .ok (.aload_n 0, 1) := by decide +kernel
theorem dX2_plain_284 : decode cX2_plain 284 = .ok (.getfield 23, 3) := by decide +kernel
theorem dX2_plain_287 : decode cX2_plain 287 = .ok (.iload 8, 2) := by decide +kernel
theorem dX2_plain_289 : decode cX2_plain 289 = .ok (.aload_n 1, 1) := by decide +kernel
theorem dX2_plain_290 : decode cX2_plain 290 = .ok (.iload 7, 2) := by decide +kernel
theorem dX2_plain_292 : decode cX2_plain 292 = .ok (.iload 9, 2) := by decide +kernel
theorem dX2_plain_294 : decode cX2_plain 294 = .ok (.invokevirtual 91, 3) := by decide +kernel
theorem wl_X2_91 : Cond.methodLink RX2 91 yX4_togetherWithin ∈ TB := tbm (tq3 (List.mem_of_getElem? (i := 237) (by decide +kernel))) (by decide +kernel)
theorem wc_X4_togetherWithin : Cond.code yX4_togetherWithin cX4_togetherWithin 7 (some .int) ∈ TB := tbm (tq4 (List.mem_of_getElem? (i := 0) (rfl))) (by decide +kernel)
theorem wi_X4_togetherWithin : Cond.instanceMethod yX4_togetherWithin ∈ TB := tbm (tq3 (List.mem_of_getElem? (i := 238) (by decide +kernel))) (by decide +kernel)
theorem ws_X4_togetherWithin : Cond.selects RX4 yX4_togetherWithin yX4_togetherWithin ∈ TB := tbm (tq3 (List.mem_of_getElem? (i := 239) (by decide +kernel))) (by decide +kernel)
theorem mi_X4_togetherWithin : MI yX4_togetherWithin cX4_togetherWithin 7 (some .int) 2 := ⟨wc_X4_togetherWithin, wn_X4, ⟨by decide +kernel, by decide +kernel, by decide +kernel⟩, wi_X4_togetherWithin, ws_X4_togetherWithin⟩
theorem dX2_plain_297 : decode cX2_plain 297 = .ok (.iastore, 1) := by decide +kernel
set_option maxRecDepth 100000 in
set_option maxHeartbeats 4000000 in
theorem j_plain (l : Launch) (E : EV) (ro : va_W) (qj : Nat) (h : Nat) (sa : Nat) (jt : Nat) (je : Nat) (ju : Nat) (ja : Nat) (ft : Nat → Int32) (n : Nat) (r : Nat) (a : Nat) (b : Nat) (f : Nat → Int32) (gg : Nat → Int32) (SS : SVal) (hn : n ≤ 24) (hr : r < n ∨ r = 0) (hsa : SYv E ro sa SS) (hwfm : WFm (am n r f gg)) : CT l yX2_plain (Cond.code yX2_plain cX2_plain 11 (some .int) :: TB) ({ frames := 2, cells := 0, slots := 0, locals := 51 }) E ro [.ref qj, .ref h, .ref sa] [(qj, .inr (2, [.ref jt, .ref je, .ref ju, .ref ja])), (ju, .inl (E.2.1 1, 32, .inl ft)), (h, .inr (4, [.int (nI n), .int (nI r), .ref a, .ref b])), (a, .inl (E.2.1 1, 24, .inl f)), (b, .inl (E.2.1 1, 96, .inl gg))] (Qi E (fun (rz : Int32) uz => (∃ (ft2 : Nat → Int32), uz = [(qj, .inr (2, [.ref jt, .ref je, .ref ju, .ref ja])), (ju, .inl (E.2.1 1, 32, .inl ft2)), (h, .inr (4, [.int (nI n), .int (nI r), .ref a, .ref b])), (a, .inl (E.2.1 1, 24, .inl f)), (b, .inl (E.2.1 1, 96, .inl gg))] ∧ (BS rz (vPl (am n r f gg) SS.1 SS.2.1 SS.2.2.1))))) 0 0 := by
  refine ct_of rfl rfl ?_
  intro X C hT hin hro
  show WW X 11 E 0 [(0, .ref qj), (1, .ref h), (2, .ref sa)] [] [(qj, .inr (2, [.ref jt, .ref je, .ref ju, .ref ja])), (ju, .inl (E.2.1 1, 32, .inl ft)), (h, .inr (4, [.int (nI n), .int (nI r), .ref a, .ref b])), (a, .inl (E.2.1 1, 24, .inl f)), (b, .inl (E.2.1 1, 96, .inl gg))] 0 0
  obtain ⟨nn, so, sr, sf, tk, dp, nm, na⟩ := SS
  obtain ⟨i0, i1, i2, i3, sx, sy, sz, h0, h1, h2, h3, hwf, hna, haf⟩ := id hsa
  have h0 : ro[i0]? = some (sa, .inr (8, [.ref sx, .ref sy, .int (nI tk), .int (nI na), .ref sz, .int dp, .int nm])) := h0
  have h1 : ro[i1]? = some (sx, .inl (E.2.1 1, nn, .inl so)) := h1
  have h2 : ro[i2]? = some (sy, .inl (E.2.1 1, nn, .inl sr)) := h2
  have h3 : ro[i3]? = some (sz, .inl (E.2.1 1, 2, .inl sf)) := h3
  have hwf : WFs nn so := hwf
  have hna : na ≤ 2 := hna
  have haf : ∀ k, k < na → ∃ j : Nat, j < 4 ∧ sf k = nI j := haf
  have hwn : 1 ≤ nn ∧ nn ≤ 32 := ⟨hwf.1, hwf.2.1⟩
  refine ww_aload_n C dX2_plain_0 1 rfl rfl ?_
  refine ww_ci (wr := [(qj, .inr (2, [.ref jt, .ref je, .ref ju, .ref ja])), (ju, .inl (E.2.1 1, 32, .inl ft)), (a, .inl (E.2.1 1, 24, .inl f)), (b, .inl (E.2.1 1, 96, .inl gg))]) (k' := 0) (n' := 0) C (run_V (As := []) (rest := []) C (m_all X.2.1 E ro h n r a b (by omega)) mi_X4_all wl_X2_61 rfl 0 4 rfl rfl rfl rfl rfl dX2_plain_1) (roK hro) [2] [0, 1, 3, 4] rfl rfl rfl rfl (fun r_1 uz hw => ?_)
  refine an1 hw ?_
  clear hw
  intro he_3 hw
  have h_2 := hw
  clear hw
  subst he_3
  refine ww_eq (ws' := [(qj, .inr (2, [.ref jt, .ref je, .ref ju, .ref ja])), (ju, .inl (E.2.1 1, 32, .inl ft)), (a, .inl (E.2.1 1, 24, .inl f)), (b, .inl (E.2.1 1, 96, .inl gg)), (h, .inr (4, [.int (nI n), .int (nI r), .ref a, .ref b]))]) ?_ rfl rfl rfl
  refine ww_istore_n (lv' := [(3, .int r_1), (0, .ref qj), (1, .ref h), (2, .ref sa)]) C dX2_plain_4 rfl rfl rfl ?_
  refine ww_iconst (v := 0) C dX2_plain_5 rfl ?_
  refine ww_istore (lv' := [(4, .int 0), (3, .int r_1), (0, .ref qj), (1, .ref h), (2, .ref sa)]) C dX2_plain_6 rfl rfl ?_
  refine ww_aload_n C dX2_plain_8 4 rfl rfl ?_
  refine ww_getR C hro fg_X2_74 i0 h0 rfl dX2_plain_9 ?_
  refine ww_alenR (v := (nI nn)) (t0 := 1) C hro i1 h1 rfl rfl dX2_plain_12 ?_
  refine ww_iconst (v := 1) C dX2_plain_13 rfl ?_
  obtain ⟨x_4, ex_4⟩ : ∃ z : Int32, (nI nn) - (1 : Int32) = z := ⟨_, rfl⟩
  have zx_4 : x_4.toInt = ((nn : Nat) : Int) - 1 := by rw [← ex_4]; exact i_sub (nI_toInt (n := nn) (by omega)) rfl (by omega) (by omega)
  refine ww_isub (v := x_4) C dX2_plain_14 ex_4 ?_
  refine ww_istore (lv' := [(5, .int x_4), (4, .int 0), (3, .int r_1), (0, .ref qj), (1, .ref h), (2, .ref sa)]) C dX2_plain_15 rfl rfl ?_
  have hal := all_bs (r := r) (f := f) (g := gg) h_2
  have loop_17 : ∀ (fu : Nat) (xi : Int32) (ii : Nat) (tt : Nat) (f1 : Nat → Int32), (xi.toInt = (ii : Int) - 1) → (ii ≤ nn) → ((tt : Int) = opn so ii) → (∀ j : Nat, (j : Int) < opn so ii → BS (f1 j) (vSt (am n r f gg) nn so sr (nn - ii) j)) → ii < fu → WW X 11 E 17 [(5, .int xi), (4, .int (nI tt)), (3, .int r_1), (0, .ref qj), (1, .ref h), (2, .ref sa)] [] [(qj, .inr (2, [.ref jt, .ref je, .ref ju, .ref ja])), (ju, .inl (E.2.1 1, 32, .inl f1)), (a, .inl (E.2.1 1, 24, .inl f)), (b, .inl (E.2.1 1, 96, .inl gg)), (h, .inr (4, [.int (nI n), .int (nI r), .ref a, .ref b]))] 0 0 := by
    intro fu
    induction fu with
    | zero => intro xi ii tt f1 hxi hii htt hst hmeas; exact absurd hmeas (Nat.not_lt_zero _)
    | succ fu ih_17 =>
      intro xi ii tt f1 hxi hii htt hst hmeas
      refine ww_iload C dX2_plain_17 0 rfl ?_
      refine ww_if_lt (tgt := 304) C dX2_plain_19 (by decide) (fun c_5 => ?_) (fun c_5 => ?_)
      · have zc_5 : ((ii : Int) - 1) < 0 := i_lt hxi rfl c_5
        refine ww_aload_n C dX2_plain_304 3 rfl rfl ?_
        refine ww_get C fg_X2_23 0 rfl rfl dX2_plain_305 ?_
        refine ww_iconst (v := 0) C dX2_plain_308 rfl ?_
        obtain ⟨x_6, ex_6⟩ : ∃ z : Int32, f1 0 = z := ⟨_, rfl⟩
        refine ww_iald (v := x_6) C 1 rfl (vin rfl) ex_6 dX2_plain_309 ?_
        exact ww_iret (u := [(qj, .inr (2, [.ref jt, .ref je, .ref ju, .ref ja])), (ju, .inl (E.2.1 1, 32, .inl f1)), (h, .inr (4, [.int (nI n), .int (nI r), .ref a, .ref b])), (a, .inl (E.2.1 1, 24, .inl f)), (b, .inl (E.2.1 1, 96, .inl gg))]) C hT [0, 1, 4, 2, 3] rfl rfl rfl rfl dX2_plain_310 (⟨f1, rfl, (by have h9 : ii = 0 := (by omega); rw [h9] at hst; exact BS.at ex_6 (hst 0 (by show ((0 : Nat) : Int) < 1; decide)))⟩)
      · have zc_5 : ((ii : Int) - 1) ≥ 0 := i_nlt hxi rfl c_5
        obtain ⟨j_7, hj_7, rfl⟩ := i_nat (x := xi) (N := 31) (by omega) (by omega)
        have hzj_7 := nI_toInt (n := j_7) (by omega)
        refine ww_aload_n C dX2_plain_22 5 rfl rfl ?_
        refine ww_getR C hro fg_X2_74 i0 h0 rfl dX2_plain_23 ?_
        refine ww_iload C dX2_plain_26 0 rfl ?_
        obtain ⟨x_8, ex_8⟩ : ∃ z : Int32, so j_7 = z := ⟨_, rfl⟩
        refine ww_ialdR (v := x_8) C hro i1 h1 (vp_in_nI (by omega) (by omega)) (ldn (by omega) ex_8) dX2_plain_28 ?_
        refine ww_istore (lv' := [(6, .int x_8), (5, .int (nI j_7)), (4, .int (nI tt)), (3, .int r_1), (0, .ref qj), (1, .ref h), (2, .ref sa)]) C dX2_plain_29 rfl rfl ?_
        have hbj_7 := hwf.2.2.1 j_7 (by omega)
        rw [ex_8] at hbj_7
        have hoj_7 := opn_s so j_7
        have h1j_7 := hwf.2.2.2.1 j_7 (by omega)
        have h2j_7 := opn_le hwf (i := j_7 + 1) (by omega)
        have h3j_7 := opn_le hwf (i := j_7) (by omega)
        have h4j_7 : ii = j_7 + 1 := by omega
        rw [h4j_7] at htt hst
        rcases sp_0_8 (x := x_8) (by omega) (by omega) with rfl | rfl | rfl | rfl | rfl | rfl | rfl | rfl | rfl
        · rw [ex_8, uN_0] at hoj_7
          refine ww_aload_n C dX2_plain_31 6 rfl rfl ?_
          refine ww_getR C hro fg_X2_77 i0 h0 rfl dX2_plain_32 ?_
          refine ww_iload C dX2_plain_35 1 rfl ?_
          obtain ⟨x_9, ex_9⟩ : ∃ z : Int32, sr j_7 = z := ⟨_, rfl⟩
          refine ww_ialdR (v := x_9) C hro i2 h2 (vp_in_nI (by omega) (by omega)) (ldn (by omega) ex_9) dX2_plain_37 ?_
          refine ww_istore (lv' := [(7, .int x_9), (6, .int 0), (5, .int (nI j_7)), (4, .int (nI tt)), (3, .int r_1), (0, .ref qj), (1, .ref h), (2, .ref sa)]) C dX2_plain_38 rfl rfl ?_
          refine ww_iload C dX2_plain_40 3 rfl ?_
          refine ww_iconst (v := 1) C dX2_plain_42 rfl ?_
          refine ww_iload C dX2_plain_43 1 rfl ?_
          refine ww_ci (wr := [(qj, .inr (2, [.ref jt, .ref je, .ref ju, .ref ja])), (ju, .inl (E.2.1 1, 32, .inl f1)), (a, .inl (E.2.1 1, 24, .inl f)), (b, .inl (E.2.1 1, 96, .inl gg)), (h, .inr (4, [.int (nI n), .int (nI r), .ref a, .ref b]))]) (k' := 0) (n' := 0) C (run_SN (As := [.int 0]) (rest := [.int 1, .int (nI tt)]) C (c_under X.2.1 E ro 0) ms_X11_under (List.mem_of_getElem? (i := 15) rfl) rfl rfl rfl rfl dX2_plain_45) (roK hro) [] [0, 1, 2, 3, 4] rfl rfl rfl rfl (fun r_10 uz hw => ?_)
          rcases hw with hw | hw | hw
          · refine an2 hw ?_
            clear hw
            intro he_12 he_13 hw
            have h_11 := hw
            clear hw
            have he_12 := he_12.symm
            subst he_12
            subst he_13
            refine ww_eq (ws' := [(qj, .inr (2, [.ref jt, .ref je, .ref ju, .ref ja])), (ju, .inl (E.2.1 1, 32, .inl f1)), (a, .inl (E.2.1 1, 24, .inl f)), (b, .inl (E.2.1 1, 96, .inl gg)), (h, .inr (4, [.int (nI n), .int (nI r), .ref a, .ref b]))]) ?_ rfl rfl rfl
            refine ww_isub (v := 1) C dX2_plain_48 (by decide) ?_
            refine ww_iadd (v := (nI (tt + 1))) C dX2_plain_49 (nI_add tt 1) ?_
            refine ww_istore (lv' := [(4, .int (nI (tt + 1))), (7, .int x_9), (6, .int 0), (5, .int (nI j_7)), (3, .int r_1), (0, .ref qj), (1, .ref h), (2, .ref sa)]) C dX2_plain_50 rfl rfl ?_
            refine ww_iload C dX2_plain_52 0 rfl ?_
            refine ww_iconst (v := 1) C dX2_plain_54 rfl ?_
            refine ww_isub (v := (nI ((tt + 1) - 1))) C dX2_plain_55 (pk_sub (a := (tt + 1)) (b := 1) (by omega)) ?_
            refine ww_istore (lv' := [(8, .int (nI ((tt + 1) - 1))), (4, .int (nI (tt + 1))), (7, .int x_9), (6, .int 0), (5, .int (nI j_7)), (3, .int r_1), (0, .ref qj), (1, .ref h), (2, .ref sa)]) C dX2_plain_56 rfl rfl ?_
            refine ww_aload_n C dX2_plain_58 6 rfl rfl ?_
            refine ww_get C fg_X2_23 0 rfl rfl dX2_plain_59 ?_
            refine ww_iload C dX2_plain_62 0 rfl ?_
            obtain ⟨x_20, ex_20⟩ : ∃ z : Int32, f1 ((tt + 1) - 1) = z := ⟨_, rfl⟩
            refine ww_iald (v := x_20) C 1 rfl (vp_in_nI (by omega) (by omega)) (ldn (by omega) ex_20) dX2_plain_64 ?_
            refine ww_istore (lv' := [(9, .int x_20), (8, .int (nI ((tt + 1) - 1))), (4, .int (nI (tt + 1))), (7, .int x_9), (6, .int 0), (5, .int (nI j_7)), (3, .int r_1), (0, .ref qj), (1, .ref h), (2, .ref sa)]) C dX2_plain_65 rfl rfl ?_
            refine ww_iload_n C dX2_plain_67 6 rfl rfl ?_
            refine ww_iload C dX2_plain_68 0 rfl ?_
            refine ww_iconst (v := (-1)) C dX2_plain_70 rfl ?_
            obtain ⟨x_21, ex_21⟩ : ∃ z : Int32, x_20 ^^^ ((-1) : Int32) = z := ⟨_, rfl⟩
            refine ww_ixor (v := x_21) C dX2_plain_71 ex_21 ?_
            obtain ⟨x_22, ex_22⟩ : ∃ z : Int32, r_1 &&& x_21 = z := ⟨_, rfl⟩
            refine ww_iand (v := x_22) C dX2_plain_72 ex_22 ?_
            refine ww_istore (lv' := [(10, .int x_22), (9, .int x_20), (8, .int (nI ((tt + 1) - 1))), (4, .int (nI (tt + 1))), (7, .int x_9), (6, .int 0), (5, .int (nI j_7)), (3, .int r_1), (0, .ref qj), (1, .ref h), (2, .ref sa)]) C dX2_plain_73 rfl rfl ?_
            refine ww_iload C dX2_plain_75 5 rfl ?_
            refine ww_tableIn (tgt := 124) C dX2_plain_77 (by decide) (by decide) rfl (by decide) ?_
            refine ww_aload_n C dX2_plain_124 8 rfl rfl ?_
            refine ww_get C fg_X2_23 0 rfl rfl dX2_plain_125 ?_
            refine ww_iload C dX2_plain_128 2 rfl ?_
            refine ww_aload_n C dX2_plain_130 9 rfl rfl ?_
            refine ww_iload C dX2_plain_131 4 rfl ?_
            refine ww_ci (wr := [(qj, .inr (2, [.ref jt, .ref je, .ref ju, .ref ja])), (ju, .inl (E.2.1 1, 32, .inl f1))]) (k' := 0) (n' := 0) C (run_V (As := [.int x_9]) (rest := [.int (nI ((tt + 1) - 1)), .ref ju]) C (m_withFact X.2.1 E ro h x_9 n r a b f gg (by omega) (by omega)) mi_X4_withFact wl_X2_84 rfl 0 4 rfl rfl rfl rfl rfl dX2_plain_133) (roK hro) [4, 2, 3] [0, 1] rfl rfl rfl rfl (fun r_23 uz hw => ?_)
            refine an1 hw ?_
            clear hw
            intro he_25 hw
            have h_24 := hw
            clear hw
            subst he_25
            refine ww_eq (ws' := [(qj, .inr (2, [.ref jt, .ref je, .ref ju, .ref ja])), (ju, .inl (E.2.1 1, 32, .inl f1)), (h, .inr (4, [.int (nI n), .int (nI r), .ref a, .ref b])), (a, .inl (E.2.1 1, 24, .inl f)), (b, .inl (E.2.1 1, 96, .inl gg))]) ?_ rfl rfl rfl
            obtain ⟨f_26, ef_26⟩ : ∃ z : Nat → Int32, upd f1 ((tt + 1) - 1) r_23 = z := ⟨_, rfl⟩
            refine ww_iast (ws' := [(qj, .inr (2, [.ref jt, .ref je, .ref ju, .ref ja])), (ju, .inl (E.2.1 1, 32, .inl f_26)), (h, .inr (4, [.int (nI n), .int (nI r), .ref a, .ref b])), (a, .inl (E.2.1 1, 24, .inl f)), (b, .inl (E.2.1 1, 96, .inl gg))]) C 1 rfl (vp_in_nI (by omega) (by omega)) (ldn2 (by omega) ef_26) rfl dX2_plain_136 ?_
            refine ww_goto (tgt := 298) C dX2_plain_137 (by decide) ?_
            obtain ⟨x_27, ex_27⟩ : ∃ z : Int32, (nI j_7) + Int32.ofInt (-1) = z := ⟨_, rfl⟩
            have zx_27 : x_27.toInt = ((j_7 : Nat) : Int) - 1 := by rw [← ex_27]; exact i_dec (c := 1) (nI_toInt (n := j_7) (by omega)) rfl (by omega) (by omega)
            refine ww_iinc (j := 6) (v := x_27) (lv' := [(5, .int x_27), (10, .int x_22), (9, .int x_20), (8, .int (nI ((tt + 1) - 1))), (4, .int (nI (tt + 1))), (7, .int x_9), (6, .int 0), (3, .int r_1), (0, .ref qj), (1, .ref h), (2, .ref sa)]) C dX2_plain_298 rfl ex_27 rfl rfl ?_
            refine ww_goto (tgt := 17) C dX2_plain_301 (by decide) ?_
            exact ww_lv [0, 4, 7, 8, 9, 10] rfl (ww_sub [0, 1, 3, 4, 2] rfl rfl (ih_17 x_27 j_7 (tt + 1) f_26 (by omega) (by omega) (by omega) (st_s (l := ((tt + 1) - 1)) hst (by omega) (by omega) (by rw [show so j_7 = 0 from ex_8, show sr j_7 = x_9 from ex_9]; exact (ev_0 h_24)) ef_26) (by omega)))
          · refine an2 hw ?_
            clear hw
            intro he_15 he_16 hw
            have h_14 := hw
            clear hw
            have he_15 := he_15.symm
            subst he_15
            subst he_16
            exact absurd h_14 (by decide)
          · refine an2 hw ?_
            clear hw
            intro he_18 he_19 hw
            have h_17 := hw
            clear hw
            have he_18 := he_18.symm
            subst he_18
            subst he_19
            exact absurd h_17 (by decide)
        · rw [ex_8, uN_1] at hoj_7
          refine ww_aload_n C dX2_plain_31 6 rfl rfl ?_
          refine ww_getR C hro fg_X2_77 i0 h0 rfl dX2_plain_32 ?_
          refine ww_iload C dX2_plain_35 1 rfl ?_
          obtain ⟨x_28, ex_28⟩ : ∃ z : Int32, sr j_7 = z := ⟨_, rfl⟩
          refine ww_ialdR (v := x_28) C hro i2 h2 (vp_in_nI (by omega) (by omega)) (ldn (by omega) ex_28) dX2_plain_37 ?_
          refine ww_istore (lv' := [(7, .int x_28), (6, .int 1), (5, .int (nI j_7)), (4, .int (nI tt)), (3, .int r_1), (0, .ref qj), (1, .ref h), (2, .ref sa)]) C dX2_plain_38 rfl rfl ?_
          refine ww_iload C dX2_plain_40 3 rfl ?_
          refine ww_iconst (v := 1) C dX2_plain_42 rfl ?_
          refine ww_iload C dX2_plain_43 1 rfl ?_
          refine ww_ci (wr := [(qj, .inr (2, [.ref jt, .ref je, .ref ju, .ref ja])), (ju, .inl (E.2.1 1, 32, .inl f1)), (a, .inl (E.2.1 1, 24, .inl f)), (b, .inl (E.2.1 1, 96, .inl gg)), (h, .inr (4, [.int (nI n), .int (nI r), .ref a, .ref b]))]) (k' := 0) (n' := 0) C (run_SN (As := [.int 1]) (rest := [.int 1, .int (nI tt)]) C (c_under X.2.1 E ro 1) ms_X11_under (List.mem_of_getElem? (i := 15) rfl) rfl rfl rfl rfl dX2_plain_45) (roK hro) [] [0, 1, 2, 3, 4] rfl rfl rfl rfl (fun r_29 uz hw => ?_)
          rcases hw with hw | hw | hw
          · refine an2 hw ?_
            clear hw
            intro he_31 he_32 hw
            have h_30 := hw
            clear hw
            have he_31 := he_31.symm
            subst he_31
            subst he_32
            refine ww_eq (ws' := [(qj, .inr (2, [.ref jt, .ref je, .ref ju, .ref ja])), (ju, .inl (E.2.1 1, 32, .inl f1)), (a, .inl (E.2.1 1, 24, .inl f)), (b, .inl (E.2.1 1, 96, .inl gg)), (h, .inr (4, [.int (nI n), .int (nI r), .ref a, .ref b]))]) ?_ rfl rfl rfl
            refine ww_isub (v := 1) C dX2_plain_48 (by decide) ?_
            refine ww_iadd (v := (nI (tt + 1))) C dX2_plain_49 (nI_add tt 1) ?_
            refine ww_istore (lv' := [(4, .int (nI (tt + 1))), (7, .int x_28), (6, .int 1), (5, .int (nI j_7)), (3, .int r_1), (0, .ref qj), (1, .ref h), (2, .ref sa)]) C dX2_plain_50 rfl rfl ?_
            refine ww_iload C dX2_plain_52 0 rfl ?_
            refine ww_iconst (v := 1) C dX2_plain_54 rfl ?_
            refine ww_isub (v := (nI ((tt + 1) - 1))) C dX2_plain_55 (pk_sub (a := (tt + 1)) (b := 1) (by omega)) ?_
            refine ww_istore (lv' := [(8, .int (nI ((tt + 1) - 1))), (4, .int (nI (tt + 1))), (7, .int x_28), (6, .int 1), (5, .int (nI j_7)), (3, .int r_1), (0, .ref qj), (1, .ref h), (2, .ref sa)]) C dX2_plain_56 rfl rfl ?_
            refine ww_aload_n C dX2_plain_58 6 rfl rfl ?_
            refine ww_get C fg_X2_23 0 rfl rfl dX2_plain_59 ?_
            refine ww_iload C dX2_plain_62 0 rfl ?_
            obtain ⟨x_39, ex_39⟩ : ∃ z : Int32, f1 ((tt + 1) - 1) = z := ⟨_, rfl⟩
            refine ww_iald (v := x_39) C 1 rfl (vp_in_nI (by omega) (by omega)) (ldn (by omega) ex_39) dX2_plain_64 ?_
            refine ww_istore (lv' := [(9, .int x_39), (8, .int (nI ((tt + 1) - 1))), (4, .int (nI (tt + 1))), (7, .int x_28), (6, .int 1), (5, .int (nI j_7)), (3, .int r_1), (0, .ref qj), (1, .ref h), (2, .ref sa)]) C dX2_plain_65 rfl rfl ?_
            refine ww_iload_n C dX2_plain_67 6 rfl rfl ?_
            refine ww_iload C dX2_plain_68 0 rfl ?_
            refine ww_iconst (v := (-1)) C dX2_plain_70 rfl ?_
            obtain ⟨x_40, ex_40⟩ : ∃ z : Int32, x_39 ^^^ ((-1) : Int32) = z := ⟨_, rfl⟩
            refine ww_ixor (v := x_40) C dX2_plain_71 ex_40 ?_
            obtain ⟨x_41, ex_41⟩ : ∃ z : Int32, r_1 &&& x_40 = z := ⟨_, rfl⟩
            refine ww_iand (v := x_41) C dX2_plain_72 ex_41 ?_
            refine ww_istore (lv' := [(10, .int x_41), (9, .int x_39), (8, .int (nI ((tt + 1) - 1))), (4, .int (nI (tt + 1))), (7, .int x_28), (6, .int 1), (5, .int (nI j_7)), (3, .int r_1), (0, .ref qj), (1, .ref h), (2, .ref sa)]) C dX2_plain_73 rfl rfl ?_
            refine ww_iload C dX2_plain_75 5 rfl ?_
            refine ww_tableIn (tgt := 140) C dX2_plain_77 (by decide) (by decide) rfl (by decide) ?_
            refine ww_aload_n C dX2_plain_140 8 rfl rfl ?_
            refine ww_get C fg_X2_23 0 rfl rfl dX2_plain_141 ?_
            refine ww_iload C dX2_plain_144 2 rfl ?_
            refine ww_iload_n C dX2_plain_146 7 rfl rfl ?_
            obtain ⟨f_42, ef_42⟩ : ∃ z : Nat → Int32, upd f1 ((tt + 1) - 1) r_1 = z := ⟨_, rfl⟩
            refine ww_iast (ws' := [(qj, .inr (2, [.ref jt, .ref je, .ref ju, .ref ja])), (ju, .inl (E.2.1 1, 32, .inl f_42)), (a, .inl (E.2.1 1, 24, .inl f)), (b, .inl (E.2.1 1, 96, .inl gg)), (h, .inr (4, [.int (nI n), .int (nI r), .ref a, .ref b]))]) C 1 rfl (vp_in_nI (by omega) (by omega)) (ldn2 (by omega) ef_42) rfl dX2_plain_147 ?_
            refine ww_goto (tgt := 298) C dX2_plain_148 (by decide) ?_
            obtain ⟨x_43, ex_43⟩ : ∃ z : Int32, (nI j_7) + Int32.ofInt (-1) = z := ⟨_, rfl⟩
            have zx_43 : x_43.toInt = ((j_7 : Nat) : Int) - 1 := by rw [← ex_43]; exact i_dec (c := 1) (nI_toInt (n := j_7) (by omega)) rfl (by omega) (by omega)
            refine ww_iinc (j := 6) (v := x_43) (lv' := [(5, .int x_43), (10, .int x_41), (9, .int x_39), (8, .int (nI ((tt + 1) - 1))), (4, .int (nI (tt + 1))), (7, .int x_28), (6, .int 1), (3, .int r_1), (0, .ref qj), (1, .ref h), (2, .ref sa)]) C dX2_plain_298 rfl ex_43 rfl rfl ?_
            refine ww_goto (tgt := 17) C dX2_plain_301 (by decide) ?_
            exact ww_lv [0, 4, 7, 8, 9, 10] rfl (ww_sub [0, 1, 2, 3, 4] rfl rfl (ih_17 x_43 j_7 (tt + 1) f_42 (by omega) (by omega) (by omega) (st_s (l := ((tt + 1) - 1)) hst (by omega) (by omega) (by rw [show so j_7 = 1 from ex_8, show sr j_7 = x_28 from ex_28]; exact (ev_1 hal)) ef_42) (by omega)))
          · refine an2 hw ?_
            clear hw
            intro he_34 he_35 hw
            have h_33 := hw
            clear hw
            have he_34 := he_34.symm
            subst he_34
            subst he_35
            exact absurd h_33 (by decide)
          · refine an2 hw ?_
            clear hw
            intro he_37 he_38 hw
            have h_36 := hw
            clear hw
            have he_37 := he_37.symm
            subst he_37
            subst he_38
            exact absurd h_36 (by decide)
        · rw [ex_8, uN_2] at hoj_7
          refine ww_aload_n C dX2_plain_31 6 rfl rfl ?_
          refine ww_getR C hro fg_X2_77 i0 h0 rfl dX2_plain_32 ?_
          refine ww_iload C dX2_plain_35 1 rfl ?_
          obtain ⟨x_44, ex_44⟩ : ∃ z : Int32, sr j_7 = z := ⟨_, rfl⟩
          refine ww_ialdR (v := x_44) C hro i2 h2 (vp_in_nI (by omega) (by omega)) (ldn (by omega) ex_44) dX2_plain_37 ?_
          refine ww_istore (lv' := [(7, .int x_44), (6, .int 2), (5, .int (nI j_7)), (4, .int (nI tt)), (3, .int r_1), (0, .ref qj), (1, .ref h), (2, .ref sa)]) C dX2_plain_38 rfl rfl ?_
          refine ww_iload C dX2_plain_40 3 rfl ?_
          refine ww_iconst (v := 1) C dX2_plain_42 rfl ?_
          refine ww_iload C dX2_plain_43 1 rfl ?_
          refine ww_ci (wr := [(qj, .inr (2, [.ref jt, .ref je, .ref ju, .ref ja])), (ju, .inl (E.2.1 1, 32, .inl f1)), (a, .inl (E.2.1 1, 24, .inl f)), (b, .inl (E.2.1 1, 96, .inl gg)), (h, .inr (4, [.int (nI n), .int (nI r), .ref a, .ref b]))]) (k' := 0) (n' := 0) C (run_SN (As := [.int 2]) (rest := [.int 1, .int (nI tt)]) C (c_under X.2.1 E ro 2) ms_X11_under (List.mem_of_getElem? (i := 15) rfl) rfl rfl rfl rfl dX2_plain_45) (roK hro) [] [0, 1, 2, 3, 4] rfl rfl rfl rfl (fun r_45 uz hw => ?_)
          rcases hw with hw | hw | hw
          · refine an2 hw ?_
            clear hw
            intro he_47 he_48 hw
            have h_46 := hw
            clear hw
            have he_47 := he_47.symm
            subst he_47
            subst he_48
            exact absurd h_46 (by decide)
          · refine an2 hw ?_
            clear hw
            intro he_50 he_51 hw
            have h_49 := hw
            clear hw
            have he_50 := he_50.symm
            subst he_50
            subst he_51
            exact absurd h_49 (by decide)
          · refine an2 hw ?_
            clear hw
            intro he_53 he_54 hw
            have h_52 := hw
            clear hw
            have he_53 := he_53.symm
            subst he_53
            subst he_54
            refine ww_eq (ws' := [(qj, .inr (2, [.ref jt, .ref je, .ref ju, .ref ja])), (ju, .inl (E.2.1 1, 32, .inl f1)), (a, .inl (E.2.1 1, 24, .inl f)), (b, .inl (E.2.1 1, 96, .inl gg)), (h, .inr (4, [.int (nI n), .int (nI r), .ref a, .ref b]))]) ?_ rfl rfl rfl
            refine ww_isub (v := 0) C dX2_plain_48 (by decide) ?_
            refine ww_iadd (v := (nI tt)) C dX2_plain_49 (nI_add tt 0) ?_
            refine ww_istore (lv' := [(4, .int (nI tt)), (7, .int x_44), (6, .int 2), (5, .int (nI j_7)), (3, .int r_1), (0, .ref qj), (1, .ref h), (2, .ref sa)]) C dX2_plain_50 rfl rfl ?_
            refine ww_iload C dX2_plain_52 0 rfl ?_
            refine ww_iconst (v := 1) C dX2_plain_54 rfl ?_
            refine ww_isub (v := (nI (tt - 1))) C dX2_plain_55 (pk_sub (a := tt) (b := 1) (by omega)) ?_
            refine ww_istore (lv' := [(8, .int (nI (tt - 1))), (4, .int (nI tt)), (7, .int x_44), (6, .int 2), (5, .int (nI j_7)), (3, .int r_1), (0, .ref qj), (1, .ref h), (2, .ref sa)]) C dX2_plain_56 rfl rfl ?_
            refine ww_aload_n C dX2_plain_58 6 rfl rfl ?_
            refine ww_get C fg_X2_23 0 rfl rfl dX2_plain_59 ?_
            refine ww_iload C dX2_plain_62 0 rfl ?_
            obtain ⟨x_55, ex_55⟩ : ∃ z : Int32, f1 (tt - 1) = z := ⟨_, rfl⟩
            refine ww_iald (v := x_55) C 1 rfl (vp_in_nI (by omega) (by omega)) (ldn (by omega) ex_55) dX2_plain_64 ?_
            refine ww_istore (lv' := [(9, .int x_55), (8, .int (nI (tt - 1))), (4, .int (nI tt)), (7, .int x_44), (6, .int 2), (5, .int (nI j_7)), (3, .int r_1), (0, .ref qj), (1, .ref h), (2, .ref sa)]) C dX2_plain_65 rfl rfl ?_
            refine ww_iload_n C dX2_plain_67 6 rfl rfl ?_
            refine ww_iload C dX2_plain_68 0 rfl ?_
            refine ww_iconst (v := (-1)) C dX2_plain_70 rfl ?_
            obtain ⟨x_56, ex_56⟩ : ∃ z : Int32, x_55 ^^^ ((-1) : Int32) = z := ⟨_, rfl⟩
            refine ww_ixor (v := x_56) C dX2_plain_71 ex_56 ?_
            obtain ⟨x_57, ex_57⟩ : ∃ z : Int32, r_1 &&& x_56 = z := ⟨_, rfl⟩
            refine ww_iand (v := x_57) C dX2_plain_72 ex_57 ?_
            refine ww_istore (lv' := [(10, .int x_57), (9, .int x_55), (8, .int (nI (tt - 1))), (4, .int (nI tt)), (7, .int x_44), (6, .int 2), (5, .int (nI j_7)), (3, .int r_1), (0, .ref qj), (1, .ref h), (2, .ref sa)]) C dX2_plain_73 rfl rfl ?_
            refine ww_iload C dX2_plain_75 5 rfl ?_
            refine ww_tableIn (tgt := 151) C dX2_plain_77 (by decide) (by decide) rfl (by decide) ?_
            refine ww_aload_n C dX2_plain_151 8 rfl rfl ?_
            refine ww_get C fg_X2_23 0 rfl rfl dX2_plain_152 ?_
            refine ww_iload C dX2_plain_155 2 rfl ?_
            refine ww_iload C dX2_plain_157 0 rfl ?_
            obtain ⟨f_58, ef_58⟩ : ∃ z : Nat → Int32, upd f1 (tt - 1) x_57 = z := ⟨_, rfl⟩
            refine ww_iast (ws' := [(qj, .inr (2, [.ref jt, .ref je, .ref ju, .ref ja])), (ju, .inl (E.2.1 1, 32, .inl f_58)), (a, .inl (E.2.1 1, 24, .inl f)), (b, .inl (E.2.1 1, 96, .inl gg)), (h, .inr (4, [.int (nI n), .int (nI r), .ref a, .ref b]))]) C 1 rfl (vp_in_nI (by omega) (by omega)) (ldn2 (by omega) ef_58) rfl dX2_plain_159 ?_
            refine ww_goto (tgt := 298) C dX2_plain_160 (by decide) ?_
            obtain ⟨x_59, ex_59⟩ : ∃ z : Int32, (nI j_7) + Int32.ofInt (-1) = z := ⟨_, rfl⟩
            have zx_59 : x_59.toInt = ((j_7 : Nat) : Int) - 1 := by rw [← ex_59]; exact i_dec (c := 1) (nI_toInt (n := j_7) (by omega)) rfl (by omega) (by omega)
            refine ww_iinc (j := 6) (v := x_59) (lv' := [(5, .int x_59), (10, .int x_57), (9, .int x_55), (8, .int (nI (tt - 1))), (4, .int (nI tt)), (7, .int x_44), (6, .int 2), (3, .int r_1), (0, .ref qj), (1, .ref h), (2, .ref sa)]) C dX2_plain_298 rfl ex_59 rfl rfl ?_
            refine ww_goto (tgt := 17) C dX2_plain_301 (by decide) ?_
            exact ww_lv [0, 4, 7, 8, 9, 10] rfl (ww_sub [0, 1, 2, 3, 4] rfl rfl (ih_17 x_59 j_7 tt f_58 (by omega) (by omega) (by omega) (st_s (l := (tt - 1)) hst (by omega) (by omega) (by rw [show so j_7 = 2 from ex_8, show sr j_7 = x_44 from ex_44]; exact (ev_2 (nn := nn) hal (BS.at ex_55 (hst (tt - 1) (by omega))) ex_56 ex_57)) ef_58) (by omega)))
        · rw [ex_8, uN_3] at hoj_7
          refine ww_aload_n C dX2_plain_31 6 rfl rfl ?_
          refine ww_getR C hro fg_X2_77 i0 h0 rfl dX2_plain_32 ?_
          refine ww_iload C dX2_plain_35 1 rfl ?_
          obtain ⟨x_60, ex_60⟩ : ∃ z : Int32, sr j_7 = z := ⟨_, rfl⟩
          refine ww_ialdR (v := x_60) C hro i2 h2 (vp_in_nI (by omega) (by omega)) (ldn (by omega) ex_60) dX2_plain_37 ?_
          refine ww_istore (lv' := [(7, .int x_60), (6, .int 3), (5, .int (nI j_7)), (4, .int (nI tt)), (3, .int r_1), (0, .ref qj), (1, .ref h), (2, .ref sa)]) C dX2_plain_38 rfl rfl ?_
          refine ww_iload C dX2_plain_40 3 rfl ?_
          refine ww_iconst (v := 1) C dX2_plain_42 rfl ?_
          refine ww_iload C dX2_plain_43 1 rfl ?_
          refine ww_ci (wr := [(qj, .inr (2, [.ref jt, .ref je, .ref ju, .ref ja])), (ju, .inl (E.2.1 1, 32, .inl f1)), (a, .inl (E.2.1 1, 24, .inl f)), (b, .inl (E.2.1 1, 96, .inl gg)), (h, .inr (4, [.int (nI n), .int (nI r), .ref a, .ref b]))]) (k' := 0) (n' := 0) C (run_SN (As := [.int 3]) (rest := [.int 1, .int (nI tt)]) C (c_under X.2.1 E ro 3) ms_X11_under (List.mem_of_getElem? (i := 15) rfl) rfl rfl rfl rfl dX2_plain_45) (roK hro) [] [0, 1, 2, 3, 4] rfl rfl rfl rfl (fun r_61 uz hw => ?_)
          rcases hw with hw | hw | hw
          · refine an2 hw ?_
            clear hw
            intro he_63 he_64 hw
            have h_62 := hw
            clear hw
            have he_63 := he_63.symm
            subst he_63
            subst he_64
            exact absurd h_62 (by decide)
          · refine an2 hw ?_
            clear hw
            intro he_66 he_67 hw
            have h_65 := hw
            clear hw
            have he_66 := he_66.symm
            subst he_66
            subst he_67
            refine ww_eq (ws' := [(qj, .inr (2, [.ref jt, .ref je, .ref ju, .ref ja])), (ju, .inl (E.2.1 1, 32, .inl f1)), (a, .inl (E.2.1 1, 24, .inl f)), (b, .inl (E.2.1 1, 96, .inl gg)), (h, .inr (4, [.int (nI n), .int (nI r), .ref a, .ref b]))]) ?_ rfl rfl rfl
            refine ww_isub (v := (-1)) C dX2_plain_48 (by decide) ?_
            refine ww_iadd (v := (nI (tt - 1))) C dX2_plain_49 (nI_subc (a := tt) (c := 1) (by omega) rfl) ?_
            refine ww_istore (lv' := [(4, .int (nI (tt - 1))), (7, .int x_60), (6, .int 3), (5, .int (nI j_7)), (3, .int r_1), (0, .ref qj), (1, .ref h), (2, .ref sa)]) C dX2_plain_50 rfl rfl ?_
            refine ww_iload C dX2_plain_52 0 rfl ?_
            refine ww_iconst (v := 1) C dX2_plain_54 rfl ?_
            refine ww_isub (v := (nI ((tt - 1) - 1))) C dX2_plain_55 (pk_sub (a := (tt - 1)) (b := 1) (by omega)) ?_
            refine ww_istore (lv' := [(8, .int (nI ((tt - 1) - 1))), (4, .int (nI (tt - 1))), (7, .int x_60), (6, .int 3), (5, .int (nI j_7)), (3, .int r_1), (0, .ref qj), (1, .ref h), (2, .ref sa)]) C dX2_plain_56 rfl rfl ?_
            refine ww_aload_n C dX2_plain_58 6 rfl rfl ?_
            refine ww_get C fg_X2_23 0 rfl rfl dX2_plain_59 ?_
            refine ww_iload C dX2_plain_62 0 rfl ?_
            obtain ⟨x_71, ex_71⟩ : ∃ z : Int32, f1 ((tt - 1) - 1) = z := ⟨_, rfl⟩
            refine ww_iald (v := x_71) C 1 rfl (vp_in_nI (by omega) (by omega)) (ldn (by omega) ex_71) dX2_plain_64 ?_
            refine ww_istore (lv' := [(9, .int x_71), (8, .int (nI ((tt - 1) - 1))), (4, .int (nI (tt - 1))), (7, .int x_60), (6, .int 3), (5, .int (nI j_7)), (3, .int r_1), (0, .ref qj), (1, .ref h), (2, .ref sa)]) C dX2_plain_65 rfl rfl ?_
            refine ww_iload_n C dX2_plain_67 6 rfl rfl ?_
            refine ww_iload C dX2_plain_68 0 rfl ?_
            refine ww_iconst (v := (-1)) C dX2_plain_70 rfl ?_
            obtain ⟨x_72, ex_72⟩ : ∃ z : Int32, x_71 ^^^ ((-1) : Int32) = z := ⟨_, rfl⟩
            refine ww_ixor (v := x_72) C dX2_plain_71 ex_72 ?_
            obtain ⟨x_73, ex_73⟩ : ∃ z : Int32, r_1 &&& x_72 = z := ⟨_, rfl⟩
            refine ww_iand (v := x_73) C dX2_plain_72 ex_73 ?_
            refine ww_istore (lv' := [(10, .int x_73), (9, .int x_71), (8, .int (nI ((tt - 1) - 1))), (4, .int (nI (tt - 1))), (7, .int x_60), (6, .int 3), (5, .int (nI j_7)), (3, .int r_1), (0, .ref qj), (1, .ref h), (2, .ref sa)]) C dX2_plain_73 rfl rfl ?_
            refine ww_iload C dX2_plain_75 5 rfl ?_
            refine ww_tableIn (tgt := 163) C dX2_plain_77 (by decide) (by decide) rfl (by decide) ?_
            refine ww_aload_n C dX2_plain_163 8 rfl rfl ?_
            refine ww_get C fg_X2_23 0 rfl rfl dX2_plain_164 ?_
            refine ww_iload C dX2_plain_167 2 rfl ?_
            refine ww_iload C dX2_plain_169 1 rfl ?_
            refine ww_aload_n C dX2_plain_171 8 rfl rfl ?_
            refine ww_get C fg_X2_23 0 rfl rfl dX2_plain_172 ?_
            refine ww_iload C dX2_plain_175 3 rfl ?_
            obtain ⟨x_74, ex_74⟩ : ∃ z : Int32, f1 (tt - 1) = z := ⟨_, rfl⟩
            refine ww_iald (v := x_74) C 1 rfl (vp_in_nI (by omega) (by omega)) (ldn (by omega) ex_74) dX2_plain_177 ?_
            obtain ⟨x_75, ex_75⟩ : ∃ z : Int32, x_71 &&& x_74 = z := ⟨_, rfl⟩
            refine ww_iand (v := x_75) C dX2_plain_178 ex_75 ?_
            obtain ⟨f_76, ef_76⟩ : ∃ z : Nat → Int32, upd f1 ((tt - 1) - 1) x_75 = z := ⟨_, rfl⟩
            refine ww_iast (ws' := [(qj, .inr (2, [.ref jt, .ref je, .ref ju, .ref ja])), (ju, .inl (E.2.1 1, 32, .inl f_76)), (a, .inl (E.2.1 1, 24, .inl f)), (b, .inl (E.2.1 1, 96, .inl gg)), (h, .inr (4, [.int (nI n), .int (nI r), .ref a, .ref b]))]) C 1 rfl (vp_in_nI (by omega) (by omega)) (ldn2 (by omega) ef_76) rfl dX2_plain_179 ?_
            refine ww_goto (tgt := 298) C dX2_plain_180 (by decide) ?_
            obtain ⟨x_77, ex_77⟩ : ∃ z : Int32, (nI j_7) + Int32.ofInt (-1) = z := ⟨_, rfl⟩
            have zx_77 : x_77.toInt = ((j_7 : Nat) : Int) - 1 := by rw [← ex_77]; exact i_dec (c := 1) (nI_toInt (n := j_7) (by omega)) rfl (by omega) (by omega)
            refine ww_iinc (j := 6) (v := x_77) (lv' := [(5, .int x_77), (10, .int x_73), (9, .int x_71), (8, .int (nI ((tt - 1) - 1))), (4, .int (nI (tt - 1))), (7, .int x_60), (6, .int 3), (3, .int r_1), (0, .ref qj), (1, .ref h), (2, .ref sa)]) C dX2_plain_298 rfl ex_77 rfl rfl ?_
            refine ww_goto (tgt := 17) C dX2_plain_301 (by decide) ?_
            exact ww_lv [0, 4, 7, 8, 9, 10] rfl (ww_sub [0, 1, 2, 3, 4] rfl rfl (ih_17 x_77 j_7 (tt - 1) f_76 (by omega) (by omega) (by omega) (st_s (l := ((tt - 1) - 1)) hst (by omega) (by omega) (by rw [show so j_7 = 3 from ex_8, show sr j_7 = x_60 from ex_60]; exact (ev_3 (BS.at ex_71 (hst ((tt - 1) - 1) (by omega))) (BS.at2 (show (tt - 1) = ((tt - 1) - 1) + 1 by omega) ex_74 (hst (((tt - 1) - 1) + 1) (by omega))) ex_75)) ef_76) (by omega)))
          · refine an2 hw ?_
            clear hw
            intro he_69 he_70 hw
            have h_68 := hw
            clear hw
            have he_69 := he_69.symm
            subst he_69
            subst he_70
            exact absurd h_68 (by decide)
        · rw [ex_8, uN_4] at hoj_7
          refine ww_aload_n C dX2_plain_31 6 rfl rfl ?_
          refine ww_getR C hro fg_X2_77 i0 h0 rfl dX2_plain_32 ?_
          refine ww_iload C dX2_plain_35 1 rfl ?_
          obtain ⟨x_78, ex_78⟩ : ∃ z : Int32, sr j_7 = z := ⟨_, rfl⟩
          refine ww_ialdR (v := x_78) C hro i2 h2 (vp_in_nI (by omega) (by omega)) (ldn (by omega) ex_78) dX2_plain_37 ?_
          refine ww_istore (lv' := [(7, .int x_78), (6, .int 4), (5, .int (nI j_7)), (4, .int (nI tt)), (3, .int r_1), (0, .ref qj), (1, .ref h), (2, .ref sa)]) C dX2_plain_38 rfl rfl ?_
          refine ww_iload C dX2_plain_40 3 rfl ?_
          refine ww_iconst (v := 1) C dX2_plain_42 rfl ?_
          refine ww_iload C dX2_plain_43 1 rfl ?_
          refine ww_ci (wr := [(qj, .inr (2, [.ref jt, .ref je, .ref ju, .ref ja])), (ju, .inl (E.2.1 1, 32, .inl f1)), (a, .inl (E.2.1 1, 24, .inl f)), (b, .inl (E.2.1 1, 96, .inl gg)), (h, .inr (4, [.int (nI n), .int (nI r), .ref a, .ref b]))]) (k' := 0) (n' := 0) C (run_SN (As := [.int 4]) (rest := [.int 1, .int (nI tt)]) C (c_under X.2.1 E ro 4) ms_X11_under (List.mem_of_getElem? (i := 15) rfl) rfl rfl rfl rfl dX2_plain_45) (roK hro) [] [0, 1, 2, 3, 4] rfl rfl rfl rfl (fun r_79 uz hw => ?_)
          rcases hw with hw | hw | hw
          · refine an2 hw ?_
            clear hw
            intro he_81 he_82 hw
            have h_80 := hw
            clear hw
            have he_81 := he_81.symm
            subst he_81
            subst he_82
            exact absurd h_80 (by decide)
          · refine an2 hw ?_
            clear hw
            intro he_84 he_85 hw
            have h_83 := hw
            clear hw
            have he_84 := he_84.symm
            subst he_84
            subst he_85
            refine ww_eq (ws' := [(qj, .inr (2, [.ref jt, .ref je, .ref ju, .ref ja])), (ju, .inl (E.2.1 1, 32, .inl f1)), (a, .inl (E.2.1 1, 24, .inl f)), (b, .inl (E.2.1 1, 96, .inl gg)), (h, .inr (4, [.int (nI n), .int (nI r), .ref a, .ref b]))]) ?_ rfl rfl rfl
            refine ww_isub (v := (-1)) C dX2_plain_48 (by decide) ?_
            refine ww_iadd (v := (nI (tt - 1))) C dX2_plain_49 (nI_subc (a := tt) (c := 1) (by omega) rfl) ?_
            refine ww_istore (lv' := [(4, .int (nI (tt - 1))), (7, .int x_78), (6, .int 4), (5, .int (nI j_7)), (3, .int r_1), (0, .ref qj), (1, .ref h), (2, .ref sa)]) C dX2_plain_50 rfl rfl ?_
            refine ww_iload C dX2_plain_52 0 rfl ?_
            refine ww_iconst (v := 1) C dX2_plain_54 rfl ?_
            refine ww_isub (v := (nI ((tt - 1) - 1))) C dX2_plain_55 (pk_sub (a := (tt - 1)) (b := 1) (by omega)) ?_
            refine ww_istore (lv' := [(8, .int (nI ((tt - 1) - 1))), (4, .int (nI (tt - 1))), (7, .int x_78), (6, .int 4), (5, .int (nI j_7)), (3, .int r_1), (0, .ref qj), (1, .ref h), (2, .ref sa)]) C dX2_plain_56 rfl rfl ?_
            refine ww_aload_n C dX2_plain_58 6 rfl rfl ?_
            refine ww_get C fg_X2_23 0 rfl rfl dX2_plain_59 ?_
            refine ww_iload C dX2_plain_62 0 rfl ?_
            obtain ⟨x_89, ex_89⟩ : ∃ z : Int32, f1 ((tt - 1) - 1) = z := ⟨_, rfl⟩
            refine ww_iald (v := x_89) C 1 rfl (vp_in_nI (by omega) (by omega)) (ldn (by omega) ex_89) dX2_plain_64 ?_
            refine ww_istore (lv' := [(9, .int x_89), (8, .int (nI ((tt - 1) - 1))), (4, .int (nI (tt - 1))), (7, .int x_78), (6, .int 4), (5, .int (nI j_7)), (3, .int r_1), (0, .ref qj), (1, .ref h), (2, .ref sa)]) C dX2_plain_65 rfl rfl ?_
            refine ww_iload_n C dX2_plain_67 6 rfl rfl ?_
            refine ww_iload C dX2_plain_68 0 rfl ?_
            refine ww_iconst (v := (-1)) C dX2_plain_70 rfl ?_
            obtain ⟨x_90, ex_90⟩ : ∃ z : Int32, x_89 ^^^ ((-1) : Int32) = z := ⟨_, rfl⟩
            refine ww_ixor (v := x_90) C dX2_plain_71 ex_90 ?_
            obtain ⟨x_91, ex_91⟩ : ∃ z : Int32, r_1 &&& x_90 = z := ⟨_, rfl⟩
            refine ww_iand (v := x_91) C dX2_plain_72 ex_91 ?_
            refine ww_istore (lv' := [(10, .int x_91), (9, .int x_89), (8, .int (nI ((tt - 1) - 1))), (4, .int (nI (tt - 1))), (7, .int x_78), (6, .int 4), (5, .int (nI j_7)), (3, .int r_1), (0, .ref qj), (1, .ref h), (2, .ref sa)]) C dX2_plain_73 rfl rfl ?_
            refine ww_iload C dX2_plain_75 5 rfl ?_
            refine ww_tableIn (tgt := 183) C dX2_plain_77 (by decide) (by decide) rfl (by decide) ?_
            refine ww_aload_n C dX2_plain_183 8 rfl rfl ?_
            refine ww_get C fg_X2_23 0 rfl rfl dX2_plain_184 ?_
            refine ww_iload C dX2_plain_187 2 rfl ?_
            refine ww_iload C dX2_plain_189 1 rfl ?_
            refine ww_aload_n C dX2_plain_191 8 rfl rfl ?_
            refine ww_get C fg_X2_23 0 rfl rfl dX2_plain_192 ?_
            refine ww_iload C dX2_plain_195 3 rfl ?_
            obtain ⟨x_92, ex_92⟩ : ∃ z : Int32, f1 (tt - 1) = z := ⟨_, rfl⟩
            refine ww_iald (v := x_92) C 1 rfl (vp_in_nI (by omega) (by omega)) (ldn (by omega) ex_92) dX2_plain_197 ?_
            obtain ⟨x_93, ex_93⟩ : ∃ z : Int32, x_89 ||| x_92 = z := ⟨_, rfl⟩
            refine ww_ior (v := x_93) C dX2_plain_198 ex_93 ?_
            obtain ⟨f_94, ef_94⟩ : ∃ z : Nat → Int32, upd f1 ((tt - 1) - 1) x_93 = z := ⟨_, rfl⟩
            refine ww_iast (ws' := [(qj, .inr (2, [.ref jt, .ref je, .ref ju, .ref ja])), (ju, .inl (E.2.1 1, 32, .inl f_94)), (a, .inl (E.2.1 1, 24, .inl f)), (b, .inl (E.2.1 1, 96, .inl gg)), (h, .inr (4, [.int (nI n), .int (nI r), .ref a, .ref b]))]) C 1 rfl (vp_in_nI (by omega) (by omega)) (ldn2 (by omega) ef_94) rfl dX2_plain_199 ?_
            refine ww_goto (tgt := 298) C dX2_plain_200 (by decide) ?_
            obtain ⟨x_95, ex_95⟩ : ∃ z : Int32, (nI j_7) + Int32.ofInt (-1) = z := ⟨_, rfl⟩
            have zx_95 : x_95.toInt = ((j_7 : Nat) : Int) - 1 := by rw [← ex_95]; exact i_dec (c := 1) (nI_toInt (n := j_7) (by omega)) rfl (by omega) (by omega)
            refine ww_iinc (j := 6) (v := x_95) (lv' := [(5, .int x_95), (10, .int x_91), (9, .int x_89), (8, .int (nI ((tt - 1) - 1))), (4, .int (nI (tt - 1))), (7, .int x_78), (6, .int 4), (3, .int r_1), (0, .ref qj), (1, .ref h), (2, .ref sa)]) C dX2_plain_298 rfl ex_95 rfl rfl ?_
            refine ww_goto (tgt := 17) C dX2_plain_301 (by decide) ?_
            exact ww_lv [0, 4, 7, 8, 9, 10] rfl (ww_sub [0, 1, 2, 3, 4] rfl rfl (ih_17 x_95 j_7 (tt - 1) f_94 (by omega) (by omega) (by omega) (st_s (l := ((tt - 1) - 1)) hst (by omega) (by omega) (by rw [show so j_7 = 4 from ex_8, show sr j_7 = x_78 from ex_78]; exact (ev_4 (BS.at ex_89 (hst ((tt - 1) - 1) (by omega))) (BS.at2 (show (tt - 1) = ((tt - 1) - 1) + 1 by omega) ex_92 (hst (((tt - 1) - 1) + 1) (by omega))) ex_93)) ef_94) (by omega)))
          · refine an2 hw ?_
            clear hw
            intro he_87 he_88 hw
            have h_86 := hw
            clear hw
            have he_87 := he_87.symm
            subst he_87
            subst he_88
            exact absurd h_86 (by decide)
        · rw [ex_8, uN_5] at hoj_7
          refine ww_aload_n C dX2_plain_31 6 rfl rfl ?_
          refine ww_getR C hro fg_X2_77 i0 h0 rfl dX2_plain_32 ?_
          refine ww_iload C dX2_plain_35 1 rfl ?_
          obtain ⟨x_96, ex_96⟩ : ∃ z : Int32, sr j_7 = z := ⟨_, rfl⟩
          refine ww_ialdR (v := x_96) C hro i2 h2 (vp_in_nI (by omega) (by omega)) (ldn (by omega) ex_96) dX2_plain_37 ?_
          refine ww_istore (lv' := [(7, .int x_96), (6, .int 5), (5, .int (nI j_7)), (4, .int (nI tt)), (3, .int r_1), (0, .ref qj), (1, .ref h), (2, .ref sa)]) C dX2_plain_38 rfl rfl ?_
          refine ww_iload C dX2_plain_40 3 rfl ?_
          refine ww_iconst (v := 1) C dX2_plain_42 rfl ?_
          refine ww_iload C dX2_plain_43 1 rfl ?_
          refine ww_ci (wr := [(qj, .inr (2, [.ref jt, .ref je, .ref ju, .ref ja])), (ju, .inl (E.2.1 1, 32, .inl f1)), (a, .inl (E.2.1 1, 24, .inl f)), (b, .inl (E.2.1 1, 96, .inl gg)), (h, .inr (4, [.int (nI n), .int (nI r), .ref a, .ref b]))]) (k' := 0) (n' := 0) C (run_SN (As := [.int 5]) (rest := [.int 1, .int (nI tt)]) C (c_under X.2.1 E ro 5) ms_X11_under (List.mem_of_getElem? (i := 15) rfl) rfl rfl rfl rfl dX2_plain_45) (roK hro) [] [0, 1, 2, 3, 4] rfl rfl rfl rfl (fun r_97 uz hw => ?_)
          rcases hw with hw | hw | hw
          · refine an2 hw ?_
            clear hw
            intro he_99 he_100 hw
            have h_98 := hw
            clear hw
            have he_99 := he_99.symm
            subst he_99
            subst he_100
            exact absurd h_98 (by decide)
          · refine an2 hw ?_
            clear hw
            intro he_102 he_103 hw
            have h_101 := hw
            clear hw
            have he_102 := he_102.symm
            subst he_102
            subst he_103
            exact absurd h_101 (by decide)
          · refine an2 hw ?_
            clear hw
            intro he_105 he_106 hw
            have h_104 := hw
            clear hw
            have he_105 := he_105.symm
            subst he_105
            subst he_106
            refine ww_eq (ws' := [(qj, .inr (2, [.ref jt, .ref je, .ref ju, .ref ja])), (ju, .inl (E.2.1 1, 32, .inl f1)), (a, .inl (E.2.1 1, 24, .inl f)), (b, .inl (E.2.1 1, 96, .inl gg)), (h, .inr (4, [.int (nI n), .int (nI r), .ref a, .ref b]))]) ?_ rfl rfl rfl
            refine ww_isub (v := 0) C dX2_plain_48 (by decide) ?_
            refine ww_iadd (v := (nI tt)) C dX2_plain_49 (nI_add tt 0) ?_
            refine ww_istore (lv' := [(4, .int (nI tt)), (7, .int x_96), (6, .int 5), (5, .int (nI j_7)), (3, .int r_1), (0, .ref qj), (1, .ref h), (2, .ref sa)]) C dX2_plain_50 rfl rfl ?_
            refine ww_iload C dX2_plain_52 0 rfl ?_
            refine ww_iconst (v := 1) C dX2_plain_54 rfl ?_
            refine ww_isub (v := (nI (tt - 1))) C dX2_plain_55 (pk_sub (a := tt) (b := 1) (by omega)) ?_
            refine ww_istore (lv' := [(8, .int (nI (tt - 1))), (4, .int (nI tt)), (7, .int x_96), (6, .int 5), (5, .int (nI j_7)), (3, .int r_1), (0, .ref qj), (1, .ref h), (2, .ref sa)]) C dX2_plain_56 rfl rfl ?_
            refine ww_aload_n C dX2_plain_58 6 rfl rfl ?_
            refine ww_get C fg_X2_23 0 rfl rfl dX2_plain_59 ?_
            refine ww_iload C dX2_plain_62 0 rfl ?_
            obtain ⟨x_107, ex_107⟩ : ∃ z : Int32, f1 (tt - 1) = z := ⟨_, rfl⟩
            refine ww_iald (v := x_107) C 1 rfl (vp_in_nI (by omega) (by omega)) (ldn (by omega) ex_107) dX2_plain_64 ?_
            refine ww_istore (lv' := [(9, .int x_107), (8, .int (nI (tt - 1))), (4, .int (nI tt)), (7, .int x_96), (6, .int 5), (5, .int (nI j_7)), (3, .int r_1), (0, .ref qj), (1, .ref h), (2, .ref sa)]) C dX2_plain_65 rfl rfl ?_
            refine ww_iload_n C dX2_plain_67 6 rfl rfl ?_
            refine ww_iload C dX2_plain_68 0 rfl ?_
            refine ww_iconst (v := (-1)) C dX2_plain_70 rfl ?_
            obtain ⟨x_108, ex_108⟩ : ∃ z : Int32, x_107 ^^^ ((-1) : Int32) = z := ⟨_, rfl⟩
            refine ww_ixor (v := x_108) C dX2_plain_71 ex_108 ?_
            obtain ⟨x_109, ex_109⟩ : ∃ z : Int32, r_1 &&& x_108 = z := ⟨_, rfl⟩
            refine ww_iand (v := x_109) C dX2_plain_72 ex_109 ?_
            refine ww_istore (lv' := [(10, .int x_109), (9, .int x_107), (8, .int (nI (tt - 1))), (4, .int (nI tt)), (7, .int x_96), (6, .int 5), (5, .int (nI j_7)), (3, .int r_1), (0, .ref qj), (1, .ref h), (2, .ref sa)]) C dX2_plain_73 rfl rfl ?_
            refine ww_iload C dX2_plain_75 5 rfl ?_
            refine ww_tableIn (tgt := 203) C dX2_plain_77 (by decide) (by decide) rfl (by decide) ?_
            refine ww_aload_n C dX2_plain_203 8 rfl rfl ?_
            refine ww_get C fg_X2_23 0 rfl rfl dX2_plain_204 ?_
            refine ww_iload C dX2_plain_207 2 rfl ?_
            refine ww_iload_n C dX2_plain_209 7 rfl rfl ?_
            refine ww_aload_n C dX2_plain_210 9 rfl rfl ?_
            refine ww_iload C dX2_plain_211 4 rfl ?_
            refine ww_iload C dX2_plain_213 1 rfl ?_
            refine ww_iconst (v := 1) C dX2_plain_215 rfl ?_
            refine ww_ci (wr := [(qj, .inr (2, [.ref jt, .ref je, .ref ju, .ref ja])), (ju, .inl (E.2.1 1, 32, .inl f1))]) (k' := 0) (n' := 0) C (run_V (As := [.int x_96, .int x_107, .int 1]) (rest := [.int r_1, .int (nI (tt - 1)), .ref ju]) C (m_leadingTo X.2.1 E ro h x_96 x_107 1 n r a b f gg (by omega) (by omega) (by omega)) mi_X4_leadingTo wl_X2_87 rfl 0 4 rfl rfl rfl rfl rfl dX2_plain_216) (roK hro) [4, 2, 3] [0, 1] rfl rfl rfl rfl (fun r_110 uz hw => ?_)
            refine an1 hw ?_
            clear hw
            intro he_112 hw
            have h_111 := hw
            clear hw
            subst he_112
            refine ww_eq (ws' := [(qj, .inr (2, [.ref jt, .ref je, .ref ju, .ref ja])), (ju, .inl (E.2.1 1, 32, .inl f1)), (h, .inr (4, [.int (nI n), .int (nI r), .ref a, .ref b])), (a, .inl (E.2.1 1, 24, .inl f)), (b, .inl (E.2.1 1, 96, .inl gg))]) ?_ rfl rfl rfl
            refine ww_aload_n C dX2_plain_219 9 rfl rfl ?_
            refine ww_iload C dX2_plain_220 4 rfl ?_
            refine ww_iload C dX2_plain_222 0 rfl ?_
            refine ww_iconst (v := 1) C dX2_plain_224 rfl ?_
            refine ww_ci (wr := [(qj, .inr (2, [.ref jt, .ref je, .ref ju, .ref ja])), (ju, .inl (E.2.1 1, 32, .inl f1))]) (k' := 0) (n' := 0) C (run_V (As := [.int x_96, .int x_109, .int 1]) (rest := [.int r_110, .int r_1, .int (nI (tt - 1)), .ref ju]) C (m_leadingTo X.2.1 E ro h x_96 x_109 1 n r a b f gg (by omega) (by omega) (by omega)) mi_X4_leadingTo wl_X2_87 rfl 0 4 rfl rfl rfl rfl rfl dX2_plain_225) (roK hro) [2, 3, 4] [0, 1] rfl rfl rfl rfl (fun r_113 uz hw => ?_)
            refine an1 hw ?_
            clear hw
            intro he_115 hw
            have h_114 := hw
            clear hw
            subst he_115
            refine ww_eq (ws' := [(qj, .inr (2, [.ref jt, .ref je, .ref ju, .ref ja])), (ju, .inl (E.2.1 1, 32, .inl f1)), (h, .inr (4, [.int (nI n), .int (nI r), .ref a, .ref b])), (a, .inl (E.2.1 1, 24, .inl f)), (b, .inl (E.2.1 1, 96, .inl gg))]) ?_ rfl rfl rfl
            obtain ⟨x_116, ex_116⟩ : ∃ z : Int32, r_110 &&& r_113 = z := ⟨_, rfl⟩
            refine ww_iand (v := x_116) C dX2_plain_228 ex_116 ?_
            refine ww_iconst (v := (-1)) C dX2_plain_229 rfl ?_
            obtain ⟨x_117, ex_117⟩ : ∃ z : Int32, x_116 ^^^ ((-1) : Int32) = z := ⟨_, rfl⟩
            refine ww_ixor (v := x_117) C dX2_plain_230 ex_117 ?_
            obtain ⟨x_118, ex_118⟩ : ∃ z : Int32, r_1 &&& x_117 = z := ⟨_, rfl⟩
            refine ww_iand (v := x_118) C dX2_plain_231 ex_118 ?_
            obtain ⟨f_119, ef_119⟩ : ∃ z : Nat → Int32, upd f1 (tt - 1) x_118 = z := ⟨_, rfl⟩
            refine ww_iast (ws' := [(qj, .inr (2, [.ref jt, .ref je, .ref ju, .ref ja])), (ju, .inl (E.2.1 1, 32, .inl f_119)), (h, .inr (4, [.int (nI n), .int (nI r), .ref a, .ref b])), (a, .inl (E.2.1 1, 24, .inl f)), (b, .inl (E.2.1 1, 96, .inl gg))]) C 1 rfl (vp_in_nI (by omega) (by omega)) (ldn2 (by omega) ef_119) rfl dX2_plain_232 ?_
            refine ww_goto (tgt := 298) C dX2_plain_233 (by decide) ?_
            obtain ⟨x_120, ex_120⟩ : ∃ z : Int32, (nI j_7) + Int32.ofInt (-1) = z := ⟨_, rfl⟩
            have zx_120 : x_120.toInt = ((j_7 : Nat) : Int) - 1 := by rw [← ex_120]; exact i_dec (c := 1) (nI_toInt (n := j_7) (by omega)) rfl (by omega) (by omega)
            refine ww_iinc (j := 6) (v := x_120) (lv' := [(5, .int x_120), (10, .int x_109), (9, .int x_107), (8, .int (nI (tt - 1))), (4, .int (nI tt)), (7, .int x_96), (6, .int 5), (3, .int r_1), (0, .ref qj), (1, .ref h), (2, .ref sa)]) C dX2_plain_298 rfl ex_120 rfl rfl ?_
            refine ww_goto (tgt := 17) C dX2_plain_301 (by decide) ?_
            exact ww_lv [0, 4, 7, 8, 9, 10] rfl (ww_sub [0, 1, 3, 4, 2] rfl rfl (ih_17 x_120 j_7 tt f_119 (by omega) (by omega) (by omega) (st_s (l := (tt - 1)) hst (by omega) (by omega) (by rw [show so j_7 = 5 from ex_8, show sr j_7 = x_96 from ex_96]; exact (ev_5 hwfm hal (BS.at ex_107 (hst (tt - 1) (by omega))) ex_108 ex_109 h_111 h_114 ex_116 ex_117 ex_118)) ef_119) (by omega)))
        · rw [ex_8, uN_6] at hoj_7
          refine ww_aload_n C dX2_plain_31 6 rfl rfl ?_
          refine ww_getR C hro fg_X2_77 i0 h0 rfl dX2_plain_32 ?_
          refine ww_iload C dX2_plain_35 1 rfl ?_
          obtain ⟨x_121, ex_121⟩ : ∃ z : Int32, sr j_7 = z := ⟨_, rfl⟩
          refine ww_ialdR (v := x_121) C hro i2 h2 (vp_in_nI (by omega) (by omega)) (ldn (by omega) ex_121) dX2_plain_37 ?_
          refine ww_istore (lv' := [(7, .int x_121), (6, .int 6), (5, .int (nI j_7)), (4, .int (nI tt)), (3, .int r_1), (0, .ref qj), (1, .ref h), (2, .ref sa)]) C dX2_plain_38 rfl rfl ?_
          refine ww_iload C dX2_plain_40 3 rfl ?_
          refine ww_iconst (v := 1) C dX2_plain_42 rfl ?_
          refine ww_iload C dX2_plain_43 1 rfl ?_
          refine ww_ci (wr := [(qj, .inr (2, [.ref jt, .ref je, .ref ju, .ref ja])), (ju, .inl (E.2.1 1, 32, .inl f1)), (a, .inl (E.2.1 1, 24, .inl f)), (b, .inl (E.2.1 1, 96, .inl gg)), (h, .inr (4, [.int (nI n), .int (nI r), .ref a, .ref b]))]) (k' := 0) (n' := 0) C (run_SN (As := [.int 6]) (rest := [.int 1, .int (nI tt)]) C (c_under X.2.1 E ro 6) ms_X11_under (List.mem_of_getElem? (i := 15) rfl) rfl rfl rfl rfl dX2_plain_45) (roK hro) [] [0, 1, 2, 3, 4] rfl rfl rfl rfl (fun r_122 uz hw => ?_)
          rcases hw with hw | hw | hw
          · refine an2 hw ?_
            clear hw
            intro he_124 he_125 hw
            have h_123 := hw
            clear hw
            have he_124 := he_124.symm
            subst he_124
            subst he_125
            exact absurd h_123 (by decide)
          · refine an2 hw ?_
            clear hw
            intro he_127 he_128 hw
            have h_126 := hw
            clear hw
            have he_127 := he_127.symm
            subst he_127
            subst he_128
            exact absurd h_126 (by decide)
          · refine an2 hw ?_
            clear hw
            intro he_130 he_131 hw
            have h_129 := hw
            clear hw
            have he_130 := he_130.symm
            subst he_130
            subst he_131
            refine ww_eq (ws' := [(qj, .inr (2, [.ref jt, .ref je, .ref ju, .ref ja])), (ju, .inl (E.2.1 1, 32, .inl f1)), (a, .inl (E.2.1 1, 24, .inl f)), (b, .inl (E.2.1 1, 96, .inl gg)), (h, .inr (4, [.int (nI n), .int (nI r), .ref a, .ref b]))]) ?_ rfl rfl rfl
            refine ww_isub (v := 0) C dX2_plain_48 (by decide) ?_
            refine ww_iadd (v := (nI tt)) C dX2_plain_49 (nI_add tt 0) ?_
            refine ww_istore (lv' := [(4, .int (nI tt)), (7, .int x_121), (6, .int 6), (5, .int (nI j_7)), (3, .int r_1), (0, .ref qj), (1, .ref h), (2, .ref sa)]) C dX2_plain_50 rfl rfl ?_
            refine ww_iload C dX2_plain_52 0 rfl ?_
            refine ww_iconst (v := 1) C dX2_plain_54 rfl ?_
            refine ww_isub (v := (nI (tt - 1))) C dX2_plain_55 (pk_sub (a := tt) (b := 1) (by omega)) ?_
            refine ww_istore (lv' := [(8, .int (nI (tt - 1))), (4, .int (nI tt)), (7, .int x_121), (6, .int 6), (5, .int (nI j_7)), (3, .int r_1), (0, .ref qj), (1, .ref h), (2, .ref sa)]) C dX2_plain_56 rfl rfl ?_
            refine ww_aload_n C dX2_plain_58 6 rfl rfl ?_
            refine ww_get C fg_X2_23 0 rfl rfl dX2_plain_59 ?_
            refine ww_iload C dX2_plain_62 0 rfl ?_
            obtain ⟨x_132, ex_132⟩ : ∃ z : Int32, f1 (tt - 1) = z := ⟨_, rfl⟩
            refine ww_iald (v := x_132) C 1 rfl (vp_in_nI (by omega) (by omega)) (ldn (by omega) ex_132) dX2_plain_64 ?_
            refine ww_istore (lv' := [(9, .int x_132), (8, .int (nI (tt - 1))), (4, .int (nI tt)), (7, .int x_121), (6, .int 6), (5, .int (nI j_7)), (3, .int r_1), (0, .ref qj), (1, .ref h), (2, .ref sa)]) C dX2_plain_65 rfl rfl ?_
            refine ww_iload_n C dX2_plain_67 6 rfl rfl ?_
            refine ww_iload C dX2_plain_68 0 rfl ?_
            refine ww_iconst (v := (-1)) C dX2_plain_70 rfl ?_
            obtain ⟨x_133, ex_133⟩ : ∃ z : Int32, x_132 ^^^ ((-1) : Int32) = z := ⟨_, rfl⟩
            refine ww_ixor (v := x_133) C dX2_plain_71 ex_133 ?_
            obtain ⟨x_134, ex_134⟩ : ∃ z : Int32, r_1 &&& x_133 = z := ⟨_, rfl⟩
            refine ww_iand (v := x_134) C dX2_plain_72 ex_134 ?_
            refine ww_istore (lv' := [(10, .int x_134), (9, .int x_132), (8, .int (nI (tt - 1))), (4, .int (nI tt)), (7, .int x_121), (6, .int 6), (5, .int (nI j_7)), (3, .int r_1), (0, .ref qj), (1, .ref h), (2, .ref sa)]) C dX2_plain_73 rfl rfl ?_
            refine ww_iload C dX2_plain_75 5 rfl ?_
            refine ww_tableIn (tgt := 236) C dX2_plain_77 (by decide) (by decide) rfl (by decide) ?_
            refine ww_aload_n C dX2_plain_236 8 rfl rfl ?_
            refine ww_get C fg_X2_23 0 rfl rfl dX2_plain_237 ?_
            refine ww_iload C dX2_plain_240 2 rfl ?_
            refine ww_iload_n C dX2_plain_242 7 rfl rfl ?_
            refine ww_aload_n C dX2_plain_243 9 rfl rfl ?_
            refine ww_iload C dX2_plain_244 4 rfl ?_
            refine ww_iload C dX2_plain_246 0 rfl ?_
            refine ww_iconst (v := 1) C dX2_plain_248 rfl ?_
            refine ww_ci (wr := [(qj, .inr (2, [.ref jt, .ref je, .ref ju, .ref ja])), (ju, .inl (E.2.1 1, 32, .inl f1))]) (k' := 0) (n' := 0) C (run_V (As := [.int x_121, .int x_134, .int 1]) (rest := [.int r_1, .int (nI (tt - 1)), .ref ju]) C (m_leadingTo X.2.1 E ro h x_121 x_134 1 n r a b f gg (by omega) (by omega) (by omega)) mi_X4_leadingTo wl_X2_87 rfl 0 4 rfl rfl rfl rfl rfl dX2_plain_249) (roK hro) [4, 2, 3] [0, 1] rfl rfl rfl rfl (fun r_135 uz hw => ?_)
            refine an1 hw ?_
            clear hw
            intro he_137 hw
            have h_136 := hw
            clear hw
            subst he_137
            refine ww_eq (ws' := [(qj, .inr (2, [.ref jt, .ref je, .ref ju, .ref ja])), (ju, .inl (E.2.1 1, 32, .inl f1)), (h, .inr (4, [.int (nI n), .int (nI r), .ref a, .ref b])), (a, .inl (E.2.1 1, 24, .inl f)), (b, .inl (E.2.1 1, 96, .inl gg))]) ?_ rfl rfl rfl
            refine ww_iconst (v := (-1)) C dX2_plain_252 rfl ?_
            obtain ⟨x_138, ex_138⟩ : ∃ z : Int32, r_135 ^^^ ((-1) : Int32) = z := ⟨_, rfl⟩
            refine ww_ixor (v := x_138) C dX2_plain_253 ex_138 ?_
            obtain ⟨x_139, ex_139⟩ : ∃ z : Int32, r_1 &&& x_138 = z := ⟨_, rfl⟩
            refine ww_iand (v := x_139) C dX2_plain_254 ex_139 ?_
            obtain ⟨f_140, ef_140⟩ : ∃ z : Nat → Int32, upd f1 (tt - 1) x_139 = z := ⟨_, rfl⟩
            refine ww_iast (ws' := [(qj, .inr (2, [.ref jt, .ref je, .ref ju, .ref ja])), (ju, .inl (E.2.1 1, 32, .inl f_140)), (h, .inr (4, [.int (nI n), .int (nI r), .ref a, .ref b])), (a, .inl (E.2.1 1, 24, .inl f)), (b, .inl (E.2.1 1, 96, .inl gg))]) C 1 rfl (vp_in_nI (by omega) (by omega)) (ldn2 (by omega) ef_140) rfl dX2_plain_255 ?_
            refine ww_goto (tgt := 298) C dX2_plain_256 (by decide) ?_
            obtain ⟨x_141, ex_141⟩ : ∃ z : Int32, (nI j_7) + Int32.ofInt (-1) = z := ⟨_, rfl⟩
            have zx_141 : x_141.toInt = ((j_7 : Nat) : Int) - 1 := by rw [← ex_141]; exact i_dec (c := 1) (nI_toInt (n := j_7) (by omega)) rfl (by omega) (by omega)
            refine ww_iinc (j := 6) (v := x_141) (lv' := [(5, .int x_141), (10, .int x_134), (9, .int x_132), (8, .int (nI (tt - 1))), (4, .int (nI tt)), (7, .int x_121), (6, .int 6), (3, .int r_1), (0, .ref qj), (1, .ref h), (2, .ref sa)]) C dX2_plain_298 rfl ex_141 rfl rfl ?_
            refine ww_goto (tgt := 17) C dX2_plain_301 (by decide) ?_
            exact ww_lv [0, 4, 7, 8, 9, 10] rfl (ww_sub [0, 1, 3, 4, 2] rfl rfl (ih_17 x_141 j_7 tt f_140 (by omega) (by omega) (by omega) (st_s (l := (tt - 1)) hst (by omega) (by omega) (by rw [show so j_7 = 6 from ex_8, show sr j_7 = x_121 from ex_121]; exact (ev_6 hwfm hal (BS.at ex_132 (hst (tt - 1) (by omega))) ex_133 ex_134 h_136 ex_138 ex_139)) ef_140) (by omega)))
        · rw [ex_8, uN_7] at hoj_7
          refine ww_aload_n C dX2_plain_31 6 rfl rfl ?_
          refine ww_getR C hro fg_X2_77 i0 h0 rfl dX2_plain_32 ?_
          refine ww_iload C dX2_plain_35 1 rfl ?_
          obtain ⟨x_142, ex_142⟩ : ∃ z : Int32, sr j_7 = z := ⟨_, rfl⟩
          refine ww_ialdR (v := x_142) C hro i2 h2 (vp_in_nI (by omega) (by omega)) (ldn (by omega) ex_142) dX2_plain_37 ?_
          refine ww_istore (lv' := [(7, .int x_142), (6, .int 7), (5, .int (nI j_7)), (4, .int (nI tt)), (3, .int r_1), (0, .ref qj), (1, .ref h), (2, .ref sa)]) C dX2_plain_38 rfl rfl ?_
          refine ww_iload C dX2_plain_40 3 rfl ?_
          refine ww_iconst (v := 1) C dX2_plain_42 rfl ?_
          refine ww_iload C dX2_plain_43 1 rfl ?_
          refine ww_ci (wr := [(qj, .inr (2, [.ref jt, .ref je, .ref ju, .ref ja])), (ju, .inl (E.2.1 1, 32, .inl f1)), (a, .inl (E.2.1 1, 24, .inl f)), (b, .inl (E.2.1 1, 96, .inl gg)), (h, .inr (4, [.int (nI n), .int (nI r), .ref a, .ref b]))]) (k' := 0) (n' := 0) C (run_SN (As := [.int 7]) (rest := [.int 1, .int (nI tt)]) C (c_under X.2.1 E ro 7) ms_X11_under (List.mem_of_getElem? (i := 15) rfl) rfl rfl rfl rfl dX2_plain_45) (roK hro) [] [0, 1, 2, 3, 4] rfl rfl rfl rfl (fun r_143 uz hw => ?_)
          rcases hw with hw | hw | hw
          · refine an2 hw ?_
            clear hw
            intro he_145 he_146 hw
            have h_144 := hw
            clear hw
            have he_145 := he_145.symm
            subst he_145
            subst he_146
            exact absurd h_144 (by decide)
          · refine an2 hw ?_
            clear hw
            intro he_148 he_149 hw
            have h_147 := hw
            clear hw
            have he_148 := he_148.symm
            subst he_148
            subst he_149
            exact absurd h_147 (by decide)
          · refine an2 hw ?_
            clear hw
            intro he_151 he_152 hw
            have h_150 := hw
            clear hw
            have he_151 := he_151.symm
            subst he_151
            subst he_152
            refine ww_eq (ws' := [(qj, .inr (2, [.ref jt, .ref je, .ref ju, .ref ja])), (ju, .inl (E.2.1 1, 32, .inl f1)), (a, .inl (E.2.1 1, 24, .inl f)), (b, .inl (E.2.1 1, 96, .inl gg)), (h, .inr (4, [.int (nI n), .int (nI r), .ref a, .ref b]))]) ?_ rfl rfl rfl
            refine ww_isub (v := 0) C dX2_plain_48 (by decide) ?_
            refine ww_iadd (v := (nI tt)) C dX2_plain_49 (nI_add tt 0) ?_
            refine ww_istore (lv' := [(4, .int (nI tt)), (7, .int x_142), (6, .int 7), (5, .int (nI j_7)), (3, .int r_1), (0, .ref qj), (1, .ref h), (2, .ref sa)]) C dX2_plain_50 rfl rfl ?_
            refine ww_iload C dX2_plain_52 0 rfl ?_
            refine ww_iconst (v := 1) C dX2_plain_54 rfl ?_
            refine ww_isub (v := (nI (tt - 1))) C dX2_plain_55 (pk_sub (a := tt) (b := 1) (by omega)) ?_
            refine ww_istore (lv' := [(8, .int (nI (tt - 1))), (4, .int (nI tt)), (7, .int x_142), (6, .int 7), (5, .int (nI j_7)), (3, .int r_1), (0, .ref qj), (1, .ref h), (2, .ref sa)]) C dX2_plain_56 rfl rfl ?_
            refine ww_aload_n C dX2_plain_58 6 rfl rfl ?_
            refine ww_get C fg_X2_23 0 rfl rfl dX2_plain_59 ?_
            refine ww_iload C dX2_plain_62 0 rfl ?_
            obtain ⟨x_153, ex_153⟩ : ∃ z : Int32, f1 (tt - 1) = z := ⟨_, rfl⟩
            refine ww_iald (v := x_153) C 1 rfl (vp_in_nI (by omega) (by omega)) (ldn (by omega) ex_153) dX2_plain_64 ?_
            refine ww_istore (lv' := [(9, .int x_153), (8, .int (nI (tt - 1))), (4, .int (nI tt)), (7, .int x_142), (6, .int 7), (5, .int (nI j_7)), (3, .int r_1), (0, .ref qj), (1, .ref h), (2, .ref sa)]) C dX2_plain_65 rfl rfl ?_
            refine ww_iload_n C dX2_plain_67 6 rfl rfl ?_
            refine ww_iload C dX2_plain_68 0 rfl ?_
            refine ww_iconst (v := (-1)) C dX2_plain_70 rfl ?_
            obtain ⟨x_154, ex_154⟩ : ∃ z : Int32, x_153 ^^^ ((-1) : Int32) = z := ⟨_, rfl⟩
            refine ww_ixor (v := x_154) C dX2_plain_71 ex_154 ?_
            obtain ⟨x_155, ex_155⟩ : ∃ z : Int32, r_1 &&& x_154 = z := ⟨_, rfl⟩
            refine ww_iand (v := x_155) C dX2_plain_72 ex_155 ?_
            refine ww_istore (lv' := [(10, .int x_155), (9, .int x_153), (8, .int (nI (tt - 1))), (4, .int (nI tt)), (7, .int x_142), (6, .int 7), (5, .int (nI j_7)), (3, .int r_1), (0, .ref qj), (1, .ref h), (2, .ref sa)]) C dX2_plain_73 rfl rfl ?_
            refine ww_iload C dX2_plain_75 5 rfl ?_
            refine ww_tableIn (tgt := 259) C dX2_plain_77 (by decide) (by decide) rfl (by decide) ?_
            refine ww_aload_n C dX2_plain_259 8 rfl rfl ?_
            refine ww_get C fg_X2_23 0 rfl rfl dX2_plain_260 ?_
            refine ww_iload C dX2_plain_263 2 rfl ?_
            refine ww_iload_n C dX2_plain_265 7 rfl rfl ?_
            refine ww_aload_n C dX2_plain_266 9 rfl rfl ?_
            refine ww_iload C dX2_plain_267 4 rfl ?_
            refine ww_iload C dX2_plain_269 0 rfl ?_
            refine ww_bipush (v := 24) C dX2_plain_271 rfl ?_
            refine ww_ci (wr := [(qj, .inr (2, [.ref jt, .ref je, .ref ju, .ref ja])), (ju, .inl (E.2.1 1, 32, .inl f1))]) (k' := 0) (n' := 0) C (run_V (As := [.int x_142, .int x_155, .int 24]) (rest := [.int r_1, .int (nI (tt - 1)), .ref ju]) C (m_leadingTo X.2.1 E ro h x_142 x_155 24 n r a b f gg (by omega) (by omega) (by omega)) mi_X4_leadingTo wl_X2_87 rfl 0 4 rfl rfl rfl rfl rfl dX2_plain_273) (roK hro) [4, 2, 3] [0, 1] rfl rfl rfl rfl (fun r_156 uz hw => ?_)
            refine an1 hw ?_
            clear hw
            intro he_158 hw
            have h_157 := hw
            clear hw
            subst he_158
            refine ww_eq (ws' := [(qj, .inr (2, [.ref jt, .ref je, .ref ju, .ref ja])), (ju, .inl (E.2.1 1, 32, .inl f1)), (h, .inr (4, [.int (nI n), .int (nI r), .ref a, .ref b])), (a, .inl (E.2.1 1, 24, .inl f)), (b, .inl (E.2.1 1, 96, .inl gg))]) ?_ rfl rfl rfl
            refine ww_iconst (v := (-1)) C dX2_plain_276 rfl ?_
            obtain ⟨x_159, ex_159⟩ : ∃ z : Int32, r_156 ^^^ ((-1) : Int32) = z := ⟨_, rfl⟩
            refine ww_ixor (v := x_159) C dX2_plain_277 ex_159 ?_
            obtain ⟨x_160, ex_160⟩ : ∃ z : Int32, r_1 &&& x_159 = z := ⟨_, rfl⟩
            refine ww_iand (v := x_160) C dX2_plain_278 ex_160 ?_
            obtain ⟨f_161, ef_161⟩ : ∃ z : Nat → Int32, upd f1 (tt - 1) x_160 = z := ⟨_, rfl⟩
            refine ww_iast (ws' := [(qj, .inr (2, [.ref jt, .ref je, .ref ju, .ref ja])), (ju, .inl (E.2.1 1, 32, .inl f_161)), (h, .inr (4, [.int (nI n), .int (nI r), .ref a, .ref b])), (a, .inl (E.2.1 1, 24, .inl f)), (b, .inl (E.2.1 1, 96, .inl gg))]) C 1 rfl (vp_in_nI (by omega) (by omega)) (ldn2 (by omega) ef_161) rfl dX2_plain_279 ?_
            refine ww_goto (tgt := 298) C dX2_plain_280 (by decide) ?_
            obtain ⟨x_162, ex_162⟩ : ∃ z : Int32, (nI j_7) + Int32.ofInt (-1) = z := ⟨_, rfl⟩
            have zx_162 : x_162.toInt = ((j_7 : Nat) : Int) - 1 := by rw [← ex_162]; exact i_dec (c := 1) (nI_toInt (n := j_7) (by omega)) rfl (by omega) (by omega)
            refine ww_iinc (j := 6) (v := x_162) (lv' := [(5, .int x_162), (10, .int x_155), (9, .int x_153), (8, .int (nI (tt - 1))), (4, .int (nI tt)), (7, .int x_142), (6, .int 7), (3, .int r_1), (0, .ref qj), (1, .ref h), (2, .ref sa)]) C dX2_plain_298 rfl ex_162 rfl rfl ?_
            refine ww_goto (tgt := 17) C dX2_plain_301 (by decide) ?_
            exact ww_lv [0, 4, 7, 8, 9, 10] rfl (ww_sub [0, 1, 3, 4, 2] rfl rfl (ih_17 x_162 j_7 tt f_161 (by omega) (by omega) (by omega) (st_s (l := (tt - 1)) hst (by omega) (by omega) (by rw [show so j_7 = 7 from ex_8, show sr j_7 = x_142 from ex_142]; exact (ev_7 hwfm hn hal (BS.at ex_153 (hst (tt - 1) (by omega))) ex_154 ex_155 h_157 ex_159 ex_160)) ef_161) (by omega)))
        · rw [ex_8, uN_8] at hoj_7
          refine ww_aload_n C dX2_plain_31 6 rfl rfl ?_
          refine ww_getR C hro fg_X2_77 i0 h0 rfl dX2_plain_32 ?_
          refine ww_iload C dX2_plain_35 1 rfl ?_
          obtain ⟨x_163, ex_163⟩ : ∃ z : Int32, sr j_7 = z := ⟨_, rfl⟩
          refine ww_ialdR (v := x_163) C hro i2 h2 (vp_in_nI (by omega) (by omega)) (ldn (by omega) ex_163) dX2_plain_37 ?_
          refine ww_istore (lv' := [(7, .int x_163), (6, .int 8), (5, .int (nI j_7)), (4, .int (nI tt)), (3, .int r_1), (0, .ref qj), (1, .ref h), (2, .ref sa)]) C dX2_plain_38 rfl rfl ?_
          refine ww_iload C dX2_plain_40 3 rfl ?_
          refine ww_iconst (v := 1) C dX2_plain_42 rfl ?_
          refine ww_iload C dX2_plain_43 1 rfl ?_
          refine ww_ci (wr := [(qj, .inr (2, [.ref jt, .ref je, .ref ju, .ref ja])), (ju, .inl (E.2.1 1, 32, .inl f1)), (a, .inl (E.2.1 1, 24, .inl f)), (b, .inl (E.2.1 1, 96, .inl gg)), (h, .inr (4, [.int (nI n), .int (nI r), .ref a, .ref b]))]) (k' := 0) (n' := 0) C (run_SN (As := [.int 8]) (rest := [.int 1, .int (nI tt)]) C (c_under X.2.1 E ro 8) ms_X11_under (List.mem_of_getElem? (i := 15) rfl) rfl rfl rfl rfl dX2_plain_45) (roK hro) [] [0, 1, 2, 3, 4] rfl rfl rfl rfl (fun r_164 uz hw => ?_)
          rcases hw with hw | hw | hw
          · refine an2 hw ?_
            clear hw
            intro he_166 he_167 hw
            have h_165 := hw
            clear hw
            have he_166 := he_166.symm
            subst he_166
            subst he_167
            exact absurd h_165 (by decide)
          · refine an2 hw ?_
            clear hw
            intro he_169 he_170 hw
            have h_168 := hw
            clear hw
            have he_169 := he_169.symm
            subst he_169
            subst he_170
            exact absurd h_168 (by decide)
          · refine an2 hw ?_
            clear hw
            intro he_172 he_173 hw
            have h_171 := hw
            clear hw
            have he_172 := he_172.symm
            subst he_172
            subst he_173
            refine ww_eq (ws' := [(qj, .inr (2, [.ref jt, .ref je, .ref ju, .ref ja])), (ju, .inl (E.2.1 1, 32, .inl f1)), (a, .inl (E.2.1 1, 24, .inl f)), (b, .inl (E.2.1 1, 96, .inl gg)), (h, .inr (4, [.int (nI n), .int (nI r), .ref a, .ref b]))]) ?_ rfl rfl rfl
            refine ww_isub (v := 0) C dX2_plain_48 (by decide) ?_
            refine ww_iadd (v := (nI tt)) C dX2_plain_49 (nI_add tt 0) ?_
            refine ww_istore (lv' := [(4, .int (nI tt)), (7, .int x_163), (6, .int 8), (5, .int (nI j_7)), (3, .int r_1), (0, .ref qj), (1, .ref h), (2, .ref sa)]) C dX2_plain_50 rfl rfl ?_
            refine ww_iload C dX2_plain_52 0 rfl ?_
            refine ww_iconst (v := 1) C dX2_plain_54 rfl ?_
            refine ww_isub (v := (nI (tt - 1))) C dX2_plain_55 (pk_sub (a := tt) (b := 1) (by omega)) ?_
            refine ww_istore (lv' := [(8, .int (nI (tt - 1))), (4, .int (nI tt)), (7, .int x_163), (6, .int 8), (5, .int (nI j_7)), (3, .int r_1), (0, .ref qj), (1, .ref h), (2, .ref sa)]) C dX2_plain_56 rfl rfl ?_
            refine ww_aload_n C dX2_plain_58 6 rfl rfl ?_
            refine ww_get C fg_X2_23 0 rfl rfl dX2_plain_59 ?_
            refine ww_iload C dX2_plain_62 0 rfl ?_
            obtain ⟨x_174, ex_174⟩ : ∃ z : Int32, f1 (tt - 1) = z := ⟨_, rfl⟩
            refine ww_iald (v := x_174) C 1 rfl (vp_in_nI (by omega) (by omega)) (ldn (by omega) ex_174) dX2_plain_64 ?_
            refine ww_istore (lv' := [(9, .int x_174), (8, .int (nI (tt - 1))), (4, .int (nI tt)), (7, .int x_163), (6, .int 8), (5, .int (nI j_7)), (3, .int r_1), (0, .ref qj), (1, .ref h), (2, .ref sa)]) C dX2_plain_65 rfl rfl ?_
            refine ww_iload_n C dX2_plain_67 6 rfl rfl ?_
            refine ww_iload C dX2_plain_68 0 rfl ?_
            refine ww_iconst (v := (-1)) C dX2_plain_70 rfl ?_
            obtain ⟨x_175, ex_175⟩ : ∃ z : Int32, x_174 ^^^ ((-1) : Int32) = z := ⟨_, rfl⟩
            refine ww_ixor (v := x_175) C dX2_plain_71 ex_175 ?_
            obtain ⟨x_176, ex_176⟩ : ∃ z : Int32, r_1 &&& x_175 = z := ⟨_, rfl⟩
            refine ww_iand (v := x_176) C dX2_plain_72 ex_176 ?_
            refine ww_istore (lv' := [(10, .int x_176), (9, .int x_174), (8, .int (nI (tt - 1))), (4, .int (nI tt)), (7, .int x_163), (6, .int 8), (5, .int (nI j_7)), (3, .int r_1), (0, .ref qj), (1, .ref h), (2, .ref sa)]) C dX2_plain_73 rfl rfl ?_
            refine ww_iload C dX2_plain_75 5 rfl ?_
            refine ww_tableOut (tgt := 283) C dX2_plain_77 (by decide) (by decide) ?_
            refine ww_aload_n C dX2_plain_283 8 rfl rfl ?_
            refine ww_get C fg_X2_23 0 rfl rfl dX2_plain_284 ?_
            refine ww_iload C dX2_plain_287 2 rfl ?_
            refine ww_aload_n C dX2_plain_289 9 rfl rfl ?_
            refine ww_iload C dX2_plain_290 4 rfl ?_
            refine ww_iload C dX2_plain_292 1 rfl ?_
            refine ww_ci (wr := [(qj, .inr (2, [.ref jt, .ref je, .ref ju, .ref ja])), (ju, .inl (E.2.1 1, 32, .inl f1))]) (k' := 0) (n' := 0) C (run_V (As := [.int x_163, .int x_174]) (rest := [.int (nI (tt - 1)), .ref ju]) C (m_togetherWithin X.2.1 E ro h x_163 x_174 n r a b f gg (by omega) (by omega)) mi_X4_togetherWithin wl_X2_91 rfl 0 4 rfl rfl rfl rfl rfl dX2_plain_294) (roK hro) [4, 2, 3] [0, 1] rfl rfl rfl rfl (fun r_177 uz hw => ?_)
            refine an1 hw ?_
            clear hw
            intro he_179 hw
            have h_178 := hw
            clear hw
            subst he_179
            refine ww_eq (ws' := [(qj, .inr (2, [.ref jt, .ref je, .ref ju, .ref ja])), (ju, .inl (E.2.1 1, 32, .inl f1)), (h, .inr (4, [.int (nI n), .int (nI r), .ref a, .ref b])), (a, .inl (E.2.1 1, 24, .inl f)), (b, .inl (E.2.1 1, 96, .inl gg))]) ?_ rfl rfl rfl
            obtain ⟨f_180, ef_180⟩ : ∃ z : Nat → Int32, upd f1 (tt - 1) r_177 = z := ⟨_, rfl⟩
            refine ww_iast (ws' := [(qj, .inr (2, [.ref jt, .ref je, .ref ju, .ref ja])), (ju, .inl (E.2.1 1, 32, .inl f_180)), (h, .inr (4, [.int (nI n), .int (nI r), .ref a, .ref b])), (a, .inl (E.2.1 1, 24, .inl f)), (b, .inl (E.2.1 1, 96, .inl gg))]) C 1 rfl (vp_in_nI (by omega) (by omega)) (ldn2 (by omega) ef_180) rfl dX2_plain_297 ?_
            obtain ⟨x_181, ex_181⟩ : ∃ z : Int32, (nI j_7) + Int32.ofInt (-1) = z := ⟨_, rfl⟩
            have zx_181 : x_181.toInt = ((j_7 : Nat) : Int) - 1 := by rw [← ex_181]; exact i_dec (c := 1) (nI_toInt (n := j_7) (by omega)) rfl (by omega) (by omega)
            refine ww_iinc (j := 6) (v := x_181) (lv' := [(5, .int x_181), (10, .int x_176), (9, .int x_174), (8, .int (nI (tt - 1))), (4, .int (nI tt)), (7, .int x_163), (6, .int 8), (3, .int r_1), (0, .ref qj), (1, .ref h), (2, .ref sa)]) C dX2_plain_298 rfl ex_181 rfl rfl ?_
            refine ww_goto (tgt := 17) C dX2_plain_301 (by decide) ?_
            exact ww_lv [0, 4, 7, 8, 9, 10] rfl (ww_sub [0, 1, 3, 4, 2] rfl rfl (ih_17 x_181 j_7 tt f_180 (by omega) (by omega) (by omega) (st_s (l := (tt - 1)) hst (by omega) (by omega) (by rw [show so j_7 = 8 from ex_8, show sr j_7 = x_163 from ex_163]; exact (ev_8 (BS.at ex_174 (hst (tt - 1) (by omega))) h_178)) ef_180) (by omega)))
  exact ww_lv [0, 1, 2, 3, 4, 5] rfl (ww_sub [0, 1, 2, 3, 4] rfl rfl (loop_17 _ x_4 nn 0 ft (by omega) (by omega) (by have := hwf.2.2.2.2; omega) (st_0 hwf.2.2.2.2) (Nat.lt_succ_self _)))
