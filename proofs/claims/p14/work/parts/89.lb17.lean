section
theorem dL_law_200 : decode cL_law 200 = .ok (.aload_n 1, 1) := dl_43 (by decide +kernel)
theorem dL_law_201 : decode cL_law 201 = .ok (.aload_n 0, 1) := dl_42 (by decide +kernel)
theorem dL_law_202 : decode cL_law 202 = .ok (.iload_n 3, 1) := dl_29 (by decide +kernel)
theorem dL_law_203 : decode cL_law 203 = .ok (.iconst 1, 1) := dl_4 (by decide +kernel)
theorem dL_law_204 : decode cL_law 204 = .ok (.iadd, 1) := dl_96 (by decide +kernel)
theorem dL_law_205 : decode cL_law 205 = .ok (.iaload, 1) := dl_46 (by decide +kernel)
theorem dL_law_209 : decode cL_law 209 = .ok (.pop, 1) := dl_87 (by decide +kernel)
theorem dL_law_210 : decode cL_law 210 = .ok (.aload_n 2, 1) := dl_44 (by decide +kernel)
theorem dL_law_211 : decode cL_law 211 = .ok (.aload_n 0, 1) := dl_42 (by decide +kernel)
theorem dL_law_212 : decode cL_law 212 = .ok (.iload_n 3, 1) := dl_29 (by decide +kernel)
theorem dL_law_213 : decode cL_law 213 = .ok (.iconst 1, 1) := dl_4 (by decide +kernel)
theorem dL_law_214 : decode cL_law 214 = .ok (.iadd, 1) := dl_96 (by decide +kernel)
theorem dL_law_215 : decode cL_law 215 = .ok (.iaload, 1) := dl_46 (by decide +kernel)
theorem dL_law_219 : decode cL_law 219 = .ok (.pop, 1) := dl_87 (by decide +kernel)
theorem dL_law_220 : decode cL_law 220 = .ok (.goto 1232, 3) := dl_167 (by decide +kernel)
set_option maxRecDepth 100000 in
set_option maxHeartbeats 4000000 in
theorem lawc_world {X : XT} {E : EV} {xs : Nat → Int32} {ws : va_W} {bb L hx hm i1 kC nC : Nat} {tl : Nat} {ct : Nat → Int} {pe : Nat} {kn : Int32} {ac : Nat} {np : Nat} {kc : Nat} {mN : AM} {pV : Nat → AM} {kV : Nat → AM} {st : Nat → Nat} {sn : Nat → Nat} {sl : Nat → Nat} {scx : Nat → Nat → Int32} {tT : Nat → Option SVal} {ec : Nat → Nat} {er : Nat → Nat} {ed : Nat → Nat → Int32} {eT : Nat → Nat → Option SVal} {eb : Nat → Nat → Int32} {en : Nat → Nat → Int32} {q_undos : Nat} {q_models : Nat} {PGv : Nat → AM} {f_afterOf : Nat → Int32} {f_actMany : Nat → Int32} {f_actOf : Nat → Int32} {f_whom : Nat → Int32} {f_hasIf : Nat → Int32} {f_becomes : Nat → Int32} {f_goneOf : Nat → Int32} {q_taped : Nat} {cr : Nat → Int} {q_people : Nat} {f_secrets : Nat → Int32} {f_lanes : Nat → Int32} {f_lengths : Nat → Int32} {f_cells : Nat → Int32} {f_tokens : Nat → Int32} {f_afters : Nat → Int32} {f_caseMany : Nat → Int32} {f_happen : Nat → Int32} {f_heard : Nat → Int32} (C : CX X room_1 cL_law 4 RL ret E) (hs : SX X bb L xs) (hi : i1 + 6 ≤ L) (hL : L ≤ 3072) (hk : kC + 4 ≤ 600000 ∧ nC + 73 ≤ 7302250) (hS : ST E hx hm tl ct pe kn ac np kc mN pV kV st sn sl scx tT ec er ed eT eb en q_undos q_models PGv f_afterOf f_actMany f_actOf f_whom f_hasIf f_becomes f_goneOf q_taped cr q_people f_secrets f_lanes f_lengths f_cells f_tokens f_afters f_caseMany f_happen f_heard ws) (hR : RL_ tl ct pe kn ac np kc mN pV kV st sn sl scx tT ec er ed eT eb en q_undos q_models PGv f_afterOf f_actMany f_actOf f_whom f_hasIf f_becomes f_goneOf q_taped cr q_people f_secrets f_lanes f_lengths f_cells f_tokens f_afters f_caseMany f_happen f_heard) (kk : ∀ (tl : Nat) (ct : Nat → Int) (pe : Nat) (kn : Int32) (ac : Nat) (np : Nat) (kc : Nat) (mN : AM) (pV : Nat → AM) (kV : Nat → AM) (st : Nat → Nat) (sn : Nat → Nat) (sl : Nat → Nat) (scx : Nat → Nat → Int32) (tT : Nat → Option SVal) (ec : Nat → Nat) (er : Nat → Nat) (ed : Nat → Nat → Int32) (eT : Nat → Nat → Option SVal) (eb : Nat → Nat → Int32) (en : Nat → Nat → Int32) (q_undos : Nat) (q_models : Nat) (PGv : Nat → AM) (f_afterOf : Nat → Int32) (f_actMany : Nat → Int32) (f_actOf : Nat → Int32) (f_whom : Nat → Int32) (f_hasIf : Nat → Int32) (f_becomes : Nat → Int32) (f_goneOf : Nat → Int32) (q_taped : Nat) (cr : Nat → Int) (q_people : Nat) (f_secrets : Nat → Int32) (f_lanes : Nat → Int32) (f_lengths : Nat → Int32) (f_cells : Nat → Int32) (f_tokens : Nat → Int32) (f_afters : Nat → Int32) (f_caseMany : Nat → Int32) (f_happen : Nat → Int32) (f_heard : Nat → Int32) (wsZ : va_W), ST E hx hm tl ct pe kn ac np kc mN pV kV st sn sl scx tT ec er ed eT eb en q_undos q_models PGv f_afterOf f_actMany f_actOf f_whom f_hasIf f_becomes f_goneOf q_taped cr q_people f_secrets f_lanes f_lengths f_cells f_tokens f_afters f_caseMany f_happen f_heard wsZ → RL_ tl ct pe kn ac np kc mN pV kV st sn sl scx tT ec er ed eT eb en q_undos q_models PGv f_afterOf f_actMany f_actOf f_whom f_hasIf f_becomes f_goneOf q_taped cr q_people f_secrets f_lanes f_lengths f_cells f_tokens f_afters f_caseMany f_happen f_heard → WW X 4 E 1452 [(3, .int (nI i1)), (2, .ref hm), (1, .ref hx), (0, .ref bb)] [] wsZ (kC + 4) (nC + 73)) : WW X 4 E 200 [(3, .int (nI i1)), (2, .ref hm), (1, .ref hx), (0, .ref bb)] [] ws kC nC := by
  obtain ⟨a0, ea0⟩ : ∃ z : Int32, xs (i1 + 1) = z := ⟨_, rfl⟩
  refine ww_aload_n C dL_law_200 2 rfl rfl ?_
  refine ww_aload_n C dL_law_201 3 rfl rfl ?_
  refine ww_iload_n C dL_law_202 0 rfl rfl ?_
  refine ww_iconst (v := 1) C dL_law_203 rfl ?_
  refine ww_iadd (v := (nI (i1 + 1))) C dL_law_204 (nI_add i1 1) ?_
  refine ww_sld (v := a0) C hs (vp_in_nI (by omega) (by omega)) (ldn (by omega) ea0) dL_law_205 ?_
  refine cx_world C rfl ⟨by omega, by omega⟩ hS (fun r_1 mN_5 pV_6 ac_7 np_8 ws_2 hS_3 hE_4 => ?_)
  replace hE_4 := hd_mk hE_4
  refine ww_pop C dL_law_209 rfl ?_
  refine ww_aload_n C dL_law_210 1 rfl rfl ?_
  refine ww_aload_n C dL_law_211 3 rfl rfl ?_
  refine ww_iload_n C dL_law_212 0 rfl rfl ?_
  refine ww_iconst (v := 1) C dL_law_213 rfl ?_
  refine ww_iadd (v := (nI (i1 + 1))) C dL_law_214 (nI_add i1 1) ?_
  refine ww_sld (v := a0) C hs (vp_in_nI (by omega) (by omega)) (ldn (by omega) ea0) dL_law_215 ?_
  refine my_world C rfl ⟨by omega, by omega⟩ hS_3 (fun r_9 q_undos_13 PGv_14 ws_10 hS_11 hE_12 => ?_)
  replace hE_12 := hd_mk hE_12
  refine ww_pop C dL_law_219 rfl ?_
  refine ww_goto (tgt := 1452) C dL_law_220 (by decide) ?_
  exact ww_wid (by omega) (by omega) (kk tl ct pe kn ac_7 np_8 kc mN_5 pV_6 kV st sn sl scx tT ec er ed eT eb en q_undos_13 q_models PGv_14 f_afterOf f_actMany f_actOf f_whom f_hasIf f_becomes f_goneOf q_taped cr q_people f_secrets f_lanes f_lengths f_cells f_tokens f_afters f_caseMany f_happen f_heard _ hS_11 ⟨hR.1, hR.2.1, hR.2.2.1, hR.2.2.2.1, hR.2.2.2.2.1, hR.2.2.2.2.2.1, hR.2.2.2.2.2.2.1, hR.2.2.2.2.2.2.2.1, (re_world hE_4 hE_12 hR (ST.tl hS)).1, (re_world hE_4 hE_12 hR (ST.tl hS)).2, hR.2.2.2.2.2.2.2.2.2.2.1, hR.2.2.2.2.2.2.2.2.2.2.2.1, hR.2.2.2.2.2.2.2.2.2.2.2.2.1, hR.2.2.2.2.2.2.2.2.2.2.2.2.2⟩)
theorem dL_law_223 : decode cL_law 223 = .ok (.aload_n 1, 1) := dl_43 (by decide +kernel)
theorem dL_law_224 : decode cL_law 224 = .ok (.aload_n 0, 1) := dl_42 (by decide +kernel)
theorem dL_law_225 : decode cL_law 225 = .ok (.iload_n 3, 1) := dl_29 (by decide +kernel)
theorem dL_law_226 : decode cL_law 226 = .ok (.iconst 1, 1) := dl_4 (by decide +kernel)
theorem dL_law_227 : decode cL_law 227 = .ok (.iadd, 1) := dl_96 (by decide +kernel)
theorem dL_law_228 : decode cL_law 228 = .ok (.iaload, 1) := dl_46 (by decide +kernel)
theorem dL_law_229 : decode cL_law 229 = .ok (.aload_n 0, 1) := dl_42 (by decide +kernel)
theorem dL_law_230 : decode cL_law 230 = .ok (.iload_n 3, 1) := dl_29 (by decide +kernel)
theorem dL_law_231 : decode cL_law 231 = .ok (.iconst 2, 1) := dl_5 (by decide +kernel)
theorem dL_law_232 : decode cL_law 232 = .ok (.iadd, 1) := dl_96 (by decide +kernel)
theorem dL_law_233 : decode cL_law 233 = .ok (.iaload, 1) := dl_46 (by decide +kernel)
theorem dL_law_234 : decode cL_law 234 = .ok (.aload_n 0, 1) := dl_42 (by decide +kernel)
theorem dL_law_235 : decode cL_law 235 = .ok (.iload_n 3, 1) := dl_29 (by decide +kernel)
theorem dL_law_236 : decode cL_law 236 = .ok (.iconst 3, 1) := dl_6 (by decide +kernel)
theorem dL_law_237 : decode cL_law 237 = .ok (.iadd, 1) := dl_96 (by decide +kernel)
theorem dL_law_238 : decode cL_law 238 = .ok (.iaload, 1) := dl_46 (by decide +kernel)
theorem dL_law_239 : decode cL_law 239 = .ok (.aload_n 0, 1) := dl_42 (by decide +kernel)
theorem dL_law_240 : decode cL_law 240 = .ok (.iload_n 3, 1) := dl_29 (by decide +kernel)
theorem dL_law_241 : decode cL_law 241 = .ok (.iconst 4, 1) := dl_7 (by decide +kernel)
theorem dL_law_242 : decode cL_law 242 = .ok (.iadd, 1) := dl_96 (by decide +kernel)
theorem dL_law_243 : decode cL_law 243 = .ok (.iaload, 1) := dl_46 (by decide +kernel)
theorem dL_law_244 : decode cL_law 244 = .ok (.ifCond .eq 7, 3) := dl_153 (by decide +kernel)
theorem dL_law_251 : decode cL_law 251 = .ok (.iconst 0, 1) := dl_3 (by decide +kernel)
theorem dL_law_252 : decode cL_law 252 = .ok (.aload_n 0, 1) := dl_42 (by decide +kernel)
theorem dL_law_253 : decode cL_law 253 = .ok (.iload_n 3, 1) := dl_29 (by decide +kernel)
theorem dL_law_254 : decode cL_law 254 = .ok (.iconst 5, 1) := dl_8 (by decide +kernel)
theorem dL_law_255 : decode cL_law 255 = .ok (.iadd, 1) := dl_96 (by decide +kernel)
theorem dL_law_256 : decode cL_law 256 = .ok (.iaload, 1) := dl_46 (by decide +kernel)
theorem dL_law_257 : decode cL_law 257 = .ok (.ifCond .eq 7, 3) := dl_153 (by decide +kernel)
theorem dL_law_264 : decode cL_law 264 = .ok (.iconst 0, 1) := dl_3 (by decide +kernel)
theorem dL_law_268 : decode cL_law 268 = .ok (.pop, 1) := dl_87 (by decide +kernel)
theorem dL_law_269 : decode cL_law 269 = .ok (.aload_n 2, 1) := dl_44 (by decide +kernel)
theorem dL_law_270 : decode cL_law 270 = .ok (.aload_n 0, 1) := dl_42 (by decide +kernel)
theorem dL_law_271 : decode cL_law 271 = .ok (.iload_n 3, 1) := dl_29 (by decide +kernel)
theorem dL_law_272 : decode cL_law 272 = .ok (.iconst 1, 1) := dl_4 (by decide +kernel)
theorem dL_law_273 : decode cL_law 273 = .ok (.iadd, 1) := dl_96 (by decide +kernel)
theorem dL_law_274 : decode cL_law 274 = .ok (.iaload, 1) := dl_46 (by decide +kernel)
theorem dL_law_275 : decode cL_law 275 = .ok (.aload_n 0, 1) := dl_42 (by decide +kernel)
theorem dL_law_276 : decode cL_law 276 = .ok (.iload_n 3, 1) := dl_29 (by decide +kernel)
theorem dL_law_277 : decode cL_law 277 = .ok (.iconst 2, 1) := dl_5 (by decide +kernel)
theorem dL_law_278 : decode cL_law 278 = .ok (.iadd, 1) := dl_96 (by decide +kernel)
theorem dL_law_279 : decode cL_law 279 = .ok (.iaload, 1) := dl_46 (by decide +kernel)
theorem dL_law_280 : decode cL_law 280 = .ok (.aload_n 0, 1) := dl_42 (by decide +kernel)
theorem dL_law_281 : decode cL_law 281 = .ok (.iload_n 3, 1) := dl_29 (by decide +kernel)
theorem dL_law_282 : decode cL_law 282 = .ok (.iconst 3, 1) := dl_6 (by decide +kernel)
theorem dL_law_283 : decode cL_law 283 = .ok (.iadd, 1) := dl_96 (by decide +kernel)
theorem dL_law_284 : decode cL_law 284 = .ok (.iaload, 1) := dl_46 (by decide +kernel)
theorem dL_law_285 : decode cL_law 285 = .ok (.aload_n 0, 1) := dl_42 (by decide +kernel)
theorem dL_law_286 : decode cL_law 286 = .ok (.iload_n 3, 1) := dl_29 (by decide +kernel)
theorem dL_law_287 : decode cL_law 287 = .ok (.iconst 4, 1) := dl_7 (by decide +kernel)
theorem dL_law_288 : decode cL_law 288 = .ok (.iadd, 1) := dl_96 (by decide +kernel)
theorem dL_law_289 : decode cL_law 289 = .ok (.iaload, 1) := dl_46 (by decide +kernel)
theorem dL_law_290 : decode cL_law 290 = .ok (.ifCond .eq 7, 3) := dl_153 (by decide +kernel)
theorem dL_law_297 : decode cL_law 297 = .ok (.iconst 0, 1) := dl_3 (by decide +kernel)
theorem dL_law_298 : decode cL_law 298 = .ok (.aload_n 0, 1) := dl_42 (by decide +kernel)
theorem dL_law_299 : decode cL_law 299 = .ok (.iload_n 3, 1) := dl_29 (by decide +kernel)
theorem dL_law_300 : decode cL_law 300 = .ok (.iconst 5, 1) := dl_8 (by decide +kernel)
theorem dL_law_301 : decode cL_law 301 = .ok (.iadd, 1) := dl_96 (by decide +kernel)
theorem dL_law_302 : decode cL_law 302 = .ok (.iaload, 1) := dl_46 (by decide +kernel)
theorem dL_law_303 : decode cL_law 303 = .ok (.ifCond .eq 7, 3) := dl_153 (by decide +kernel)
theorem dL_law_310 : decode cL_law 310 = .ok (.iconst 0, 1) := dl_3 (by decide +kernel)
theorem dL_law_314 : decode cL_law 314 = .ok (.pop, 1) := dl_87 (by decide +kernel)
theorem dL_law_315 : decode cL_law 315 = .ok (.goto 1137, 3) := dl_167 (by decide +kernel)
theorem dL_law_260 : decode cL_law 260 = .ok (.iconst 1, 1) := dl_4 (by decide +kernel)
theorem dL_law_261 : decode cL_law 261 = .ok (.goto 4, 3) := dl_167 (by decide +kernel)
theorem dL_law_306 : decode cL_law 306 = .ok (.iconst 1, 1) := dl_4 (by decide +kernel)
theorem dL_law_307 : decode cL_law 307 = .ok (.goto 4, 3) := dl_167 (by decide +kernel)
theorem dL_law_247 : decode cL_law 247 = .ok (.iconst 1, 1) := dl_4 (by decide +kernel)
theorem dL_law_248 : decode cL_law 248 = .ok (.goto 4, 3) := dl_167 (by decide +kernel)
theorem dL_law_293 : decode cL_law 293 = .ok (.iconst 1, 1) := dl_4 (by decide +kernel)
theorem dL_law_294 : decode cL_law 294 = .ok (.goto 4, 3) := dl_167 (by decide +kernel)
set_option maxRecDepth 100000 in
set_option maxHeartbeats 4000000 in
theorem lawc_sees {X : XT} {E : EV} {xs : Nat → Int32} {ws : va_W} {bb L hx hm i1 kC nC : Nat} {tl : Nat} {ct : Nat → Int} {pe : Nat} {kn : Int32} {ac : Nat} {np : Nat} {kc : Nat} {mN : AM} {pV : Nat → AM} {kV : Nat → AM} {st : Nat → Nat} {sn : Nat → Nat} {sl : Nat → Nat} {scx : Nat → Nat → Int32} {tT : Nat → Option SVal} {ec : Nat → Nat} {er : Nat → Nat} {ed : Nat → Nat → Int32} {eT : Nat → Nat → Option SVal} {eb : Nat → Nat → Int32} {en : Nat → Nat → Int32} {q_undos : Nat} {q_models : Nat} {PGv : Nat → AM} {f_afterOf : Nat → Int32} {f_actMany : Nat → Int32} {f_actOf : Nat → Int32} {f_whom : Nat → Int32} {f_hasIf : Nat → Int32} {f_becomes : Nat → Int32} {f_goneOf : Nat → Int32} {q_taped : Nat} {cr : Nat → Int} {q_people : Nat} {f_secrets : Nat → Int32} {f_lanes : Nat → Int32} {f_lengths : Nat → Int32} {f_cells : Nat → Int32} {f_tokens : Nat → Int32} {f_afters : Nat → Int32} {f_caseMany : Nat → Int32} {f_happen : Nat → Int32} {f_heard : Nat → Int32} (C : CX X room_1 cL_law 4 RL ret E) (hs : SX X bb L xs) (hi : i1 + 6 ≤ L) (hL : L ≤ 3072) (hk : kC + 4 ≤ 600000 ∧ nC + 73 ≤ 7302250) (hS : ST E hx hm tl ct pe kn ac np kc mN pV kV st sn sl scx tT ec er ed eT eb en q_undos q_models PGv f_afterOf f_actMany f_actOf f_whom f_hasIf f_becomes f_goneOf q_taped cr q_people f_secrets f_lanes f_lengths f_cells f_tokens f_afters f_caseMany f_happen f_heard ws) (hR : RL_ tl ct pe kn ac np kc mN pV kV st sn sl scx tT ec er ed eT eb en q_undos q_models PGv f_afterOf f_actMany f_actOf f_whom f_hasIf f_becomes f_goneOf q_taped cr q_people f_secrets f_lanes f_lengths f_cells f_tokens f_afters f_caseMany f_happen f_heard) (kk : ∀ (tl : Nat) (ct : Nat → Int) (pe : Nat) (kn : Int32) (ac : Nat) (np : Nat) (kc : Nat) (mN : AM) (pV : Nat → AM) (kV : Nat → AM) (st : Nat → Nat) (sn : Nat → Nat) (sl : Nat → Nat) (scx : Nat → Nat → Int32) (tT : Nat → Option SVal) (ec : Nat → Nat) (er : Nat → Nat) (ed : Nat → Nat → Int32) (eT : Nat → Nat → Option SVal) (eb : Nat → Nat → Int32) (en : Nat → Nat → Int32) (q_undos : Nat) (q_models : Nat) (PGv : Nat → AM) (f_afterOf : Nat → Int32) (f_actMany : Nat → Int32) (f_actOf : Nat → Int32) (f_whom : Nat → Int32) (f_hasIf : Nat → Int32) (f_becomes : Nat → Int32) (f_goneOf : Nat → Int32) (q_taped : Nat) (cr : Nat → Int) (q_people : Nat) (f_secrets : Nat → Int32) (f_lanes : Nat → Int32) (f_lengths : Nat → Int32) (f_cells : Nat → Int32) (f_tokens : Nat → Int32) (f_afters : Nat → Int32) (f_caseMany : Nat → Int32) (f_happen : Nat → Int32) (f_heard : Nat → Int32) (wsZ : va_W), ST E hx hm tl ct pe kn ac np kc mN pV kV st sn sl scx tT ec er ed eT eb en q_undos q_models PGv f_afterOf f_actMany f_actOf f_whom f_hasIf f_becomes f_goneOf q_taped cr q_people f_secrets f_lanes f_lengths f_cells f_tokens f_afters f_caseMany f_happen f_heard wsZ → RL_ tl ct pe kn ac np kc mN pV kV st sn sl scx tT ec er ed eT eb en q_undos q_models PGv f_afterOf f_actMany f_actOf f_whom f_hasIf f_becomes f_goneOf q_taped cr q_people f_secrets f_lanes f_lengths f_cells f_tokens f_afters f_caseMany f_happen f_heard → WW X 4 E 1452 [(3, .int (nI i1)), (2, .ref hm), (1, .ref hx), (0, .ref bb)] [] wsZ (kC + 4) (nC + 73)) : WW X 4 E 223 [(3, .int (nI i1)), (2, .ref hm), (1, .ref hx), (0, .ref bb)] [] ws kC nC := by
  obtain ⟨a0, ea0⟩ : ∃ z : Int32, xs (i1 + 1) = z := ⟨_, rfl⟩
  obtain ⟨a1, ea1⟩ : ∃ z : Int32, xs (i1 + 2) = z := ⟨_, rfl⟩
  obtain ⟨a2, ea2⟩ : ∃ z : Int32, xs (i1 + 3) = z := ⟨_, rfl⟩
  obtain ⟨a3, ea3⟩ : ∃ z : Int32, xs (i1 + 4) = z := ⟨_, rfl⟩
  obtain ⟨a4, ea4⟩ : ∃ z : Int32, xs (i1 + 5) = z := ⟨_, rfl⟩
  refine ww_aload_n C dL_law_223 2 rfl rfl ?_
  refine ww_aload_n C dL_law_224 3 rfl rfl ?_
  refine ww_iload_n C dL_law_225 0 rfl rfl ?_
  refine ww_iconst (v := 1) C dL_law_226 rfl ?_
  refine ww_iadd (v := (nI (i1 + 1))) C dL_law_227 (nI_add i1 1) ?_
  refine ww_sld (v := a0) C hs (vp_in_nI (by omega) (by omega)) (ldn (by omega) ea0) dL_law_228 ?_
  refine ww_aload_n C dL_law_229 3 rfl rfl ?_
  refine ww_iload_n C dL_law_230 0 rfl rfl ?_
  refine ww_iconst (v := 2) C dL_law_231 rfl ?_
  refine ww_iadd (v := (nI (i1 + 2))) C dL_law_232 (nI_add i1 2) ?_
  refine ww_sld (v := a1) C hs (vp_in_nI (by omega) (by omega)) (ldn (by omega) ea1) dL_law_233 ?_
  refine ww_aload_n C dL_law_234 3 rfl rfl ?_
  refine ww_iload_n C dL_law_235 0 rfl rfl ?_
  refine ww_iconst (v := 3) C dL_law_236 rfl ?_
  refine ww_iadd (v := (nI (i1 + 3))) C dL_law_237 (nI_add i1 3) ?_
  refine ww_sld (v := a2) C hs (vp_in_nI (by omega) (by omega)) (ldn (by omega) ea2) dL_law_238 ?_
  refine ww_aload_n C dL_law_239 3 rfl rfl ?_
  refine ww_iload_n C dL_law_240 0 rfl rfl ?_
  refine ww_iconst (v := 4) C dL_law_241 rfl ?_
  refine ww_iadd (v := (nI (i1 + 4))) C dL_law_242 (nI_add i1 4) ?_
  refine ww_sld (v := a3) C hs (vp_in_nI (by omega) (by omega)) (ldn (by omega) ea3) dL_law_243 ?_
  refine ww_if_eq (tgt := 251) C dL_law_244 (by decide) (fun c_1 => ?_) (fun c_1 => ?_)
  · have zc_1 : a3.toInt = 0 := i_eq rfl rfl c_1
    refine ww_iconst (v := 0) C dL_law_251 rfl ?_
    refine ww_aload_n C dL_law_252 3 rfl rfl ?_
    refine ww_iload_n C dL_law_253 0 rfl rfl ?_
    refine ww_iconst (v := 5) C dL_law_254 rfl ?_
    refine ww_iadd (v := (nI (i1 + 5))) C dL_law_255 (nI_add i1 5) ?_
    refine ww_sld (v := a4) C hs (vp_in_nI (by omega) (by omega)) (ldn (by omega) ea4) dL_law_256 ?_
    refine ww_if_eq (tgt := 264) C dL_law_257 (by decide) (fun c_2 => ?_) (fun c_2 => ?_)
    · have zc_2 : a4.toInt = 0 := i_eq rfl rfl c_2
      refine ww_iconst (v := 0) C dL_law_264 rfl ?_
      refine cx_sees C rfl ⟨by omega, by omega⟩ hS (fun r_3 mN_7 pV_8 ac_9 np_10 ws_4 hS_5 hE_6 => ?_)
      replace hE_6 := hd_mk hE_6
      refine ww_pop C dL_law_268 rfl ?_
      refine ww_aload_n C dL_law_269 1 rfl rfl ?_
      refine ww_aload_n C dL_law_270 3 rfl rfl ?_
      refine ww_iload_n C dL_law_271 0 rfl rfl ?_
      refine ww_iconst (v := 1) C dL_law_272 rfl ?_
      refine ww_iadd (v := (nI (i1 + 1))) C dL_law_273 (nI_add i1 1) ?_
      refine ww_sld (v := a0) C hs (vp_in_nI (by omega) (by omega)) (ldn (by omega) ea0) dL_law_274 ?_
      refine ww_aload_n C dL_law_275 3 rfl rfl ?_
      refine ww_iload_n C dL_law_276 0 rfl rfl ?_
      refine ww_iconst (v := 2) C dL_law_277 rfl ?_
      refine ww_iadd (v := (nI (i1 + 2))) C dL_law_278 (nI_add i1 2) ?_
      refine ww_sld (v := a1) C hs (vp_in_nI (by omega) (by omega)) (ldn (by omega) ea1) dL_law_279 ?_
      refine ww_aload_n C dL_law_280 3 rfl rfl ?_
      refine ww_iload_n C dL_law_281 0 rfl rfl ?_
      refine ww_iconst (v := 3) C dL_law_282 rfl ?_
      refine ww_iadd (v := (nI (i1 + 3))) C dL_law_283 (nI_add i1 3) ?_
      refine ww_sld (v := a2) C hs (vp_in_nI (by omega) (by omega)) (ldn (by omega) ea2) dL_law_284 ?_
      refine ww_aload_n C dL_law_285 3 rfl rfl ?_
      refine ww_iload_n C dL_law_286 0 rfl rfl ?_
      refine ww_iconst (v := 4) C dL_law_287 rfl ?_
      refine ww_iadd (v := (nI (i1 + 4))) C dL_law_288 (nI_add i1 4) ?_
      refine ww_sld (v := a3) C hs (vp_in_nI (by omega) (by omega)) (ldn (by omega) ea3) dL_law_289 ?_
      refine ww_if_eq (tgt := 297) C dL_law_290 (by decide) (fun c_11 => ?_) (fun c_11 => ?_)
      · have zc_11 : a3.toInt = 0 := i_eq rfl rfl c_11
        refine ww_iconst (v := 0) C dL_law_297 rfl ?_
        refine ww_aload_n C dL_law_298 3 rfl rfl ?_
        refine ww_iload_n C dL_law_299 0 rfl rfl ?_
        refine ww_iconst (v := 5) C dL_law_300 rfl ?_
        refine ww_iadd (v := (nI (i1 + 5))) C dL_law_301 (nI_add i1 5) ?_
        refine ww_sld (v := a4) C hs (vp_in_nI (by omega) (by omega)) (ldn (by omega) ea4) dL_law_302 ?_
        refine ww_if_eq (tgt := 310) C dL_law_303 (by decide) (fun c_12 => ?_) (fun c_12 => ?_)
        · have zc_12 : a4.toInt = 0 := i_eq rfl rfl c_12
          refine ww_iconst (v := 0) C dL_law_310 rfl ?_
          refine my_sees C rfl ⟨by omega, by omega⟩ hS_5 (fun r_13 q_undos_17 PGv_18 ws_14 hS_15 hE_16 => ?_)
          replace hE_16 := hd_mk hE_16
          refine ww_pop C dL_law_314 rfl ?_
          refine ww_goto (tgt := 1452) C dL_law_315 (by decide) ?_
          exact ww_wid (by omega) (by omega) (kk tl ct pe kn ac_9 np_10 kc mN_7 pV_8 kV st sn sl scx tT ec er ed eT eb en q_undos_17 q_models PGv_18 f_afterOf f_actMany f_actOf f_whom f_hasIf f_becomes f_goneOf q_taped cr q_people f_secrets f_lanes f_lengths f_cells f_tokens f_afters f_caseMany f_happen f_heard _ hS_15 ⟨hR.1, hR.2.1, hR.2.2.1, hR.2.2.2.1, hR.2.2.2.2.1, hR.2.2.2.2.2.1, hR.2.2.2.2.2.2.1, hR.2.2.2.2.2.2.2.1, (re_sees hE_6 hE_16 hR (ST.tl hS)).1, (re_sees hE_6 hE_16 hR (ST.tl hS)).2, hR.2.2.2.2.2.2.2.2.2.2.1, hR.2.2.2.2.2.2.2.2.2.2.2.1, hR.2.2.2.2.2.2.2.2.2.2.2.2.1, hR.2.2.2.2.2.2.2.2.2.2.2.2.2⟩)
        · have zc_12 : a4.toInt ≠ 0 := i_ne rfl rfl c_12
          omega
      · have zc_11 : a3.toInt ≠ 0 := i_ne rfl rfl c_11
        omega
    · have zc_2 : a4.toInt ≠ 0 := i_ne rfl rfl c_2
      refine ww_iconst (v := 1) C dL_law_260 rfl ?_
      refine ww_goto (tgt := 265) C dL_law_261 (by decide) ?_
      refine cx_sees C rfl ⟨by omega, by omega⟩ hS (fun r_19 mN_23 pV_24 ac_25 np_26 ws_20 hS_21 hE_22 => ?_)
      replace hE_22 := hd_mk hE_22
      refine ww_pop C dL_law_268 rfl ?_
      refine ww_aload_n C dL_law_269 1 rfl rfl ?_
      refine ww_aload_n C dL_law_270 3 rfl rfl ?_
      refine ww_iload_n C dL_law_271 0 rfl rfl ?_
      refine ww_iconst (v := 1) C dL_law_272 rfl ?_
      refine ww_iadd (v := (nI (i1 + 1))) C dL_law_273 (nI_add i1 1) ?_
      refine ww_sld (v := a0) C hs (vp_in_nI (by omega) (by omega)) (ldn (by omega) ea0) dL_law_274 ?_
      refine ww_aload_n C dL_law_275 3 rfl rfl ?_
      refine ww_iload_n C dL_law_276 0 rfl rfl ?_
      refine ww_iconst (v := 2) C dL_law_277 rfl ?_
      refine ww_iadd (v := (nI (i1 + 2))) C dL_law_278 (nI_add i1 2) ?_
      refine ww_sld (v := a1) C hs (vp_in_nI (by omega) (by omega)) (ldn (by omega) ea1) dL_law_279 ?_
      refine ww_aload_n C dL_law_280 3 rfl rfl ?_
      refine ww_iload_n C dL_law_281 0 rfl rfl ?_
      refine ww_iconst (v := 3) C dL_law_282 rfl ?_
      refine ww_iadd (v := (nI (i1 + 3))) C dL_law_283 (nI_add i1 3) ?_
      refine ww_sld (v := a2) C hs (vp_in_nI (by omega) (by omega)) (ldn (by omega) ea2) dL_law_284 ?_
      refine ww_aload_n C dL_law_285 3 rfl rfl ?_
      refine ww_iload_n C dL_law_286 0 rfl rfl ?_
      refine ww_iconst (v := 4) C dL_law_287 rfl ?_
      refine ww_iadd (v := (nI (i1 + 4))) C dL_law_288 (nI_add i1 4) ?_
      refine ww_sld (v := a3) C hs (vp_in_nI (by omega) (by omega)) (ldn (by omega) ea3) dL_law_289 ?_
      refine ww_if_eq (tgt := 297) C dL_law_290 (by decide) (fun c_27 => ?_) (fun c_27 => ?_)
      · have zc_27 : a3.toInt = 0 := i_eq rfl rfl c_27
        refine ww_iconst (v := 0) C dL_law_297 rfl ?_
        refine ww_aload_n C dL_law_298 3 rfl rfl ?_
        refine ww_iload_n C dL_law_299 0 rfl rfl ?_
        refine ww_iconst (v := 5) C dL_law_300 rfl ?_
        refine ww_iadd (v := (nI (i1 + 5))) C dL_law_301 (nI_add i1 5) ?_
        refine ww_sld (v := a4) C hs (vp_in_nI (by omega) (by omega)) (ldn (by omega) ea4) dL_law_302 ?_
        refine ww_if_eq (tgt := 310) C dL_law_303 (by decide) (fun c_28 => ?_) (fun c_28 => ?_)
        · have zc_28 : a4.toInt = 0 := i_eq rfl rfl c_28
          omega
        · have zc_28 : a4.toInt ≠ 0 := i_ne rfl rfl c_28
          refine ww_iconst (v := 1) C dL_law_306 rfl ?_
          refine ww_goto (tgt := 311) C dL_law_307 (by decide) ?_
          refine my_sees C rfl ⟨by omega, by omega⟩ hS_21 (fun r_29 q_undos_33 PGv_34 ws_30 hS_31 hE_32 => ?_)
          replace hE_32 := hd_mk hE_32
          refine ww_pop C dL_law_314 rfl ?_
          refine ww_goto (tgt := 1452) C dL_law_315 (by decide) ?_
          exact ww_wid (by omega) (by omega) (kk tl ct pe kn ac_25 np_26 kc mN_23 pV_24 kV st sn sl scx tT ec er ed eT eb en q_undos_33 q_models PGv_34 f_afterOf f_actMany f_actOf f_whom f_hasIf f_becomes f_goneOf q_taped cr q_people f_secrets f_lanes f_lengths f_cells f_tokens f_afters f_caseMany f_happen f_heard _ hS_31 ⟨hR.1, hR.2.1, hR.2.2.1, hR.2.2.2.1, hR.2.2.2.2.1, hR.2.2.2.2.2.1, hR.2.2.2.2.2.2.1, hR.2.2.2.2.2.2.2.1, (re_sees hE_22 hE_32 hR (ST.tl hS)).1, (re_sees hE_22 hE_32 hR (ST.tl hS)).2, hR.2.2.2.2.2.2.2.2.2.2.1, hR.2.2.2.2.2.2.2.2.2.2.2.1, hR.2.2.2.2.2.2.2.2.2.2.2.2.1, hR.2.2.2.2.2.2.2.2.2.2.2.2.2⟩)
      · have zc_27 : a3.toInt ≠ 0 := i_ne rfl rfl c_27
        omega
  · have zc_1 : a3.toInt ≠ 0 := i_ne rfl rfl c_1
    refine ww_iconst (v := 1) C dL_law_247 rfl ?_
    refine ww_goto (tgt := 252) C dL_law_248 (by decide) ?_
    refine ww_aload_n C dL_law_252 3 rfl rfl ?_
    refine ww_iload_n C dL_law_253 0 rfl rfl ?_
    refine ww_iconst (v := 5) C dL_law_254 rfl ?_
    refine ww_iadd (v := (nI (i1 + 5))) C dL_law_255 (nI_add i1 5) ?_
    refine ww_sld (v := a4) C hs (vp_in_nI (by omega) (by omega)) (ldn (by omega) ea4) dL_law_256 ?_
    refine ww_if_eq (tgt := 264) C dL_law_257 (by decide) (fun c_35 => ?_) (fun c_35 => ?_)
    · have zc_35 : a4.toInt = 0 := i_eq rfl rfl c_35
      refine ww_iconst (v := 0) C dL_law_264 rfl ?_
      refine cx_sees C rfl ⟨by omega, by omega⟩ hS (fun r_36 mN_40 pV_41 ac_42 np_43 ws_37 hS_38 hE_39 => ?_)
      replace hE_39 := hd_mk hE_39
      refine ww_pop C dL_law_268 rfl ?_
      refine ww_aload_n C dL_law_269 1 rfl rfl ?_
      refine ww_aload_n C dL_law_270 3 rfl rfl ?_
      refine ww_iload_n C dL_law_271 0 rfl rfl ?_
      refine ww_iconst (v := 1) C dL_law_272 rfl ?_
      refine ww_iadd (v := (nI (i1 + 1))) C dL_law_273 (nI_add i1 1) ?_
      refine ww_sld (v := a0) C hs (vp_in_nI (by omega) (by omega)) (ldn (by omega) ea0) dL_law_274 ?_
      refine ww_aload_n C dL_law_275 3 rfl rfl ?_
      refine ww_iload_n C dL_law_276 0 rfl rfl ?_
      refine ww_iconst (v := 2) C dL_law_277 rfl ?_
      refine ww_iadd (v := (nI (i1 + 2))) C dL_law_278 (nI_add i1 2) ?_
      refine ww_sld (v := a1) C hs (vp_in_nI (by omega) (by omega)) (ldn (by omega) ea1) dL_law_279 ?_
      refine ww_aload_n C dL_law_280 3 rfl rfl ?_
      refine ww_iload_n C dL_law_281 0 rfl rfl ?_
      refine ww_iconst (v := 3) C dL_law_282 rfl ?_
      refine ww_iadd (v := (nI (i1 + 3))) C dL_law_283 (nI_add i1 3) ?_
      refine ww_sld (v := a2) C hs (vp_in_nI (by omega) (by omega)) (ldn (by omega) ea2) dL_law_284 ?_
      refine ww_aload_n C dL_law_285 3 rfl rfl ?_
      refine ww_iload_n C dL_law_286 0 rfl rfl ?_
      refine ww_iconst (v := 4) C dL_law_287 rfl ?_
      refine ww_iadd (v := (nI (i1 + 4))) C dL_law_288 (nI_add i1 4) ?_
      refine ww_sld (v := a3) C hs (vp_in_nI (by omega) (by omega)) (ldn (by omega) ea3) dL_law_289 ?_
      refine ww_if_eq (tgt := 297) C dL_law_290 (by decide) (fun c_44 => ?_) (fun c_44 => ?_)
      · have zc_44 : a3.toInt = 0 := i_eq rfl rfl c_44
        omega
      · have zc_44 : a3.toInt ≠ 0 := i_ne rfl rfl c_44
        refine ww_iconst (v := 1) C dL_law_293 rfl ?_
        refine ww_goto (tgt := 298) C dL_law_294 (by decide) ?_
        refine ww_aload_n C dL_law_298 3 rfl rfl ?_
        refine ww_iload_n C dL_law_299 0 rfl rfl ?_
        refine ww_iconst (v := 5) C dL_law_300 rfl ?_
        refine ww_iadd (v := (nI (i1 + 5))) C dL_law_301 (nI_add i1 5) ?_
        refine ww_sld (v := a4) C hs (vp_in_nI (by omega) (by omega)) (ldn (by omega) ea4) dL_law_302 ?_
        refine ww_if_eq (tgt := 310) C dL_law_303 (by decide) (fun c_45 => ?_) (fun c_45 => ?_)
        · have zc_45 : a4.toInt = 0 := i_eq rfl rfl c_45
          refine ww_iconst (v := 0) C dL_law_310 rfl ?_
          refine my_sees C rfl ⟨by omega, by omega⟩ hS_38 (fun r_46 q_undos_50 PGv_51 ws_47 hS_48 hE_49 => ?_)
          replace hE_49 := hd_mk hE_49
          refine ww_pop C dL_law_314 rfl ?_
          refine ww_goto (tgt := 1452) C dL_law_315 (by decide) ?_
          exact ww_wid (by omega) (by omega) (kk tl ct pe kn ac_42 np_43 kc mN_40 pV_41 kV st sn sl scx tT ec er ed eT eb en q_undos_50 q_models PGv_51 f_afterOf f_actMany f_actOf f_whom f_hasIf f_becomes f_goneOf q_taped cr q_people f_secrets f_lanes f_lengths f_cells f_tokens f_afters f_caseMany f_happen f_heard _ hS_48 ⟨hR.1, hR.2.1, hR.2.2.1, hR.2.2.2.1, hR.2.2.2.2.1, hR.2.2.2.2.2.1, hR.2.2.2.2.2.2.1, hR.2.2.2.2.2.2.2.1, (re_sees hE_39 hE_49 hR (ST.tl hS)).1, (re_sees hE_39 hE_49 hR (ST.tl hS)).2, hR.2.2.2.2.2.2.2.2.2.2.1, hR.2.2.2.2.2.2.2.2.2.2.2.1, hR.2.2.2.2.2.2.2.2.2.2.2.2.1, hR.2.2.2.2.2.2.2.2.2.2.2.2.2⟩)
        · have zc_45 : a4.toInt ≠ 0 := i_ne rfl rfl c_45
          omega
    · have zc_35 : a4.toInt ≠ 0 := i_ne rfl rfl c_35
      refine ww_iconst (v := 1) C dL_law_260 rfl ?_
      refine ww_goto (tgt := 265) C dL_law_261 (by decide) ?_
      refine cx_sees C rfl ⟨by omega, by omega⟩ hS (fun r_52 mN_56 pV_57 ac_58 np_59 ws_53 hS_54 hE_55 => ?_)
      replace hE_55 := hd_mk hE_55
      refine ww_pop C dL_law_268 rfl ?_
      refine ww_aload_n C dL_law_269 1 rfl rfl ?_
      refine ww_aload_n C dL_law_270 3 rfl rfl ?_
      refine ww_iload_n C dL_law_271 0 rfl rfl ?_
      refine ww_iconst (v := 1) C dL_law_272 rfl ?_
      refine ww_iadd (v := (nI (i1 + 1))) C dL_law_273 (nI_add i1 1) ?_
      refine ww_sld (v := a0) C hs (vp_in_nI (by omega) (by omega)) (ldn (by omega) ea0) dL_law_274 ?_
      refine ww_aload_n C dL_law_275 3 rfl rfl ?_
      refine ww_iload_n C dL_law_276 0 rfl rfl ?_
      refine ww_iconst (v := 2) C dL_law_277 rfl ?_
      refine ww_iadd (v := (nI (i1 + 2))) C dL_law_278 (nI_add i1 2) ?_
      refine ww_sld (v := a1) C hs (vp_in_nI (by omega) (by omega)) (ldn (by omega) ea1) dL_law_279 ?_
      refine ww_aload_n C dL_law_280 3 rfl rfl ?_
      refine ww_iload_n C dL_law_281 0 rfl rfl ?_
      refine ww_iconst (v := 3) C dL_law_282 rfl ?_
      refine ww_iadd (v := (nI (i1 + 3))) C dL_law_283 (nI_add i1 3) ?_
      refine ww_sld (v := a2) C hs (vp_in_nI (by omega) (by omega)) (ldn (by omega) ea2) dL_law_284 ?_
      refine ww_aload_n C dL_law_285 3 rfl rfl ?_
      refine ww_iload_n C dL_law_286 0 rfl rfl ?_
      refine ww_iconst (v := 4) C dL_law_287 rfl ?_
      refine ww_iadd (v := (nI (i1 + 4))) C dL_law_288 (nI_add i1 4) ?_
      refine ww_sld (v := a3) C hs (vp_in_nI (by omega) (by omega)) (ldn (by omega) ea3) dL_law_289 ?_
      refine ww_if_eq (tgt := 297) C dL_law_290 (by decide) (fun c_60 => ?_) (fun c_60 => ?_)
      · have zc_60 : a3.toInt = 0 := i_eq rfl rfl c_60
        omega
      · have zc_60 : a3.toInt ≠ 0 := i_ne rfl rfl c_60
        refine ww_iconst (v := 1) C dL_law_293 rfl ?_
        refine ww_goto (tgt := 298) C dL_law_294 (by decide) ?_
        refine ww_aload_n C dL_law_298 3 rfl rfl ?_
        refine ww_iload_n C dL_law_299 0 rfl rfl ?_
        refine ww_iconst (v := 5) C dL_law_300 rfl ?_
        refine ww_iadd (v := (nI (i1 + 5))) C dL_law_301 (nI_add i1 5) ?_
        refine ww_sld (v := a4) C hs (vp_in_nI (by omega) (by omega)) (ldn (by omega) ea4) dL_law_302 ?_
        refine ww_if_eq (tgt := 310) C dL_law_303 (by decide) (fun c_61 => ?_) (fun c_61 => ?_)
        · have zc_61 : a4.toInt = 0 := i_eq rfl rfl c_61
          omega
        · have zc_61 : a4.toInt ≠ 0 := i_ne rfl rfl c_61
          refine ww_iconst (v := 1) C dL_law_306 rfl ?_
          refine ww_goto (tgt := 311) C dL_law_307 (by decide) ?_
          refine my_sees C rfl ⟨by omega, by omega⟩ hS_54 (fun r_62 q_undos_66 PGv_67 ws_63 hS_64 hE_65 => ?_)
          replace hE_65 := hd_mk hE_65
          refine ww_pop C dL_law_314 rfl ?_
          refine ww_goto (tgt := 1452) C dL_law_315 (by decide) ?_
          exact ww_wid (by omega) (by omega) (kk tl ct pe kn ac_58 np_59 kc mN_56 pV_57 kV st sn sl scx tT ec er ed eT eb en q_undos_66 q_models PGv_67 f_afterOf f_actMany f_actOf f_whom f_hasIf f_becomes f_goneOf q_taped cr q_people f_secrets f_lanes f_lengths f_cells f_tokens f_afters f_caseMany f_happen f_heard _ hS_64 ⟨hR.1, hR.2.1, hR.2.2.1, hR.2.2.2.1, hR.2.2.2.2.1, hR.2.2.2.2.2.1, hR.2.2.2.2.2.2.1, hR.2.2.2.2.2.2.2.1, (re_sees hE_55 hE_65 hR (ST.tl hS)).1, (re_sees hE_55 hE_65 hR (ST.tl hS)).2, hR.2.2.2.2.2.2.2.2.2.2.1, hR.2.2.2.2.2.2.2.2.2.2.2.1, hR.2.2.2.2.2.2.2.2.2.2.2.2.1, hR.2.2.2.2.2.2.2.2.2.2.2.2.2⟩)
theorem dL_law_318 : decode cL_law 318 = .ok (.aload_n 1, 1) := dl_43 (by decide +kernel)
theorem dL_law_319 : decode cL_law 319 = .ok (.aload_n 0, 1) := dl_42 (by decide +kernel)
theorem dL_law_320 : decode cL_law 320 = .ok (.iload_n 3, 1) := dl_29 (by decide +kernel)
theorem dL_law_321 : decode cL_law 321 = .ok (.iconst 1, 1) := dl_4 (by decide +kernel)
theorem dL_law_322 : decode cL_law 322 = .ok (.iadd, 1) := dl_96 (by decide +kernel)
theorem dL_law_323 : decode cL_law 323 = .ok (.iaload, 1) := dl_46 (by decide +kernel)
theorem dL_law_327 : decode cL_law 327 = .ok (.pop, 1) := dl_87 (by decide +kernel)
theorem dL_law_328 : decode cL_law 328 = .ok (.aload_n 2, 1) := dl_44 (by decide +kernel)
theorem dL_law_329 : decode cL_law 329 = .ok (.aload_n 0, 1) := dl_42 (by decide +kernel)
theorem dL_law_330 : decode cL_law 330 = .ok (.iload_n 3, 1) := dl_29 (by decide +kernel)
theorem dL_law_331 : decode cL_law 331 = .ok (.iconst 1, 1) := dl_4 (by decide +kernel)
theorem dL_law_332 : decode cL_law 332 = .ok (.iadd, 1) := dl_96 (by decide +kernel)
theorem dL_law_333 : decode cL_law 333 = .ok (.iaload, 1) := dl_46 (by decide +kernel)
theorem dL_law_337 : decode cL_law 337 = .ok (.pop, 1) := dl_87 (by decide +kernel)
theorem dL_law_338 : decode cL_law 338 = .ok (.goto 1114, 3) := dl_167 (by decide +kernel)
set_option maxRecDepth 100000 in
set_option maxHeartbeats 4000000 in
theorem lawc_blind {X : XT} {E : EV} {xs : Nat → Int32} {ws : va_W} {bb L hx hm i1 kC nC : Nat} {tl : Nat} {ct : Nat → Int} {pe : Nat} {kn : Int32} {ac : Nat} {np : Nat} {kc : Nat} {mN : AM} {pV : Nat → AM} {kV : Nat → AM} {st : Nat → Nat} {sn : Nat → Nat} {sl : Nat → Nat} {scx : Nat → Nat → Int32} {tT : Nat → Option SVal} {ec : Nat → Nat} {er : Nat → Nat} {ed : Nat → Nat → Int32} {eT : Nat → Nat → Option SVal} {eb : Nat → Nat → Int32} {en : Nat → Nat → Int32} {q_undos : Nat} {q_models : Nat} {PGv : Nat → AM} {f_afterOf : Nat → Int32} {f_actMany : Nat → Int32} {f_actOf : Nat → Int32} {f_whom : Nat → Int32} {f_hasIf : Nat → Int32} {f_becomes : Nat → Int32} {f_goneOf : Nat → Int32} {q_taped : Nat} {cr : Nat → Int} {q_people : Nat} {f_secrets : Nat → Int32} {f_lanes : Nat → Int32} {f_lengths : Nat → Int32} {f_cells : Nat → Int32} {f_tokens : Nat → Int32} {f_afters : Nat → Int32} {f_caseMany : Nat → Int32} {f_happen : Nat → Int32} {f_heard : Nat → Int32} (C : CX X room_1 cL_law 4 RL ret E) (hs : SX X bb L xs) (hi : i1 + 6 ≤ L) (hL : L ≤ 3072) (hk : kC + 4 ≤ 600000 ∧ nC + 73 ≤ 7302250) (hS : ST E hx hm tl ct pe kn ac np kc mN pV kV st sn sl scx tT ec er ed eT eb en q_undos q_models PGv f_afterOf f_actMany f_actOf f_whom f_hasIf f_becomes f_goneOf q_taped cr q_people f_secrets f_lanes f_lengths f_cells f_tokens f_afters f_caseMany f_happen f_heard ws) (hR : RL_ tl ct pe kn ac np kc mN pV kV st sn sl scx tT ec er ed eT eb en q_undos q_models PGv f_afterOf f_actMany f_actOf f_whom f_hasIf f_becomes f_goneOf q_taped cr q_people f_secrets f_lanes f_lengths f_cells f_tokens f_afters f_caseMany f_happen f_heard) (kk : ∀ (tl : Nat) (ct : Nat → Int) (pe : Nat) (kn : Int32) (ac : Nat) (np : Nat) (kc : Nat) (mN : AM) (pV : Nat → AM) (kV : Nat → AM) (st : Nat → Nat) (sn : Nat → Nat) (sl : Nat → Nat) (scx : Nat → Nat → Int32) (tT : Nat → Option SVal) (ec : Nat → Nat) (er : Nat → Nat) (ed : Nat → Nat → Int32) (eT : Nat → Nat → Option SVal) (eb : Nat → Nat → Int32) (en : Nat → Nat → Int32) (q_undos : Nat) (q_models : Nat) (PGv : Nat → AM) (f_afterOf : Nat → Int32) (f_actMany : Nat → Int32) (f_actOf : Nat → Int32) (f_whom : Nat → Int32) (f_hasIf : Nat → Int32) (f_becomes : Nat → Int32) (f_goneOf : Nat → Int32) (q_taped : Nat) (cr : Nat → Int) (q_people : Nat) (f_secrets : Nat → Int32) (f_lanes : Nat → Int32) (f_lengths : Nat → Int32) (f_cells : Nat → Int32) (f_tokens : Nat → Int32) (f_afters : Nat → Int32) (f_caseMany : Nat → Int32) (f_happen : Nat → Int32) (f_heard : Nat → Int32) (wsZ : va_W), ST E hx hm tl ct pe kn ac np kc mN pV kV st sn sl scx tT ec er ed eT eb en q_undos q_models PGv f_afterOf f_actMany f_actOf f_whom f_hasIf f_becomes f_goneOf q_taped cr q_people f_secrets f_lanes f_lengths f_cells f_tokens f_afters f_caseMany f_happen f_heard wsZ → RL_ tl ct pe kn ac np kc mN pV kV st sn sl scx tT ec er ed eT eb en q_undos q_models PGv f_afterOf f_actMany f_actOf f_whom f_hasIf f_becomes f_goneOf q_taped cr q_people f_secrets f_lanes f_lengths f_cells f_tokens f_afters f_caseMany f_happen f_heard → WW X 4 E 1452 [(3, .int (nI i1)), (2, .ref hm), (1, .ref hx), (0, .ref bb)] [] wsZ (kC + 4) (nC + 73)) : WW X 4 E 318 [(3, .int (nI i1)), (2, .ref hm), (1, .ref hx), (0, .ref bb)] [] ws kC nC := by
  obtain ⟨a0, ea0⟩ : ∃ z : Int32, xs (i1 + 1) = z := ⟨_, rfl⟩
  refine ww_aload_n C dL_law_318 2 rfl rfl ?_
  refine ww_aload_n C dL_law_319 3 rfl rfl ?_
  refine ww_iload_n C dL_law_320 0 rfl rfl ?_
  refine ww_iconst (v := 1) C dL_law_321 rfl ?_
  refine ww_iadd (v := (nI (i1 + 1))) C dL_law_322 (nI_add i1 1) ?_
  refine ww_sld (v := a0) C hs (vp_in_nI (by omega) (by omega)) (ldn (by omega) ea0) dL_law_323 ?_
  refine cx_blind C rfl ⟨by omega, by omega⟩ hS (fun r_1 mN_5 pV_6 ac_7 np_8 ws_2 hS_3 hE_4 => ?_)
  replace hE_4 := hd_mk hE_4
  refine ww_pop C dL_law_327 rfl ?_
  refine ww_aload_n C dL_law_328 1 rfl rfl ?_
  refine ww_aload_n C dL_law_329 3 rfl rfl ?_
  refine ww_iload_n C dL_law_330 0 rfl rfl ?_
  refine ww_iconst (v := 1) C dL_law_331 rfl ?_
  refine ww_iadd (v := (nI (i1 + 1))) C dL_law_332 (nI_add i1 1) ?_
  refine ww_sld (v := a0) C hs (vp_in_nI (by omega) (by omega)) (ldn (by omega) ea0) dL_law_333 ?_
  refine my_blind C rfl ⟨by omega, by omega⟩ hS_3 (fun r_9 q_undos_13 PGv_14 ws_10 hS_11 hE_12 => ?_)
  replace hE_12 := hd_mk hE_12
  refine ww_pop C dL_law_337 rfl ?_
  refine ww_goto (tgt := 1452) C dL_law_338 (by decide) ?_
  exact ww_wid (by omega) (by omega) (kk tl ct pe kn ac_7 np_8 kc mN_5 pV_6 kV st sn sl scx tT ec er ed eT eb en q_undos_13 q_models PGv_14 f_afterOf f_actMany f_actOf f_whom f_hasIf f_becomes f_goneOf q_taped cr q_people f_secrets f_lanes f_lengths f_cells f_tokens f_afters f_caseMany f_happen f_heard _ hS_11 ⟨hR.1, hR.2.1, hR.2.2.1, hR.2.2.2.1, hR.2.2.2.2.1, hR.2.2.2.2.2.1, hR.2.2.2.2.2.2.1, hR.2.2.2.2.2.2.2.1, (re_blind hE_4 hE_12 hR (ST.tl hS)).1, (re_blind hE_4 hE_12 hR (ST.tl hS)).2, hR.2.2.2.2.2.2.2.2.2.2.1, hR.2.2.2.2.2.2.2.2.2.2.2.1, hR.2.2.2.2.2.2.2.2.2.2.2.2.1, hR.2.2.2.2.2.2.2.2.2.2.2.2.2⟩)
theorem dL_law_341 : decode cL_law 341 = .ok (.aload_n 1, 1) := dl_43 (by decide +kernel)
theorem dL_law_342 : decode cL_law 342 = .ok (.aload_n 0, 1) := dl_42 (by decide +kernel)
theorem dL_law_343 : decode cL_law 343 = .ok (.iload_n 3, 1) := dl_29 (by decide +kernel)
theorem dL_law_344 : decode cL_law 344 = .ok (.iconst 1, 1) := dl_4 (by decide +kernel)
theorem dL_law_345 : decode cL_law 345 = .ok (.iadd, 1) := dl_96 (by decide +kernel)
theorem dL_law_346 : decode cL_law 346 = .ok (.iaload, 1) := dl_46 (by decide +kernel)
theorem dL_law_350 : decode cL_law 350 = .ok (.pop, 1) := dl_87 (by decide +kernel)
theorem dL_law_351 : decode cL_law 351 = .ok (.aload_n 2, 1) := dl_44 (by decide +kernel)
theorem dL_law_352 : decode cL_law 352 = .ok (.aload_n 0, 1) := dl_42 (by decide +kernel)
theorem dL_law_353 : decode cL_law 353 = .ok (.iload_n 3, 1) := dl_29 (by decide +kernel)
theorem dL_law_354 : decode cL_law 354 = .ok (.iconst 1, 1) := dl_4 (by decide +kernel)
theorem dL_law_355 : decode cL_law 355 = .ok (.iadd, 1) := dl_96 (by decide +kernel)
theorem dL_law_356 : decode cL_law 356 = .ok (.iaload, 1) := dl_46 (by decide +kernel)
theorem dL_law_360 : decode cL_law 360 = .ok (.pop, 1) := dl_87 (by decide +kernel)
theorem dL_law_361 : decode cL_law 361 = .ok (.goto 1091, 3) := dl_167 (by decide +kernel)
set_option maxRecDepth 100000 in
set_option maxHeartbeats 4000000 in
theorem lawc_real {X : XT} {E : EV} {xs : Nat → Int32} {ws : va_W} {bb L hx hm i1 kC nC : Nat} {tl : Nat} {ct : Nat → Int} {pe : Nat} {kn : Int32} {ac : Nat} {np : Nat} {kc : Nat} {mN : AM} {pV : Nat → AM} {kV : Nat → AM} {st : Nat → Nat} {sn : Nat → Nat} {sl : Nat → Nat} {scx : Nat → Nat → Int32} {tT : Nat → Option SVal} {ec : Nat → Nat} {er : Nat → Nat} {ed : Nat → Nat → Int32} {eT : Nat → Nat → Option SVal} {eb : Nat → Nat → Int32} {en : Nat → Nat → Int32} {q_undos : Nat} {q_models : Nat} {PGv : Nat → AM} {f_afterOf : Nat → Int32} {f_actMany : Nat → Int32} {f_actOf : Nat → Int32} {f_whom : Nat → Int32} {f_hasIf : Nat → Int32} {f_becomes : Nat → Int32} {f_goneOf : Nat → Int32} {q_taped : Nat} {cr : Nat → Int} {q_people : Nat} {f_secrets : Nat → Int32} {f_lanes : Nat → Int32} {f_lengths : Nat → Int32} {f_cells : Nat → Int32} {f_tokens : Nat → Int32} {f_afters : Nat → Int32} {f_caseMany : Nat → Int32} {f_happen : Nat → Int32} {f_heard : Nat → Int32} (C : CX X room_1 cL_law 4 RL ret E) (hs : SX X bb L xs) (hi : i1 + 6 ≤ L) (hL : L ≤ 3072) (hk : kC + 4 ≤ 600000 ∧ nC + 73 ≤ 7302250) (hS : ST E hx hm tl ct pe kn ac np kc mN pV kV st sn sl scx tT ec er ed eT eb en q_undos q_models PGv f_afterOf f_actMany f_actOf f_whom f_hasIf f_becomes f_goneOf q_taped cr q_people f_secrets f_lanes f_lengths f_cells f_tokens f_afters f_caseMany f_happen f_heard ws) (hR : RL_ tl ct pe kn ac np kc mN pV kV st sn sl scx tT ec er ed eT eb en q_undos q_models PGv f_afterOf f_actMany f_actOf f_whom f_hasIf f_becomes f_goneOf q_taped cr q_people f_secrets f_lanes f_lengths f_cells f_tokens f_afters f_caseMany f_happen f_heard) (kk : ∀ (tl : Nat) (ct : Nat → Int) (pe : Nat) (kn : Int32) (ac : Nat) (np : Nat) (kc : Nat) (mN : AM) (pV : Nat → AM) (kV : Nat → AM) (st : Nat → Nat) (sn : Nat → Nat) (sl : Nat → Nat) (scx : Nat → Nat → Int32) (tT : Nat → Option SVal) (ec : Nat → Nat) (er : Nat → Nat) (ed : Nat → Nat → Int32) (eT : Nat → Nat → Option SVal) (eb : Nat → Nat → Int32) (en : Nat → Nat → Int32) (q_undos : Nat) (q_models : Nat) (PGv : Nat → AM) (f_afterOf : Nat → Int32) (f_actMany : Nat → Int32) (f_actOf : Nat → Int32) (f_whom : Nat → Int32) (f_hasIf : Nat → Int32) (f_becomes : Nat → Int32) (f_goneOf : Nat → Int32) (q_taped : Nat) (cr : Nat → Int) (q_people : Nat) (f_secrets : Nat → Int32) (f_lanes : Nat → Int32) (f_lengths : Nat → Int32) (f_cells : Nat → Int32) (f_tokens : Nat → Int32) (f_afters : Nat → Int32) (f_caseMany : Nat → Int32) (f_happen : Nat → Int32) (f_heard : Nat → Int32) (wsZ : va_W), ST E hx hm tl ct pe kn ac np kc mN pV kV st sn sl scx tT ec er ed eT eb en q_undos q_models PGv f_afterOf f_actMany f_actOf f_whom f_hasIf f_becomes f_goneOf q_taped cr q_people f_secrets f_lanes f_lengths f_cells f_tokens f_afters f_caseMany f_happen f_heard wsZ → RL_ tl ct pe kn ac np kc mN pV kV st sn sl scx tT ec er ed eT eb en q_undos q_models PGv f_afterOf f_actMany f_actOf f_whom f_hasIf f_becomes f_goneOf q_taped cr q_people f_secrets f_lanes f_lengths f_cells f_tokens f_afters f_caseMany f_happen f_heard → WW X 4 E 1452 [(3, .int (nI i1)), (2, .ref hm), (1, .ref hx), (0, .ref bb)] [] wsZ (kC + 4) (nC + 73)) : WW X 4 E 341 [(3, .int (nI i1)), (2, .ref hm), (1, .ref hx), (0, .ref bb)] [] ws kC nC := by
  obtain ⟨a0, ea0⟩ : ∃ z : Int32, xs (i1 + 1) = z := ⟨_, rfl⟩
  refine ww_aload_n C dL_law_341 2 rfl rfl ?_
  refine ww_aload_n C dL_law_342 3 rfl rfl ?_
  refine ww_iload_n C dL_law_343 0 rfl rfl ?_
  refine ww_iconst (v := 1) C dL_law_344 rfl ?_
  refine ww_iadd (v := (nI (i1 + 1))) C dL_law_345 (nI_add i1 1) ?_
  refine ww_sld (v := a0) C hs (vp_in_nI (by omega) (by omega)) (ldn (by omega) ea0) dL_law_346 ?_
  refine cx_real C rfl ⟨by omega, by omega⟩ hS (fun r_1 mN_5 pV_6 ac_7 np_8 ws_2 hS_3 hE_4 => ?_)
  replace hE_4 := hd_mk hE_4
  refine ww_pop C dL_law_350 rfl ?_
  refine ww_aload_n C dL_law_351 1 rfl rfl ?_
  refine ww_aload_n C dL_law_352 3 rfl rfl ?_
  refine ww_iload_n C dL_law_353 0 rfl rfl ?_
  refine ww_iconst (v := 1) C dL_law_354 rfl ?_
  refine ww_iadd (v := (nI (i1 + 1))) C dL_law_355 (nI_add i1 1) ?_
  refine ww_sld (v := a0) C hs (vp_in_nI (by omega) (by omega)) (ldn (by omega) ea0) dL_law_356 ?_
  refine my_real C rfl ⟨by omega, by omega⟩ hS_3 (fun r_9 q_undos_13 PGv_14 ws_10 hS_11 hE_12 => ?_)
  replace hE_12 := hd_mk hE_12
  refine ww_pop C dL_law_360 rfl ?_
  refine ww_goto (tgt := 1452) C dL_law_361 (by decide) ?_
  exact ww_wid (by omega) (by omega) (kk tl ct pe kn ac_7 np_8 kc mN_5 pV_6 kV st sn sl scx tT ec er ed eT eb en q_undos_13 q_models PGv_14 f_afterOf f_actMany f_actOf f_whom f_hasIf f_becomes f_goneOf q_taped cr q_people f_secrets f_lanes f_lengths f_cells f_tokens f_afters f_caseMany f_happen f_heard _ hS_11 ⟨hR.1, hR.2.1, hR.2.2.1, hR.2.2.2.1, hR.2.2.2.2.1, hR.2.2.2.2.2.1, hR.2.2.2.2.2.2.1, hR.2.2.2.2.2.2.2.1, (re_real hE_4 hE_12 hR (ST.tl hS)).1, (re_real hE_4 hE_12 hR (ST.tl hS)).2, hR.2.2.2.2.2.2.2.2.2.2.1, hR.2.2.2.2.2.2.2.2.2.2.2.1, hR.2.2.2.2.2.2.2.2.2.2.2.2.1, hR.2.2.2.2.2.2.2.2.2.2.2.2.2⟩)
theorem dL_law_364 : decode cL_law 364 = .ok (.aload_n 1, 1) := dl_43 (by decide +kernel)
theorem dL_law_365 : decode cL_law 365 = .ok (.aload_n 0, 1) := dl_42 (by decide +kernel)
theorem dL_law_366 : decode cL_law 366 = .ok (.iload_n 3, 1) := dl_29 (by decide +kernel)
theorem dL_law_367 : decode cL_law 367 = .ok (.iconst 1, 1) := dl_4 (by decide +kernel)
theorem dL_law_368 : decode cL_law 368 = .ok (.iadd, 1) := dl_96 (by decide +kernel)
theorem dL_law_369 : decode cL_law 369 = .ok (.iaload, 1) := dl_46 (by decide +kernel)
theorem dL_law_370 : decode cL_law 370 = .ok (.aload_n 0, 1) := dl_42 (by decide +kernel)
theorem dL_law_371 : decode cL_law 371 = .ok (.iload_n 3, 1) := dl_29 (by decide +kernel)
theorem dL_law_372 : decode cL_law 372 = .ok (.iconst 2, 1) := dl_5 (by decide +kernel)
theorem dL_law_373 : decode cL_law 373 = .ok (.iadd, 1) := dl_96 (by decide +kernel)
theorem dL_law_374 : decode cL_law 374 = .ok (.iaload, 1) := dl_46 (by decide +kernel)
theorem dL_law_378 : decode cL_law 378 = .ok (.pop, 1) := dl_87 (by decide +kernel)
theorem dL_law_379 : decode cL_law 379 = .ok (.aload_n 2, 1) := dl_44 (by decide +kernel)
theorem dL_law_380 : decode cL_law 380 = .ok (.aload_n 0, 1) := dl_42 (by decide +kernel)
theorem dL_law_381 : decode cL_law 381 = .ok (.iload_n 3, 1) := dl_29 (by decide +kernel)
theorem dL_law_382 : decode cL_law 382 = .ok (.iconst 1, 1) := dl_4 (by decide +kernel)
theorem dL_law_383 : decode cL_law 383 = .ok (.iadd, 1) := dl_96 (by decide +kernel)
theorem dL_law_384 : decode cL_law 384 = .ok (.iaload, 1) := dl_46 (by decide +kernel)
theorem dL_law_385 : decode cL_law 385 = .ok (.aload_n 0, 1) := dl_42 (by decide +kernel)
theorem dL_law_386 : decode cL_law 386 = .ok (.iload_n 3, 1) := dl_29 (by decide +kernel)
theorem dL_law_387 : decode cL_law 387 = .ok (.iconst 2, 1) := dl_5 (by decide +kernel)
theorem dL_law_388 : decode cL_law 388 = .ok (.iadd, 1) := dl_96 (by decide +kernel)
theorem dL_law_389 : decode cL_law 389 = .ok (.iaload, 1) := dl_46 (by decide +kernel)
theorem dL_law_393 : decode cL_law 393 = .ok (.pop, 1) := dl_87 (by decide +kernel)
theorem dL_law_394 : decode cL_law 394 = .ok (.goto 1058, 3) := dl_167 (by decide +kernel)
set_option maxRecDepth 100000 in
set_option maxHeartbeats 4000000 in
theorem lawc_of {X : XT} {E : EV} {xs : Nat → Int32} {ws : va_W} {bb L hx hm i1 kC nC : Nat} {tl : Nat} {ct : Nat → Int} {pe : Nat} {kn : Int32} {ac : Nat} {np : Nat} {kc : Nat} {mN : AM} {pV : Nat → AM} {kV : Nat → AM} {st : Nat → Nat} {sn : Nat → Nat} {sl : Nat → Nat} {scx : Nat → Nat → Int32} {tT : Nat → Option SVal} {ec : Nat → Nat} {er : Nat → Nat} {ed : Nat → Nat → Int32} {eT : Nat → Nat → Option SVal} {eb : Nat → Nat → Int32} {en : Nat → Nat → Int32} {q_undos : Nat} {q_models : Nat} {PGv : Nat → AM} {f_afterOf : Nat → Int32} {f_actMany : Nat → Int32} {f_actOf : Nat → Int32} {f_whom : Nat → Int32} {f_hasIf : Nat → Int32} {f_becomes : Nat → Int32} {f_goneOf : Nat → Int32} {q_taped : Nat} {cr : Nat → Int} {q_people : Nat} {f_secrets : Nat → Int32} {f_lanes : Nat → Int32} {f_lengths : Nat → Int32} {f_cells : Nat → Int32} {f_tokens : Nat → Int32} {f_afters : Nat → Int32} {f_caseMany : Nat → Int32} {f_happen : Nat → Int32} {f_heard : Nat → Int32} (C : CX X room_1 cL_law 4 RL ret E) (hs : SX X bb L xs) (hi : i1 + 6 ≤ L) (hL : L ≤ 3072) (hk : kC + 4 ≤ 600000 ∧ nC + 73 ≤ 7302250) (hS : ST E hx hm tl ct pe kn ac np kc mN pV kV st sn sl scx tT ec er ed eT eb en q_undos q_models PGv f_afterOf f_actMany f_actOf f_whom f_hasIf f_becomes f_goneOf q_taped cr q_people f_secrets f_lanes f_lengths f_cells f_tokens f_afters f_caseMany f_happen f_heard ws) (hR : RL_ tl ct pe kn ac np kc mN pV kV st sn sl scx tT ec er ed eT eb en q_undos q_models PGv f_afterOf f_actMany f_actOf f_whom f_hasIf f_becomes f_goneOf q_taped cr q_people f_secrets f_lanes f_lengths f_cells f_tokens f_afters f_caseMany f_happen f_heard) (kk : ∀ (tl : Nat) (ct : Nat → Int) (pe : Nat) (kn : Int32) (ac : Nat) (np : Nat) (kc : Nat) (mN : AM) (pV : Nat → AM) (kV : Nat → AM) (st : Nat → Nat) (sn : Nat → Nat) (sl : Nat → Nat) (scx : Nat → Nat → Int32) (tT : Nat → Option SVal) (ec : Nat → Nat) (er : Nat → Nat) (ed : Nat → Nat → Int32) (eT : Nat → Nat → Option SVal) (eb : Nat → Nat → Int32) (en : Nat → Nat → Int32) (q_undos : Nat) (q_models : Nat) (PGv : Nat → AM) (f_afterOf : Nat → Int32) (f_actMany : Nat → Int32) (f_actOf : Nat → Int32) (f_whom : Nat → Int32) (f_hasIf : Nat → Int32) (f_becomes : Nat → Int32) (f_goneOf : Nat → Int32) (q_taped : Nat) (cr : Nat → Int) (q_people : Nat) (f_secrets : Nat → Int32) (f_lanes : Nat → Int32) (f_lengths : Nat → Int32) (f_cells : Nat → Int32) (f_tokens : Nat → Int32) (f_afters : Nat → Int32) (f_caseMany : Nat → Int32) (f_happen : Nat → Int32) (f_heard : Nat → Int32) (wsZ : va_W), ST E hx hm tl ct pe kn ac np kc mN pV kV st sn sl scx tT ec er ed eT eb en q_undos q_models PGv f_afterOf f_actMany f_actOf f_whom f_hasIf f_becomes f_goneOf q_taped cr q_people f_secrets f_lanes f_lengths f_cells f_tokens f_afters f_caseMany f_happen f_heard wsZ → RL_ tl ct pe kn ac np kc mN pV kV st sn sl scx tT ec er ed eT eb en q_undos q_models PGv f_afterOf f_actMany f_actOf f_whom f_hasIf f_becomes f_goneOf q_taped cr q_people f_secrets f_lanes f_lengths f_cells f_tokens f_afters f_caseMany f_happen f_heard → WW X 4 E 1452 [(3, .int (nI i1)), (2, .ref hm), (1, .ref hx), (0, .ref bb)] [] wsZ (kC + 4) (nC + 73)) : WW X 4 E 364 [(3, .int (nI i1)), (2, .ref hm), (1, .ref hx), (0, .ref bb)] [] ws kC nC := by
  obtain ⟨a0, ea0⟩ : ∃ z : Int32, xs (i1 + 1) = z := ⟨_, rfl⟩
  obtain ⟨a1, ea1⟩ : ∃ z : Int32, xs (i1 + 2) = z := ⟨_, rfl⟩
  refine ww_aload_n C dL_law_364 2 rfl rfl ?_
  refine ww_aload_n C dL_law_365 3 rfl rfl ?_
  refine ww_iload_n C dL_law_366 0 rfl rfl ?_
  refine ww_iconst (v := 1) C dL_law_367 rfl ?_
  refine ww_iadd (v := (nI (i1 + 1))) C dL_law_368 (nI_add i1 1) ?_
  refine ww_sld (v := a0) C hs (vp_in_nI (by omega) (by omega)) (ldn (by omega) ea0) dL_law_369 ?_
  refine ww_aload_n C dL_law_370 3 rfl rfl ?_
  refine ww_iload_n C dL_law_371 0 rfl rfl ?_
  refine ww_iconst (v := 2) C dL_law_372 rfl ?_
  refine ww_iadd (v := (nI (i1 + 2))) C dL_law_373 (nI_add i1 2) ?_
  refine ww_sld (v := a1) C hs (vp_in_nI (by omega) (by omega)) (ldn (by omega) ea1) dL_law_374 ?_
  refine cx_of C rfl ⟨by omega, by omega⟩ hS (fun r_1 ws_2 hS_3 hE_4 => ?_)
  replace hE_4 := hd_mk hE_4
  refine ww_pop C dL_law_378 rfl ?_
  refine ww_aload_n C dL_law_379 1 rfl rfl ?_
  refine ww_aload_n C dL_law_380 3 rfl rfl ?_
  refine ww_iload_n C dL_law_381 0 rfl rfl ?_
  refine ww_iconst (v := 1) C dL_law_382 rfl ?_
  refine ww_iadd (v := (nI (i1 + 1))) C dL_law_383 (nI_add i1 1) ?_
  refine ww_sld (v := a0) C hs (vp_in_nI (by omega) (by omega)) (ldn (by omega) ea0) dL_law_384 ?_
  refine ww_aload_n C dL_law_385 3 rfl rfl ?_
  refine ww_iload_n C dL_law_386 0 rfl rfl ?_
  refine ww_iconst (v := 2) C dL_law_387 rfl ?_
  refine ww_iadd (v := (nI (i1 + 2))) C dL_law_388 (nI_add i1 2) ?_
  refine ww_sld (v := a1) C hs (vp_in_nI (by omega) (by omega)) (ldn (by omega) ea1) dL_law_389 ?_
  refine my_of C rfl ⟨by omega, by omega⟩ hS_3 (fun r_5 ws_6 hS_7 hE_8 => ?_)
  replace hE_8 := hd_mk hE_8
  refine ww_pop C dL_law_393 rfl ?_
  refine ww_goto (tgt := 1452) C dL_law_394 (by decide) ?_
  exact ww_wid (by omega) (by omega) (kk tl ct pe kn ac np kc mN pV kV st sn sl scx tT ec er ed eT eb en q_undos q_models PGv f_afterOf f_actMany f_actOf f_whom f_hasIf f_becomes f_goneOf q_taped cr q_people f_secrets f_lanes f_lengths f_cells f_tokens f_afters f_caseMany f_happen f_heard _ hS_7 hR)
theorem dL_law_397 : decode cL_law 397 = .ok (.aload_n 1, 1) := dl_43 (by decide +kernel)
theorem dL_law_398 : decode cL_law 398 = .ok (.aload_n 0, 1) := dl_42 (by decide +kernel)
theorem dL_law_399 : decode cL_law 399 = .ok (.iload_n 3, 1) := dl_29 (by decide +kernel)
theorem dL_law_400 : decode cL_law 400 = .ok (.iconst 1, 1) := dl_4 (by decide +kernel)
theorem dL_law_401 : decode cL_law 401 = .ok (.iadd, 1) := dl_96 (by decide +kernel)
theorem dL_law_402 : decode cL_law 402 = .ok (.iaload, 1) := dl_46 (by decide +kernel)
theorem dL_law_403 : decode cL_law 403 = .ok (.aload_n 0, 1) := dl_42 (by decide +kernel)
theorem dL_law_404 : decode cL_law 404 = .ok (.iload_n 3, 1) := dl_29 (by decide +kernel)
theorem dL_law_405 : decode cL_law 405 = .ok (.iconst 2, 1) := dl_5 (by decide +kernel)
theorem dL_law_406 : decode cL_law 406 = .ok (.iadd, 1) := dl_96 (by decide +kernel)
theorem dL_law_407 : decode cL_law 407 = .ok (.iaload, 1) := dl_46 (by decide +kernel)
theorem dL_law_411 : decode cL_law 411 = .ok (.pop, 1) := dl_87 (by decide +kernel)
theorem dL_law_412 : decode cL_law 412 = .ok (.aload_n 2, 1) := dl_44 (by decide +kernel)
theorem dL_law_413 : decode cL_law 413 = .ok (.aload_n 0, 1) := dl_42 (by decide +kernel)
theorem dL_law_414 : decode cL_law 414 = .ok (.iload_n 3, 1) := dl_29 (by decide +kernel)
theorem dL_law_415 : decode cL_law 415 = .ok (.iconst 1, 1) := dl_4 (by decide +kernel)
theorem dL_law_416 : decode cL_law 416 = .ok (.iadd, 1) := dl_96 (by decide +kernel)
theorem dL_law_417 : decode cL_law 417 = .ok (.iaload, 1) := dl_46 (by decide +kernel)
theorem dL_law_418 : decode cL_law 418 = .ok (.aload_n 0, 1) := dl_42 (by decide +kernel)
theorem dL_law_419 : decode cL_law 419 = .ok (.iload_n 3, 1) := dl_29 (by decide +kernel)
theorem dL_law_420 : decode cL_law 420 = .ok (.iconst 2, 1) := dl_5 (by decide +kernel)
theorem dL_law_421 : decode cL_law 421 = .ok (.iadd, 1) := dl_96 (by decide +kernel)
theorem dL_law_422 : decode cL_law 422 = .ok (.iaload, 1) := dl_46 (by decide +kernel)
theorem dL_law_426 : decode cL_law 426 = .ok (.pop, 1) := dl_87 (by decide +kernel)
theorem dL_law_427 : decode cL_law 427 = .ok (.goto 1025, 3) := dl_167 (by decide +kernel)
set_option maxRecDepth 100000 in
set_option maxHeartbeats 4000000 in
theorem lawc_reach {X : XT} {E : EV} {xs : Nat → Int32} {ws : va_W} {bb L hx hm i1 kC nC : Nat} {tl : Nat} {ct : Nat → Int} {pe : Nat} {kn : Int32} {ac : Nat} {np : Nat} {kc : Nat} {mN : AM} {pV : Nat → AM} {kV : Nat → AM} {st : Nat → Nat} {sn : Nat → Nat} {sl : Nat → Nat} {scx : Nat → Nat → Int32} {tT : Nat → Option SVal} {ec : Nat → Nat} {er : Nat → Nat} {ed : Nat → Nat → Int32} {eT : Nat → Nat → Option SVal} {eb : Nat → Nat → Int32} {en : Nat → Nat → Int32} {q_undos : Nat} {q_models : Nat} {PGv : Nat → AM} {f_afterOf : Nat → Int32} {f_actMany : Nat → Int32} {f_actOf : Nat → Int32} {f_whom : Nat → Int32} {f_hasIf : Nat → Int32} {f_becomes : Nat → Int32} {f_goneOf : Nat → Int32} {q_taped : Nat} {cr : Nat → Int} {q_people : Nat} {f_secrets : Nat → Int32} {f_lanes : Nat → Int32} {f_lengths : Nat → Int32} {f_cells : Nat → Int32} {f_tokens : Nat → Int32} {f_afters : Nat → Int32} {f_caseMany : Nat → Int32} {f_happen : Nat → Int32} {f_heard : Nat → Int32} (C : CX X room_1 cL_law 4 RL ret E) (hs : SX X bb L xs) (hi : i1 + 6 ≤ L) (hL : L ≤ 3072) (hk : kC + 4 ≤ 600000 ∧ nC + 73 ≤ 7302250) (hS : ST E hx hm tl ct pe kn ac np kc mN pV kV st sn sl scx tT ec er ed eT eb en q_undos q_models PGv f_afterOf f_actMany f_actOf f_whom f_hasIf f_becomes f_goneOf q_taped cr q_people f_secrets f_lanes f_lengths f_cells f_tokens f_afters f_caseMany f_happen f_heard ws) (hR : RL_ tl ct pe kn ac np kc mN pV kV st sn sl scx tT ec er ed eT eb en q_undos q_models PGv f_afterOf f_actMany f_actOf f_whom f_hasIf f_becomes f_goneOf q_taped cr q_people f_secrets f_lanes f_lengths f_cells f_tokens f_afters f_caseMany f_happen f_heard) (kk : ∀ (tl : Nat) (ct : Nat → Int) (pe : Nat) (kn : Int32) (ac : Nat) (np : Nat) (kc : Nat) (mN : AM) (pV : Nat → AM) (kV : Nat → AM) (st : Nat → Nat) (sn : Nat → Nat) (sl : Nat → Nat) (scx : Nat → Nat → Int32) (tT : Nat → Option SVal) (ec : Nat → Nat) (er : Nat → Nat) (ed : Nat → Nat → Int32) (eT : Nat → Nat → Option SVal) (eb : Nat → Nat → Int32) (en : Nat → Nat → Int32) (q_undos : Nat) (q_models : Nat) (PGv : Nat → AM) (f_afterOf : Nat → Int32) (f_actMany : Nat → Int32) (f_actOf : Nat → Int32) (f_whom : Nat → Int32) (f_hasIf : Nat → Int32) (f_becomes : Nat → Int32) (f_goneOf : Nat → Int32) (q_taped : Nat) (cr : Nat → Int) (q_people : Nat) (f_secrets : Nat → Int32) (f_lanes : Nat → Int32) (f_lengths : Nat → Int32) (f_cells : Nat → Int32) (f_tokens : Nat → Int32) (f_afters : Nat → Int32) (f_caseMany : Nat → Int32) (f_happen : Nat → Int32) (f_heard : Nat → Int32) (wsZ : va_W), ST E hx hm tl ct pe kn ac np kc mN pV kV st sn sl scx tT ec er ed eT eb en q_undos q_models PGv f_afterOf f_actMany f_actOf f_whom f_hasIf f_becomes f_goneOf q_taped cr q_people f_secrets f_lanes f_lengths f_cells f_tokens f_afters f_caseMany f_happen f_heard wsZ → RL_ tl ct pe kn ac np kc mN pV kV st sn sl scx tT ec er ed eT eb en q_undos q_models PGv f_afterOf f_actMany f_actOf f_whom f_hasIf f_becomes f_goneOf q_taped cr q_people f_secrets f_lanes f_lengths f_cells f_tokens f_afters f_caseMany f_happen f_heard → WW X 4 E 1452 [(3, .int (nI i1)), (2, .ref hm), (1, .ref hx), (0, .ref bb)] [] wsZ (kC + 4) (nC + 73)) : WW X 4 E 397 [(3, .int (nI i1)), (2, .ref hm), (1, .ref hx), (0, .ref bb)] [] ws kC nC := by
  obtain ⟨a0, ea0⟩ : ∃ z : Int32, xs (i1 + 1) = z := ⟨_, rfl⟩
  obtain ⟨a1, ea1⟩ : ∃ z : Int32, xs (i1 + 2) = z := ⟨_, rfl⟩
  refine ww_aload_n C dL_law_397 2 rfl rfl ?_
  refine ww_aload_n C dL_law_398 3 rfl rfl ?_
  refine ww_iload_n C dL_law_399 0 rfl rfl ?_
  refine ww_iconst (v := 1) C dL_law_400 rfl ?_
  refine ww_iadd (v := (nI (i1 + 1))) C dL_law_401 (nI_add i1 1) ?_
  refine ww_sld (v := a0) C hs (vp_in_nI (by omega) (by omega)) (ldn (by omega) ea0) dL_law_402 ?_
  refine ww_aload_n C dL_law_403 3 rfl rfl ?_
  refine ww_iload_n C dL_law_404 0 rfl rfl ?_
  refine ww_iconst (v := 2) C dL_law_405 rfl ?_
  refine ww_iadd (v := (nI (i1 + 2))) C dL_law_406 (nI_add i1 2) ?_
  refine ww_sld (v := a1) C hs (vp_in_nI (by omega) (by omega)) (ldn (by omega) ea1) dL_law_407 ?_
  refine cx_reach C rfl ⟨by omega, by omega⟩ hS (fun r_1 ws_2 hS_3 hE_4 => ?_)
  replace hE_4 := hd_mk hE_4
  refine ww_pop C dL_law_411 rfl ?_
  refine ww_aload_n C dL_law_412 1 rfl rfl ?_
  refine ww_aload_n C dL_law_413 3 rfl rfl ?_
  refine ww_iload_n C dL_law_414 0 rfl rfl ?_
  refine ww_iconst (v := 1) C dL_law_415 rfl ?_
  refine ww_iadd (v := (nI (i1 + 1))) C dL_law_416 (nI_add i1 1) ?_
  refine ww_sld (v := a0) C hs (vp_in_nI (by omega) (by omega)) (ldn (by omega) ea0) dL_law_417 ?_
  refine ww_aload_n C dL_law_418 3 rfl rfl ?_
  refine ww_iload_n C dL_law_419 0 rfl rfl ?_
  refine ww_iconst (v := 2) C dL_law_420 rfl ?_
  refine ww_iadd (v := (nI (i1 + 2))) C dL_law_421 (nI_add i1 2) ?_
  refine ww_sld (v := a1) C hs (vp_in_nI (by omega) (by omega)) (ldn (by omega) ea1) dL_law_422 ?_
  refine my_reach C rfl ⟨by omega, by omega⟩ hS_3 (fun r_5 ws_6 hS_7 hE_8 => ?_)
  replace hE_8 := hd_mk hE_8
  refine ww_pop C dL_law_426 rfl ?_
  refine ww_goto (tgt := 1452) C dL_law_427 (by decide) ?_
  exact ww_wid (by omega) (by omega) (kk tl ct pe kn ac np kc mN pV kV st sn sl scx tT ec er ed eT eb en q_undos q_models PGv f_afterOf f_actMany f_actOf f_whom f_hasIf f_becomes f_goneOf q_taped cr q_people f_secrets f_lanes f_lengths f_cells f_tokens f_afters f_caseMany f_happen f_heard _ hS_7 hR)
theorem dL_law_430 : decode cL_law 430 = .ok (.aload_n 1, 1) := dl_43 (by decide +kernel)
theorem dL_law_431 : decode cL_law 431 = .ok (.aload_n 0, 1) := dl_42 (by decide +kernel)
theorem dL_law_432 : decode cL_law 432 = .ok (.iload_n 3, 1) := dl_29 (by decide +kernel)
theorem dL_law_433 : decode cL_law 433 = .ok (.iconst 1, 1) := dl_4 (by decide +kernel)
theorem dL_law_434 : decode cL_law 434 = .ok (.iadd, 1) := dl_96 (by decide +kernel)
theorem dL_law_435 : decode cL_law 435 = .ok (.iaload, 1) := dl_46 (by decide +kernel)
theorem dL_law_436 : decode cL_law 436 = .ok (.i2l, 1) := dl_133 (by decide +kernel)
theorem dL_law_437 : decode cL_law 437 = .ok (.bipush 32, 2) := dl_16 (by decide +kernel)
theorem dL_law_439 : decode cL_law 439 = .ok (.lshl, 1) := dl_121 (by decide +kernel)
theorem dL_law_440 : decode cL_law 440 = .ok (.aload_n 0, 1) := dl_42 (by decide +kernel)
theorem dL_law_441 : decode cL_law 441 = .ok (.iload_n 3, 1) := dl_29 (by decide +kernel)
theorem dL_law_442 : decode cL_law 442 = .ok (.iconst 2, 1) := dl_5 (by decide +kernel)
theorem dL_law_443 : decode cL_law 443 = .ok (.iadd, 1) := dl_96 (by decide +kernel)
theorem dL_law_444 : decode cL_law 444 = .ok (.iaload, 1) := dl_46 (by decide +kernel)
theorem dL_law_445 : decode cL_law 445 = .ok (.i2l, 1) := dl_133 (by decide +kernel)
theorem dL_law_446 : decode cL_law 446 = .ok (.ldc2_w 40, 3) := dl_20 (by decide +kernel)
theorem wv_L_40 : Cond.constantLong RL 40 4294967295 ∈ TB := tbm (tq7 (List.mem_of_getElem? (i := 97) (by decide +kernel))) (by decide +kernel)
theorem dL_law_449 : decode cL_law 449 = .ok (.land, 1) := dl_127 (by decide +kernel)
theorem dL_law_450 : decode cL_law 450 = .ok (.lor, 1) := dl_129 (by decide +kernel)
theorem dL_law_454 : decode cL_law 454 = .ok (.pop, 1) := dl_87 (by decide +kernel)
theorem dL_law_455 : decode cL_law 455 = .ok (.aload_n 2, 1) := dl_44 (by decide +kernel)
theorem dL_law_456 : decode cL_law 456 = .ok (.aload_n 0, 1) := dl_42 (by decide +kernel)
theorem dL_law_457 : decode cL_law 457 = .ok (.iload_n 3, 1) := dl_29 (by decide +kernel)
theorem dL_law_458 : decode cL_law 458 = .ok (.iconst 1, 1) := dl_4 (by decide +kernel)
theorem dL_law_459 : decode cL_law 459 = .ok (.iadd, 1) := dl_96 (by decide +kernel)
theorem dL_law_460 : decode cL_law 460 = .ok (.iaload, 1) := dl_46 (by decide +kernel)
theorem dL_law_461 : decode cL_law 461 = .ok (.i2l, 1) := dl_133 (by decide +kernel)
theorem dL_law_462 : decode cL_law 462 = .ok (.bipush 32, 2) := dl_16 (by decide +kernel)
theorem dL_law_464 : decode cL_law 464 = .ok (.lshl, 1) := dl_121 (by decide +kernel)
theorem dL_law_465 : decode cL_law 465 = .ok (.aload_n 0, 1) := dl_42 (by decide +kernel)
theorem dL_law_466 : decode cL_law 466 = .ok (.iload_n 3, 1) := dl_29 (by decide +kernel)
theorem dL_law_467 : decode cL_law 467 = .ok (.iconst 2, 1) := dl_5 (by decide +kernel)
theorem dL_law_468 : decode cL_law 468 = .ok (.iadd, 1) := dl_96 (by decide +kernel)
theorem dL_law_469 : decode cL_law 469 = .ok (.iaload, 1) := dl_46 (by decide +kernel)
theorem dL_law_470 : decode cL_law 470 = .ok (.i2l, 1) := dl_133 (by decide +kernel)
theorem dL_law_471 : decode cL_law 471 = .ok (.ldc2_w 40, 3) := dl_20 (by decide +kernel)
theorem dL_law_474 : decode cL_law 474 = .ok (.land, 1) := dl_127 (by decide +kernel)
theorem dL_law_475 : decode cL_law 475 = .ok (.lor, 1) := dl_129 (by decide +kernel)
theorem dL_law_479 : decode cL_law 479 = .ok (.pop, 1) := dl_87 (by decide +kernel)
theorem dL_law_480 : decode cL_law 480 = .ok (.goto 972, 3) := dl_167 (by decide +kernel)
set_option maxRecDepth 100000 in
set_option maxHeartbeats 4000000 in
theorem lawc_feed {X : XT} {E : EV} {xs : Nat → Int32} {ws : va_W} {bb L hx hm i1 kC nC : Nat} {tl : Nat} {ct : Nat → Int} {pe : Nat} {kn : Int32} {ac : Nat} {np : Nat} {kc : Nat} {mN : AM} {pV : Nat → AM} {kV : Nat → AM} {st : Nat → Nat} {sn : Nat → Nat} {sl : Nat → Nat} {scx : Nat → Nat → Int32} {tT : Nat → Option SVal} {ec : Nat → Nat} {er : Nat → Nat} {ed : Nat → Nat → Int32} {eT : Nat → Nat → Option SVal} {eb : Nat → Nat → Int32} {en : Nat → Nat → Int32} {q_undos : Nat} {q_models : Nat} {PGv : Nat → AM} {f_afterOf : Nat → Int32} {f_actMany : Nat → Int32} {f_actOf : Nat → Int32} {f_whom : Nat → Int32} {f_hasIf : Nat → Int32} {f_becomes : Nat → Int32} {f_goneOf : Nat → Int32} {q_taped : Nat} {cr : Nat → Int} {q_people : Nat} {f_secrets : Nat → Int32} {f_lanes : Nat → Int32} {f_lengths : Nat → Int32} {f_cells : Nat → Int32} {f_tokens : Nat → Int32} {f_afters : Nat → Int32} {f_caseMany : Nat → Int32} {f_happen : Nat → Int32} {f_heard : Nat → Int32} (C : CX X room_1 cL_law 4 RL ret E) (hs : SX X bb L xs) (hi : i1 + 6 ≤ L) (hL : L ≤ 3072) (hk : kC + 4 ≤ 600000 ∧ nC + 73 ≤ 7302250) (hS : ST E hx hm tl ct pe kn ac np kc mN pV kV st sn sl scx tT ec er ed eT eb en q_undos q_models PGv f_afterOf f_actMany f_actOf f_whom f_hasIf f_becomes f_goneOf q_taped cr q_people f_secrets f_lanes f_lengths f_cells f_tokens f_afters f_caseMany f_happen f_heard ws) (hR : RL_ tl ct pe kn ac np kc mN pV kV st sn sl scx tT ec er ed eT eb en q_undos q_models PGv f_afterOf f_actMany f_actOf f_whom f_hasIf f_becomes f_goneOf q_taped cr q_people f_secrets f_lanes f_lengths f_cells f_tokens f_afters f_caseMany f_happen f_heard) (kk : ∀ (tl : Nat) (ct : Nat → Int) (pe : Nat) (kn : Int32) (ac : Nat) (np : Nat) (kc : Nat) (mN : AM) (pV : Nat → AM) (kV : Nat → AM) (st : Nat → Nat) (sn : Nat → Nat) (sl : Nat → Nat) (scx : Nat → Nat → Int32) (tT : Nat → Option SVal) (ec : Nat → Nat) (er : Nat → Nat) (ed : Nat → Nat → Int32) (eT : Nat → Nat → Option SVal) (eb : Nat → Nat → Int32) (en : Nat → Nat → Int32) (q_undos : Nat) (q_models : Nat) (PGv : Nat → AM) (f_afterOf : Nat → Int32) (f_actMany : Nat → Int32) (f_actOf : Nat → Int32) (f_whom : Nat → Int32) (f_hasIf : Nat → Int32) (f_becomes : Nat → Int32) (f_goneOf : Nat → Int32) (q_taped : Nat) (cr : Nat → Int) (q_people : Nat) (f_secrets : Nat → Int32) (f_lanes : Nat → Int32) (f_lengths : Nat → Int32) (f_cells : Nat → Int32) (f_tokens : Nat → Int32) (f_afters : Nat → Int32) (f_caseMany : Nat → Int32) (f_happen : Nat → Int32) (f_heard : Nat → Int32) (wsZ : va_W), ST E hx hm tl ct pe kn ac np kc mN pV kV st sn sl scx tT ec er ed eT eb en q_undos q_models PGv f_afterOf f_actMany f_actOf f_whom f_hasIf f_becomes f_goneOf q_taped cr q_people f_secrets f_lanes f_lengths f_cells f_tokens f_afters f_caseMany f_happen f_heard wsZ → RL_ tl ct pe kn ac np kc mN pV kV st sn sl scx tT ec er ed eT eb en q_undos q_models PGv f_afterOf f_actMany f_actOf f_whom f_hasIf f_becomes f_goneOf q_taped cr q_people f_secrets f_lanes f_lengths f_cells f_tokens f_afters f_caseMany f_happen f_heard → WW X 4 E 1452 [(3, .int (nI i1)), (2, .ref hm), (1, .ref hx), (0, .ref bb)] [] wsZ (kC + 4) (nC + 73)) : WW X 4 E 430 [(3, .int (nI i1)), (2, .ref hm), (1, .ref hx), (0, .ref bb)] [] ws kC nC := by
  obtain ⟨a0, ea0⟩ : ∃ z : Int32, xs (i1 + 1) = z := ⟨_, rfl⟩
  obtain ⟨a1, ea1⟩ : ∃ z : Int32, xs (i1 + 2) = z := ⟨_, rfl⟩
  refine ww_aload_n C dL_law_430 2 rfl rfl ?_
  refine ww_aload_n C dL_law_431 3 rfl rfl ?_
  refine ww_iload_n C dL_law_432 0 rfl rfl ?_
  refine ww_iconst (v := 1) C dL_law_433 rfl ?_
  refine ww_iadd (v := (nI (i1 + 1))) C dL_law_434 (nI_add i1 1) ?_
  refine ww_sld (v := a0) C hs (vp_in_nI (by omega) (by omega)) (ldn (by omega) ea0) dL_law_435 ?_
  refine ww_i2l (v := a0.toInt64) C dL_law_436 rfl ?_
  refine ww_bipush (v := 32) C dL_law_437 rfl ?_
  obtain ⟨l_1, el_1⟩ : ∃ z : Int64, a0.toInt64 <<< ((32 : Int32).toInt64 &&& 63) = z := ⟨_, rfl⟩
  refine ww_lshl C dL_law_439 el_1 ?_
  refine ww_aload_n C dL_law_440 3 rfl rfl ?_
  refine ww_iload_n C dL_law_441 0 rfl rfl ?_
  refine ww_iconst (v := 2) C dL_law_442 rfl ?_
  refine ww_iadd (v := (nI (i1 + 2))) C dL_law_443 (nI_add i1 2) ?_
  refine ww_sld (v := a1) C hs (vp_in_nI (by omega) (by omega)) (ldn (by omega) ea1) dL_law_444 ?_
  refine ww_i2l (v := a1.toInt64) C dL_law_445 rfl ?_
  refine ww_ldc2 C wv_L_40 dL_law_446 ?_
  obtain ⟨l_2, el_2⟩ : ∃ z : Int64, a1.toInt64 &&& (4294967295 : Int64) = z := ⟨_, rfl⟩
  refine ww_land C dL_law_449 el_2 ?_
  obtain ⟨l_3, el_3⟩ : ∃ z : Int64, l_1 ||| l_2 = z := ⟨_, rfl⟩
  refine ww_lor C dL_law_450 el_3 ?_
  refine cx_feed C rfl ⟨by omega, by omega⟩ hS (fun r_4 tl_8 ct_9 ws_5 hS_6 hE_7 => ?_)
  replace hE_7 := hd_mk hE_7
  refine ww_pop C dL_law_454 rfl ?_
  refine ww_aload_n C dL_law_455 1 rfl rfl ?_
  refine ww_aload_n C dL_law_456 3 rfl rfl ?_
  refine ww_iload_n C dL_law_457 0 rfl rfl ?_
  refine ww_iconst (v := 1) C dL_law_458 rfl ?_
  refine ww_iadd (v := (nI (i1 + 1))) C dL_law_459 (nI_add i1 1) ?_
  refine ww_sld (v := a0) C hs (vp_in_nI (by omega) (by omega)) (ldn (by omega) ea0) dL_law_460 ?_
  refine ww_i2l (v := a0.toInt64) C dL_law_461 rfl ?_
  refine ww_bipush (v := 32) C dL_law_462 rfl ?_
  obtain ⟨l_10, el_10⟩ : ∃ z : Int64, a0.toInt64 <<< ((32 : Int32).toInt64 &&& 63) = z := ⟨_, rfl⟩
  refine ww_lshl C dL_law_464 el_10 ?_
  refine ww_aload_n C dL_law_465 3 rfl rfl ?_
  refine ww_iload_n C dL_law_466 0 rfl rfl ?_
  refine ww_iconst (v := 2) C dL_law_467 rfl ?_
  refine ww_iadd (v := (nI (i1 + 2))) C dL_law_468 (nI_add i1 2) ?_
  refine ww_sld (v := a1) C hs (vp_in_nI (by omega) (by omega)) (ldn (by omega) ea1) dL_law_469 ?_
  refine ww_i2l (v := a1.toInt64) C dL_law_470 rfl ?_
  refine ww_ldc2 C wv_L_40 dL_law_471 ?_
  obtain ⟨l_11, el_11⟩ : ∃ z : Int64, a1.toInt64 &&& (4294967295 : Int64) = z := ⟨_, rfl⟩
  refine ww_land C dL_law_474 el_11 ?_
  obtain ⟨l_12, el_12⟩ : ∃ z : Int64, l_10 ||| l_11 = z := ⟨_, rfl⟩
  refine ww_lor C dL_law_475 el_12 ?_
  refine my_feed C rfl ⟨by omega, by omega⟩ hS_6 (fun r_13 q_taped_17 cr_18 ws_14 hS_15 hE_16 => ?_)
  replace hE_16 := hd_mk hE_16
  refine ww_pop C dL_law_479 rfl ?_
  refine ww_goto (tgt := 1452) C dL_law_480 (by decide) ?_
  exact ww_wid (by omega) (by omega) (kk tl_8 ct_9 pe kn ac np kc mN pV kV st sn sl scx tT ec er ed eT eb en q_undos q_models PGv f_afterOf f_actMany f_actOf f_whom f_hasIf f_becomes f_goneOf q_taped_17 cr_18 q_people f_secrets f_lanes f_lengths f_cells f_tokens f_afters f_caseMany f_happen f_heard _ hS_15 ⟨(re_feed hE_7 hE_16 hR (ST.tl hS) (by rw [← el_3, ← el_1, ← el_2, ← el_12, ← el_10, ← el_11])).1, (re_feed hE_7 hE_16 hR (ST.tl hS) (by rw [← el_3, ← el_1, ← el_2, ← el_12, ← el_10, ← el_11])).2, hR.2.2.1, hR.2.2.2.1, hR.2.2.2.2.1, hR.2.2.2.2.2.1, hR.2.2.2.2.2.2.1, hR.2.2.2.2.2.2.2.1, hR.2.2.2.2.2.2.2.2.1, hR.2.2.2.2.2.2.2.2.2.1, hR.2.2.2.2.2.2.2.2.2.2.1, hR.2.2.2.2.2.2.2.2.2.2.2.1, hR.2.2.2.2.2.2.2.2.2.2.2.2.1, hR.2.2.2.2.2.2.2.2.2.2.2.2.2⟩)
theorem dL_law_483 : decode cL_law 483 = .ok (.aload_n 1, 1) := dl_43 (by decide +kernel)
theorem dL_law_484 : decode cL_law 484 = .ok (.aload_n 0, 1) := dl_42 (by decide +kernel)
theorem dL_law_485 : decode cL_law 485 = .ok (.iload_n 3, 1) := dl_29 (by decide +kernel)
theorem dL_law_486 : decode cL_law 486 = .ok (.iconst 1, 1) := dl_4 (by decide +kernel)
theorem dL_law_487 : decode cL_law 487 = .ok (.iadd, 1) := dl_96 (by decide +kernel)
theorem dL_law_488 : decode cL_law 488 = .ok (.iaload, 1) := dl_46 (by decide +kernel)
theorem dL_law_492 : decode cL_law 492 = .ok (.pop, 1) := dl_87 (by decide +kernel)
theorem dL_law_493 : decode cL_law 493 = .ok (.aload_n 2, 1) := dl_44 (by decide +kernel)
theorem dL_law_494 : decode cL_law 494 = .ok (.aload_n 0, 1) := dl_42 (by decide +kernel)
theorem dL_law_495 : decode cL_law 495 = .ok (.iload_n 3, 1) := dl_29 (by decide +kernel)
theorem dL_law_496 : decode cL_law 496 = .ok (.iconst 1, 1) := dl_4 (by decide +kernel)
theorem dL_law_497 : decode cL_law 497 = .ok (.iadd, 1) := dl_96 (by decide +kernel)
theorem dL_law_498 : decode cL_law 498 = .ok (.iaload, 1) := dl_46 (by decide +kernel)
theorem dL_law_502 : decode cL_law 502 = .ok (.pop, 1) := dl_87 (by decide +kernel)
theorem dL_law_503 : decode cL_law 503 = .ok (.goto 949, 3) := dl_167 (by decide +kernel)
set_option maxRecDepth 100000 in
set_option maxHeartbeats 4000000 in
theorem lawc_end {X : XT} {E : EV} {xs : Nat → Int32} {ws : va_W} {bb L hx hm i1 kC nC : Nat} {tl : Nat} {ct : Nat → Int} {pe : Nat} {kn : Int32} {ac : Nat} {np : Nat} {kc : Nat} {mN : AM} {pV : Nat → AM} {kV : Nat → AM} {st : Nat → Nat} {sn : Nat → Nat} {sl : Nat → Nat} {scx : Nat → Nat → Int32} {tT : Nat → Option SVal} {ec : Nat → Nat} {er : Nat → Nat} {ed : Nat → Nat → Int32} {eT : Nat → Nat → Option SVal} {eb : Nat → Nat → Int32} {en : Nat → Nat → Int32} {q_undos : Nat} {q_models : Nat} {PGv : Nat → AM} {f_afterOf : Nat → Int32} {f_actMany : Nat → Int32} {f_actOf : Nat → Int32} {f_whom : Nat → Int32} {f_hasIf : Nat → Int32} {f_becomes : Nat → Int32} {f_goneOf : Nat → Int32} {q_taped : Nat} {cr : Nat → Int} {q_people : Nat} {f_secrets : Nat → Int32} {f_lanes : Nat → Int32} {f_lengths : Nat → Int32} {f_cells : Nat → Int32} {f_tokens : Nat → Int32} {f_afters : Nat → Int32} {f_caseMany : Nat → Int32} {f_happen : Nat → Int32} {f_heard : Nat → Int32} (C : CX X room_1 cL_law 4 RL ret E) (hs : SX X bb L xs) (hi : i1 + 6 ≤ L) (hL : L ≤ 3072) (hk : kC + 4 ≤ 600000 ∧ nC + 73 ≤ 7302250) (hS : ST E hx hm tl ct pe kn ac np kc mN pV kV st sn sl scx tT ec er ed eT eb en q_undos q_models PGv f_afterOf f_actMany f_actOf f_whom f_hasIf f_becomes f_goneOf q_taped cr q_people f_secrets f_lanes f_lengths f_cells f_tokens f_afters f_caseMany f_happen f_heard ws) (hR : RL_ tl ct pe kn ac np kc mN pV kV st sn sl scx tT ec er ed eT eb en q_undos q_models PGv f_afterOf f_actMany f_actOf f_whom f_hasIf f_becomes f_goneOf q_taped cr q_people f_secrets f_lanes f_lengths f_cells f_tokens f_afters f_caseMany f_happen f_heard) (kk : ∀ (tl : Nat) (ct : Nat → Int) (pe : Nat) (kn : Int32) (ac : Nat) (np : Nat) (kc : Nat) (mN : AM) (pV : Nat → AM) (kV : Nat → AM) (st : Nat → Nat) (sn : Nat → Nat) (sl : Nat → Nat) (scx : Nat → Nat → Int32) (tT : Nat → Option SVal) (ec : Nat → Nat) (er : Nat → Nat) (ed : Nat → Nat → Int32) (eT : Nat → Nat → Option SVal) (eb : Nat → Nat → Int32) (en : Nat → Nat → Int32) (q_undos : Nat) (q_models : Nat) (PGv : Nat → AM) (f_afterOf : Nat → Int32) (f_actMany : Nat → Int32) (f_actOf : Nat → Int32) (f_whom : Nat → Int32) (f_hasIf : Nat → Int32) (f_becomes : Nat → Int32) (f_goneOf : Nat → Int32) (q_taped : Nat) (cr : Nat → Int) (q_people : Nat) (f_secrets : Nat → Int32) (f_lanes : Nat → Int32) (f_lengths : Nat → Int32) (f_cells : Nat → Int32) (f_tokens : Nat → Int32) (f_afters : Nat → Int32) (f_caseMany : Nat → Int32) (f_happen : Nat → Int32) (f_heard : Nat → Int32) (wsZ : va_W), ST E hx hm tl ct pe kn ac np kc mN pV kV st sn sl scx tT ec er ed eT eb en q_undos q_models PGv f_afterOf f_actMany f_actOf f_whom f_hasIf f_becomes f_goneOf q_taped cr q_people f_secrets f_lanes f_lengths f_cells f_tokens f_afters f_caseMany f_happen f_heard wsZ → RL_ tl ct pe kn ac np kc mN pV kV st sn sl scx tT ec er ed eT eb en q_undos q_models PGv f_afterOf f_actMany f_actOf f_whom f_hasIf f_becomes f_goneOf q_taped cr q_people f_secrets f_lanes f_lengths f_cells f_tokens f_afters f_caseMany f_happen f_heard → WW X 4 E 1452 [(3, .int (nI i1)), (2, .ref hm), (1, .ref hx), (0, .ref bb)] [] wsZ (kC + 4) (nC + 73)) : WW X 4 E 483 [(3, .int (nI i1)), (2, .ref hm), (1, .ref hx), (0, .ref bb)] [] ws kC nC := by
  obtain ⟨a0, ea0⟩ : ∃ z : Int32, xs (i1 + 1) = z := ⟨_, rfl⟩
  refine ww_aload_n C dL_law_483 2 rfl rfl ?_
  refine ww_aload_n C dL_law_484 3 rfl rfl ?_
  refine ww_iload_n C dL_law_485 0 rfl rfl ?_
  refine ww_iconst (v := 1) C dL_law_486 rfl ?_
  refine ww_iadd (v := (nI (i1 + 1))) C dL_law_487 (nI_add i1 1) ?_
  refine ww_sld (v := a0) C hs (vp_in_nI (by omega) (by omega)) (ldn (by omega) ea0) dL_law_488 ?_
  refine cx_end C rfl ⟨by omega, by omega⟩ hS (fun r_1 tl_5 ct_6 ws_2 hS_3 hE_4 => ?_)
  replace hE_4 := hd_mk hE_4
  refine ww_pop C dL_law_492 rfl ?_
  refine ww_aload_n C dL_law_493 1 rfl rfl ?_
  refine ww_aload_n C dL_law_494 3 rfl rfl ?_
  refine ww_iload_n C dL_law_495 0 rfl rfl ?_
  refine ww_iconst (v := 1) C dL_law_496 rfl ?_
  refine ww_iadd (v := (nI (i1 + 1))) C dL_law_497 (nI_add i1 1) ?_
  refine ww_sld (v := a0) C hs (vp_in_nI (by omega) (by omega)) (ldn (by omega) ea0) dL_law_498 ?_
  refine my_end C rfl ⟨by omega, by omega⟩ hS_3 (fun r_7 q_taped_11 cr_12 ws_8 hS_9 hE_10 => ?_)
  replace hE_10 := hd_mk hE_10
  refine ww_pop C dL_law_502 rfl ?_
  refine ww_goto (tgt := 1452) C dL_law_503 (by decide) ?_
  exact ww_wid (by omega) (by omega) (kk tl_5 ct_6 pe kn ac np kc mN pV kV st sn sl scx tT ec er ed eT eb en q_undos q_models PGv f_afterOf f_actMany f_actOf f_whom f_hasIf f_becomes f_goneOf q_taped_11 cr_12 q_people f_secrets f_lanes f_lengths f_cells f_tokens f_afters f_caseMany f_happen f_heard _ hS_9 ⟨(re_end hE_4 hE_10 hR (ST.tl hS)).1, (re_end hE_4 hE_10 hR (ST.tl hS)).2, hR.2.2.1, hR.2.2.2.1, hR.2.2.2.2.1, hR.2.2.2.2.2.1, hR.2.2.2.2.2.2.1, hR.2.2.2.2.2.2.2.1, hR.2.2.2.2.2.2.2.2.1, hR.2.2.2.2.2.2.2.2.2.1, hR.2.2.2.2.2.2.2.2.2.2.1, hR.2.2.2.2.2.2.2.2.2.2.2.1, hR.2.2.2.2.2.2.2.2.2.2.2.2.1, hR.2.2.2.2.2.2.2.2.2.2.2.2.2⟩)
theorem dL_law_506 : decode cL_law 506 = .ok (.aload_n 1, 1) := dl_43 (by decide +kernel)
theorem dL_law_507 : decode cL_law 507 = .ok (.aload_n 0, 1) := dl_42 (by decide +kernel)
theorem dL_law_508 : decode cL_law 508 = .ok (.iload_n 3, 1) := dl_29 (by decide +kernel)
theorem dL_law_509 : decode cL_law 509 = .ok (.iconst 1, 1) := dl_4 (by decide +kernel)
theorem dL_law_510 : decode cL_law 510 = .ok (.iadd, 1) := dl_96 (by decide +kernel)
theorem dL_law_511 : decode cL_law 511 = .ok (.iaload, 1) := dl_46 (by decide +kernel)
theorem dL_law_515 : decode cL_law 515 = .ok (.pop, 1) := dl_87 (by decide +kernel)
theorem dL_law_516 : decode cL_law 516 = .ok (.aload_n 2, 1) := dl_44 (by decide +kernel)
theorem dL_law_517 : decode cL_law 517 = .ok (.aload_n 0, 1) := dl_42 (by decide +kernel)
theorem dL_law_518 : decode cL_law 518 = .ok (.iload_n 3, 1) := dl_29 (by decide +kernel)
theorem dL_law_519 : decode cL_law 519 = .ok (.iconst 1, 1) := dl_4 (by decide +kernel)
theorem dL_law_520 : decode cL_law 520 = .ok (.iadd, 1) := dl_96 (by decide +kernel)
theorem dL_law_521 : decode cL_law 521 = .ok (.iaload, 1) := dl_46 (by decide +kernel)
theorem dL_law_525 : decode cL_law 525 = .ok (.pop, 1) := dl_87 (by decide +kernel)
theorem dL_law_526 : decode cL_law 526 = .ok (.goto 926, 3) := dl_167 (by decide +kernel)
set_option maxRecDepth 100000 in
set_option maxHeartbeats 4000000 in
theorem lawc_say {X : XT} {E : EV} {xs : Nat → Int32} {ws : va_W} {bb L hx hm i1 kC nC : Nat} {tl : Nat} {ct : Nat → Int} {pe : Nat} {kn : Int32} {ac : Nat} {np : Nat} {kc : Nat} {mN : AM} {pV : Nat → AM} {kV : Nat → AM} {st : Nat → Nat} {sn : Nat → Nat} {sl : Nat → Nat} {scx : Nat → Nat → Int32} {tT : Nat → Option SVal} {ec : Nat → Nat} {er : Nat → Nat} {ed : Nat → Nat → Int32} {eT : Nat → Nat → Option SVal} {eb : Nat → Nat → Int32} {en : Nat → Nat → Int32} {q_undos : Nat} {q_models : Nat} {PGv : Nat → AM} {f_afterOf : Nat → Int32} {f_actMany : Nat → Int32} {f_actOf : Nat → Int32} {f_whom : Nat → Int32} {f_hasIf : Nat → Int32} {f_becomes : Nat → Int32} {f_goneOf : Nat → Int32} {q_taped : Nat} {cr : Nat → Int} {q_people : Nat} {f_secrets : Nat → Int32} {f_lanes : Nat → Int32} {f_lengths : Nat → Int32} {f_cells : Nat → Int32} {f_tokens : Nat → Int32} {f_afters : Nat → Int32} {f_caseMany : Nat → Int32} {f_happen : Nat → Int32} {f_heard : Nat → Int32} (C : CX X room_1 cL_law 4 RL ret E) (hs : SX X bb L xs) (hi : i1 + 6 ≤ L) (hL : L ≤ 3072) (hk : kC + 4 ≤ 600000 ∧ nC + 73 ≤ 7302250) (hS : ST E hx hm tl ct pe kn ac np kc mN pV kV st sn sl scx tT ec er ed eT eb en q_undos q_models PGv f_afterOf f_actMany f_actOf f_whom f_hasIf f_becomes f_goneOf q_taped cr q_people f_secrets f_lanes f_lengths f_cells f_tokens f_afters f_caseMany f_happen f_heard ws) (hR : RL_ tl ct pe kn ac np kc mN pV kV st sn sl scx tT ec er ed eT eb en q_undos q_models PGv f_afterOf f_actMany f_actOf f_whom f_hasIf f_becomes f_goneOf q_taped cr q_people f_secrets f_lanes f_lengths f_cells f_tokens f_afters f_caseMany f_happen f_heard) (kk : ∀ (tl : Nat) (ct : Nat → Int) (pe : Nat) (kn : Int32) (ac : Nat) (np : Nat) (kc : Nat) (mN : AM) (pV : Nat → AM) (kV : Nat → AM) (st : Nat → Nat) (sn : Nat → Nat) (sl : Nat → Nat) (scx : Nat → Nat → Int32) (tT : Nat → Option SVal) (ec : Nat → Nat) (er : Nat → Nat) (ed : Nat → Nat → Int32) (eT : Nat → Nat → Option SVal) (eb : Nat → Nat → Int32) (en : Nat → Nat → Int32) (q_undos : Nat) (q_models : Nat) (PGv : Nat → AM) (f_afterOf : Nat → Int32) (f_actMany : Nat → Int32) (f_actOf : Nat → Int32) (f_whom : Nat → Int32) (f_hasIf : Nat → Int32) (f_becomes : Nat → Int32) (f_goneOf : Nat → Int32) (q_taped : Nat) (cr : Nat → Int) (q_people : Nat) (f_secrets : Nat → Int32) (f_lanes : Nat → Int32) (f_lengths : Nat → Int32) (f_cells : Nat → Int32) (f_tokens : Nat → Int32) (f_afters : Nat → Int32) (f_caseMany : Nat → Int32) (f_happen : Nat → Int32) (f_heard : Nat → Int32) (wsZ : va_W), ST E hx hm tl ct pe kn ac np kc mN pV kV st sn sl scx tT ec er ed eT eb en q_undos q_models PGv f_afterOf f_actMany f_actOf f_whom f_hasIf f_becomes f_goneOf q_taped cr q_people f_secrets f_lanes f_lengths f_cells f_tokens f_afters f_caseMany f_happen f_heard wsZ → RL_ tl ct pe kn ac np kc mN pV kV st sn sl scx tT ec er ed eT eb en q_undos q_models PGv f_afterOf f_actMany f_actOf f_whom f_hasIf f_becomes f_goneOf q_taped cr q_people f_secrets f_lanes f_lengths f_cells f_tokens f_afters f_caseMany f_happen f_heard → WW X 4 E 1452 [(3, .int (nI i1)), (2, .ref hm), (1, .ref hx), (0, .ref bb)] [] wsZ (kC + 4) (nC + 73)) : WW X 4 E 506 [(3, .int (nI i1)), (2, .ref hm), (1, .ref hx), (0, .ref bb)] [] ws kC nC := by
  obtain ⟨a0, ea0⟩ : ∃ z : Int32, xs (i1 + 1) = z := ⟨_, rfl⟩
  refine ww_aload_n C dL_law_506 2 rfl rfl ?_
  refine ww_aload_n C dL_law_507 3 rfl rfl ?_
  refine ww_iload_n C dL_law_508 0 rfl rfl ?_
  refine ww_iconst (v := 1) C dL_law_509 rfl ?_
  refine ww_iadd (v := (nI (i1 + 1))) C dL_law_510 (nI_add i1 1) ?_
  refine ww_sld (v := a0) C hs (vp_in_nI (by omega) (by omega)) (ldn (by omega) ea0) dL_law_511 ?_
  refine cx_say C rfl ⟨by omega, by omega⟩ hS (fun r_1 tl_5 ct_6 tT_7 ws_2 hS_3 hE_4 => ?_)
  replace hE_4 := hd_mk hE_4
  refine ww_pop C dL_law_515 rfl ?_
  refine ww_aload_n C dL_law_516 1 rfl rfl ?_
  refine ww_aload_n C dL_law_517 3 rfl rfl ?_
  refine ww_iload_n C dL_law_518 0 rfl rfl ?_
  refine ww_iconst (v := 1) C dL_law_519 rfl ?_
  refine ww_iadd (v := (nI (i1 + 1))) C dL_law_520 (nI_add i1 1) ?_
  refine ww_sld (v := a0) C hs (vp_in_nI (by omega) (by omega)) (ldn (by omega) ea0) dL_law_521 ?_
  refine my_say C rfl ⟨by omega, by omega⟩ hS_3 (fun r_8 f_afterOf_12 f_actMany_13 f_actOf_14 f_whom_15 q_taped_16 cr_17 f_tokens_18 f_afters_19 ws_9 hS_10 hE_11 => ?_)
  replace hE_11 := hd_mk hE_11
  refine ww_pop C dL_law_525 rfl ?_
  refine ww_goto (tgt := 1452) C dL_law_526 (by decide) ?_
  exact ww_wid (by omega) (by omega) (kk tl_5 ct_6 pe kn ac np kc mN pV kV st sn sl scx tT_7 ec er ed eT eb en q_undos q_models PGv f_afterOf_12 f_actMany_13 f_actOf_14 f_whom_15 f_hasIf f_becomes f_goneOf q_taped_16 cr_17 q_people f_secrets f_lanes f_lengths f_cells f_tokens_18 f_afters_19 f_caseMany f_happen f_heard _ hS_10 ⟨(re_say hE_4 hE_11 hR (ST.tl hS)).1.1, (re_say hE_4 hE_11 hR (ST.tl hS)).1.2, hR.2.2.1, hR.2.2.2.1, hR.2.2.2.2.1, hR.2.2.2.2.2.1, hR.2.2.2.2.2.2.1, (re_say hE_4 hE_11 hR (ST.tl hS)).2.1, hR.2.2.2.2.2.2.2.2.1, hR.2.2.2.2.2.2.2.2.2.1, (re_say hE_4 hE_11 hR (ST.tl hS)).2.2.1, (re_say hE_4 hE_11 hR (ST.tl hS)).2.2.2.1, (re_say hE_4 hE_11 hR (ST.tl hS)).2.2.2.2, hR.2.2.2.2.2.2.2.2.2.2.2.2.2⟩)
theorem dL_law_529 : decode cL_law 529 = .ok (.aload_n 1, 1) := dl_43 (by decide +kernel)
theorem dL_law_533 : decode cL_law 533 = .ok (.pop, 1) := dl_87 (by decide +kernel)
theorem dL_law_534 : decode cL_law 534 = .ok (.aload_n 2, 1) := dl_44 (by decide +kernel)
theorem dL_law_538 : decode cL_law 538 = .ok (.pop, 1) := dl_87 (by decide +kernel)
theorem dL_law_539 : decode cL_law 539 = .ok (.goto 913, 3) := dl_167 (by decide +kernel)
set_option maxRecDepth 100000 in
set_option maxHeartbeats 4000000 in
theorem lawc_fault {X : XT} {E : EV} {xs : Nat → Int32} {ws : va_W} {bb L hx hm i1 kC nC : Nat} {tl : Nat} {ct : Nat → Int} {pe : Nat} {kn : Int32} {ac : Nat} {np : Nat} {kc : Nat} {mN : AM} {pV : Nat → AM} {kV : Nat → AM} {st : Nat → Nat} {sn : Nat → Nat} {sl : Nat → Nat} {scx : Nat → Nat → Int32} {tT : Nat → Option SVal} {ec : Nat → Nat} {er : Nat → Nat} {ed : Nat → Nat → Int32} {eT : Nat → Nat → Option SVal} {eb : Nat → Nat → Int32} {en : Nat → Nat → Int32} {q_undos : Nat} {q_models : Nat} {PGv : Nat → AM} {f_afterOf : Nat → Int32} {f_actMany : Nat → Int32} {f_actOf : Nat → Int32} {f_whom : Nat → Int32} {f_hasIf : Nat → Int32} {f_becomes : Nat → Int32} {f_goneOf : Nat → Int32} {q_taped : Nat} {cr : Nat → Int} {q_people : Nat} {f_secrets : Nat → Int32} {f_lanes : Nat → Int32} {f_lengths : Nat → Int32} {f_cells : Nat → Int32} {f_tokens : Nat → Int32} {f_afters : Nat → Int32} {f_caseMany : Nat → Int32} {f_happen : Nat → Int32} {f_heard : Nat → Int32} (C : CX X room_1 cL_law 4 RL ret E) (hs : SX X bb L xs) (hi : i1 + 6 ≤ L) (hL : L ≤ 3072) (hk : kC + 4 ≤ 600000 ∧ nC + 73 ≤ 7302250) (hS : ST E hx hm tl ct pe kn ac np kc mN pV kV st sn sl scx tT ec er ed eT eb en q_undos q_models PGv f_afterOf f_actMany f_actOf f_whom f_hasIf f_becomes f_goneOf q_taped cr q_people f_secrets f_lanes f_lengths f_cells f_tokens f_afters f_caseMany f_happen f_heard ws) (hR : RL_ tl ct pe kn ac np kc mN pV kV st sn sl scx tT ec er ed eT eb en q_undos q_models PGv f_afterOf f_actMany f_actOf f_whom f_hasIf f_becomes f_goneOf q_taped cr q_people f_secrets f_lanes f_lengths f_cells f_tokens f_afters f_caseMany f_happen f_heard) (kk : ∀ (tl : Nat) (ct : Nat → Int) (pe : Nat) (kn : Int32) (ac : Nat) (np : Nat) (kc : Nat) (mN : AM) (pV : Nat → AM) (kV : Nat → AM) (st : Nat → Nat) (sn : Nat → Nat) (sl : Nat → Nat) (scx : Nat → Nat → Int32) (tT : Nat → Option SVal) (ec : Nat → Nat) (er : Nat → Nat) (ed : Nat → Nat → Int32) (eT : Nat → Nat → Option SVal) (eb : Nat → Nat → Int32) (en : Nat → Nat → Int32) (q_undos : Nat) (q_models : Nat) (PGv : Nat → AM) (f_afterOf : Nat → Int32) (f_actMany : Nat → Int32) (f_actOf : Nat → Int32) (f_whom : Nat → Int32) (f_hasIf : Nat → Int32) (f_becomes : Nat → Int32) (f_goneOf : Nat → Int32) (q_taped : Nat) (cr : Nat → Int) (q_people : Nat) (f_secrets : Nat → Int32) (f_lanes : Nat → Int32) (f_lengths : Nat → Int32) (f_cells : Nat → Int32) (f_tokens : Nat → Int32) (f_afters : Nat → Int32) (f_caseMany : Nat → Int32) (f_happen : Nat → Int32) (f_heard : Nat → Int32) (wsZ : va_W), ST E hx hm tl ct pe kn ac np kc mN pV kV st sn sl scx tT ec er ed eT eb en q_undos q_models PGv f_afterOf f_actMany f_actOf f_whom f_hasIf f_becomes f_goneOf q_taped cr q_people f_secrets f_lanes f_lengths f_cells f_tokens f_afters f_caseMany f_happen f_heard wsZ → RL_ tl ct pe kn ac np kc mN pV kV st sn sl scx tT ec er ed eT eb en q_undos q_models PGv f_afterOf f_actMany f_actOf f_whom f_hasIf f_becomes f_goneOf q_taped cr q_people f_secrets f_lanes f_lengths f_cells f_tokens f_afters f_caseMany f_happen f_heard → WW X 4 E 1452 [(3, .int (nI i1)), (2, .ref hm), (1, .ref hx), (0, .ref bb)] [] wsZ (kC + 4) (nC + 73)) : WW X 4 E 529 [(3, .int (nI i1)), (2, .ref hm), (1, .ref hx), (0, .ref bb)] [] ws kC nC := by
  refine ww_aload_n C dL_law_529 2 rfl rfl ?_
  refine cx_fault C rfl ⟨by omega, by omega⟩ hS (fun r_1 ws_2 hS_3 hE_4 => ?_)
  replace hE_4 := hd_mk hE_4
  refine ww_pop C dL_law_533 rfl ?_
  refine ww_aload_n C dL_law_534 1 rfl rfl ?_
  refine my_fault C rfl ⟨by omega, by omega⟩ hS_3 (fun r_5 ws_6 hS_7 hE_8 => ?_)
  replace hE_8 := hd_mk hE_8
  refine ww_pop C dL_law_538 rfl ?_
  refine ww_goto (tgt := 1452) C dL_law_539 (by decide) ?_
  exact ww_wid (by omega) (by omega) (kk tl ct pe kn ac np kc mN pV kV st sn sl scx tT ec er ed eT eb en q_undos q_models PGv f_afterOf f_actMany f_actOf f_whom f_hasIf f_becomes f_goneOf q_taped cr q_people f_secrets f_lanes f_lengths f_cells f_tokens f_afters f_caseMany f_happen f_heard _ hS_7 hR)
theorem dL_law_542 : decode cL_law 542 = .ok (.aload_n 1, 1) := dl_43 (by decide +kernel)
theorem dL_law_543 : decode cL_law 543 = .ok (.aload_n 0, 1) := dl_42 (by decide +kernel)
theorem dL_law_544 : decode cL_law 544 = .ok (.iload_n 3, 1) := dl_29 (by decide +kernel)
theorem dL_law_545 : decode cL_law 545 = .ok (.iconst 1, 1) := dl_4 (by decide +kernel)
theorem dL_law_546 : decode cL_law 546 = .ok (.iadd, 1) := dl_96 (by decide +kernel)
theorem dL_law_547 : decode cL_law 547 = .ok (.iaload, 1) := dl_46 (by decide +kernel)
theorem dL_law_548 : decode cL_law 548 = .ok (.aload_n 0, 1) := dl_42 (by decide +kernel)
theorem dL_law_549 : decode cL_law 549 = .ok (.iload_n 3, 1) := dl_29 (by decide +kernel)
theorem dL_law_550 : decode cL_law 550 = .ok (.iconst 2, 1) := dl_5 (by decide +kernel)
theorem dL_law_551 : decode cL_law 551 = .ok (.iadd, 1) := dl_96 (by decide +kernel)
theorem dL_law_552 : decode cL_law 552 = .ok (.iaload, 1) := dl_46 (by decide +kernel)
theorem dL_law_556 : decode cL_law 556 = .ok (.pop, 1) := dl_87 (by decide +kernel)
theorem dL_law_557 : decode cL_law 557 = .ok (.aload_n 2, 1) := dl_44 (by decide +kernel)
theorem dL_law_558 : decode cL_law 558 = .ok (.aload_n 0, 1) := dl_42 (by decide +kernel)
theorem dL_law_559 : decode cL_law 559 = .ok (.iload_n 3, 1) := dl_29 (by decide +kernel)
theorem dL_law_560 : decode cL_law 560 = .ok (.iconst 1, 1) := dl_4 (by decide +kernel)
theorem dL_law_561 : decode cL_law 561 = .ok (.iadd, 1) := dl_96 (by decide +kernel)
theorem dL_law_562 : decode cL_law 562 = .ok (.iaload, 1) := dl_46 (by decide +kernel)
theorem dL_law_563 : decode cL_law 563 = .ok (.aload_n 0, 1) := dl_42 (by decide +kernel)
theorem dL_law_564 : decode cL_law 564 = .ok (.iload_n 3, 1) := dl_29 (by decide +kernel)
theorem dL_law_565 : decode cL_law 565 = .ok (.iconst 2, 1) := dl_5 (by decide +kernel)
theorem dL_law_566 : decode cL_law 566 = .ok (.iadd, 1) := dl_96 (by decide +kernel)
theorem dL_law_567 : decode cL_law 567 = .ok (.iaload, 1) := dl_46 (by decide +kernel)
theorem dL_law_571 : decode cL_law 571 = .ok (.pop, 1) := dl_87 (by decide +kernel)
theorem dL_law_572 : decode cL_law 572 = .ok (.goto 880, 3) := dl_167 (by decide +kernel)
set_option maxRecDepth 100000 in
set_option maxHeartbeats 4000000 in
theorem lawc_saying {X : XT} {E : EV} {xs : Nat → Int32} {ws : va_W} {bb L hx hm i1 kC nC : Nat} {tl : Nat} {ct : Nat → Int} {pe : Nat} {kn : Int32} {ac : Nat} {np : Nat} {kc : Nat} {mN : AM} {pV : Nat → AM} {kV : Nat → AM} {st : Nat → Nat} {sn : Nat → Nat} {sl : Nat → Nat} {scx : Nat → Nat → Int32} {tT : Nat → Option SVal} {ec : Nat → Nat} {er : Nat → Nat} {ed : Nat → Nat → Int32} {eT : Nat → Nat → Option SVal} {eb : Nat → Nat → Int32} {en : Nat → Nat → Int32} {q_undos : Nat} {q_models : Nat} {PGv : Nat → AM} {f_afterOf : Nat → Int32} {f_actMany : Nat → Int32} {f_actOf : Nat → Int32} {f_whom : Nat → Int32} {f_hasIf : Nat → Int32} {f_becomes : Nat → Int32} {f_goneOf : Nat → Int32} {q_taped : Nat} {cr : Nat → Int} {q_people : Nat} {f_secrets : Nat → Int32} {f_lanes : Nat → Int32} {f_lengths : Nat → Int32} {f_cells : Nat → Int32} {f_tokens : Nat → Int32} {f_afters : Nat → Int32} {f_caseMany : Nat → Int32} {f_happen : Nat → Int32} {f_heard : Nat → Int32} (C : CX X room_1 cL_law 4 RL ret E) (hs : SX X bb L xs) (hi : i1 + 6 ≤ L) (hL : L ≤ 3072) (hk : kC + 4 ≤ 600000 ∧ nC + 73 ≤ 7302250) (hS : ST E hx hm tl ct pe kn ac np kc mN pV kV st sn sl scx tT ec er ed eT eb en q_undos q_models PGv f_afterOf f_actMany f_actOf f_whom f_hasIf f_becomes f_goneOf q_taped cr q_people f_secrets f_lanes f_lengths f_cells f_tokens f_afters f_caseMany f_happen f_heard ws) (hR : RL_ tl ct pe kn ac np kc mN pV kV st sn sl scx tT ec er ed eT eb en q_undos q_models PGv f_afterOf f_actMany f_actOf f_whom f_hasIf f_becomes f_goneOf q_taped cr q_people f_secrets f_lanes f_lengths f_cells f_tokens f_afters f_caseMany f_happen f_heard) (kk : ∀ (tl : Nat) (ct : Nat → Int) (pe : Nat) (kn : Int32) (ac : Nat) (np : Nat) (kc : Nat) (mN : AM) (pV : Nat → AM) (kV : Nat → AM) (st : Nat → Nat) (sn : Nat → Nat) (sl : Nat → Nat) (scx : Nat → Nat → Int32) (tT : Nat → Option SVal) (ec : Nat → Nat) (er : Nat → Nat) (ed : Nat → Nat → Int32) (eT : Nat → Nat → Option SVal) (eb : Nat → Nat → Int32) (en : Nat → Nat → Int32) (q_undos : Nat) (q_models : Nat) (PGv : Nat → AM) (f_afterOf : Nat → Int32) (f_actMany : Nat → Int32) (f_actOf : Nat → Int32) (f_whom : Nat → Int32) (f_hasIf : Nat → Int32) (f_becomes : Nat → Int32) (f_goneOf : Nat → Int32) (q_taped : Nat) (cr : Nat → Int) (q_people : Nat) (f_secrets : Nat → Int32) (f_lanes : Nat → Int32) (f_lengths : Nat → Int32) (f_cells : Nat → Int32) (f_tokens : Nat → Int32) (f_afters : Nat → Int32) (f_caseMany : Nat → Int32) (f_happen : Nat → Int32) (f_heard : Nat → Int32) (wsZ : va_W), ST E hx hm tl ct pe kn ac np kc mN pV kV st sn sl scx tT ec er ed eT eb en q_undos q_models PGv f_afterOf f_actMany f_actOf f_whom f_hasIf f_becomes f_goneOf q_taped cr q_people f_secrets f_lanes f_lengths f_cells f_tokens f_afters f_caseMany f_happen f_heard wsZ → RL_ tl ct pe kn ac np kc mN pV kV st sn sl scx tT ec er ed eT eb en q_undos q_models PGv f_afterOf f_actMany f_actOf f_whom f_hasIf f_becomes f_goneOf q_taped cr q_people f_secrets f_lanes f_lengths f_cells f_tokens f_afters f_caseMany f_happen f_heard → WW X 4 E 1452 [(3, .int (nI i1)), (2, .ref hm), (1, .ref hx), (0, .ref bb)] [] wsZ (kC + 4) (nC + 73)) : WW X 4 E 542 [(3, .int (nI i1)), (2, .ref hm), (1, .ref hx), (0, .ref bb)] [] ws kC nC := by
  obtain ⟨a0, ea0⟩ : ∃ z : Int32, xs (i1 + 1) = z := ⟨_, rfl⟩
  obtain ⟨a1, ea1⟩ : ∃ z : Int32, xs (i1 + 2) = z := ⟨_, rfl⟩
  refine ww_aload_n C dL_law_542 2 rfl rfl ?_
  refine ww_aload_n C dL_law_543 3 rfl rfl ?_
  refine ww_iload_n C dL_law_544 0 rfl rfl ?_
  refine ww_iconst (v := 1) C dL_law_545 rfl ?_
  refine ww_iadd (v := (nI (i1 + 1))) C dL_law_546 (nI_add i1 1) ?_
  refine ww_sld (v := a0) C hs (vp_in_nI (by omega) (by omega)) (ldn (by omega) ea0) dL_law_547 ?_
  refine ww_aload_n C dL_law_548 3 rfl rfl ?_
  refine ww_iload_n C dL_law_549 0 rfl rfl ?_
  refine ww_iconst (v := 2) C dL_law_550 rfl ?_
  refine ww_iadd (v := (nI (i1 + 2))) C dL_law_551 (nI_add i1 2) ?_
  refine ww_sld (v := a1) C hs (vp_in_nI (by omega) (by omega)) (ldn (by omega) ea1) dL_law_552 ?_
  refine cx_saying C rfl ⟨by omega, by omega⟩ hS (fun r_1 ws_2 hS_3 hE_4 => ?_)
  replace hE_4 := hd_mk hE_4
  refine ww_pop C dL_law_556 rfl ?_
  refine ww_aload_n C dL_law_557 1 rfl rfl ?_
  refine ww_aload_n C dL_law_558 3 rfl rfl ?_
  refine ww_iload_n C dL_law_559 0 rfl rfl ?_
  refine ww_iconst (v := 1) C dL_law_560 rfl ?_
  refine ww_iadd (v := (nI (i1 + 1))) C dL_law_561 (nI_add i1 1) ?_
  refine ww_sld (v := a0) C hs (vp_in_nI (by omega) (by omega)) (ldn (by omega) ea0) dL_law_562 ?_
  refine ww_aload_n C dL_law_563 3 rfl rfl ?_
  refine ww_iload_n C dL_law_564 0 rfl rfl ?_
  refine ww_iconst (v := 2) C dL_law_565 rfl ?_
  refine ww_iadd (v := (nI (i1 + 2))) C dL_law_566 (nI_add i1 2) ?_
  refine ww_sld (v := a1) C hs (vp_in_nI (by omega) (by omega)) (ldn (by omega) ea1) dL_law_567 ?_
  refine my_saying C rfl ⟨by omega, by omega⟩ hS_3 (TVQ.wht hR.2.2.2.2.2.2.2.2.2.2.1) (fun r_5 ws_6 hS_7 hE_8 => ?_)
  replace hE_8 := hd_mk hE_8
  refine ww_pop C dL_law_571 rfl ?_
  refine ww_goto (tgt := 1452) C dL_law_572 (by decide) ?_
  exact ww_wid (by omega) (by omega) (kk tl ct pe kn ac np kc mN pV kV st sn sl scx tT ec er ed eT eb en q_undos q_models PGv f_afterOf f_actMany f_actOf f_whom f_hasIf f_becomes f_goneOf q_taped cr q_people f_secrets f_lanes f_lengths f_cells f_tokens f_afters f_caseMany f_happen f_heard _ hS_7 hR)
theorem dL_law_575 : decode cL_law 575 = .ok (.aload_n 1, 1) := dl_43 (by decide +kernel)
theorem dL_law_576 : decode cL_law 576 = .ok (.aload_n 0, 1) := dl_42 (by decide +kernel)
theorem dL_law_577 : decode cL_law 577 = .ok (.iload_n 3, 1) := dl_29 (by decide +kernel)
theorem dL_law_578 : decode cL_law 578 = .ok (.iconst 1, 1) := dl_4 (by decide +kernel)
theorem dL_law_579 : decode cL_law 579 = .ok (.iadd, 1) := dl_96 (by decide +kernel)
theorem dL_law_580 : decode cL_law 580 = .ok (.iaload, 1) := dl_46 (by decide +kernel)
theorem dL_law_584 : decode cL_law 584 = .ok (.pop, 1) := dl_87 (by decide +kernel)
theorem dL_law_585 : decode cL_law 585 = .ok (.aload_n 2, 1) := dl_44 (by decide +kernel)
theorem dL_law_586 : decode cL_law 586 = .ok (.aload_n 0, 1) := dl_42 (by decide +kernel)
theorem dL_law_587 : decode cL_law 587 = .ok (.iload_n 3, 1) := dl_29 (by decide +kernel)
theorem dL_law_588 : decode cL_law 588 = .ok (.iconst 1, 1) := dl_4 (by decide +kernel)
theorem dL_law_589 : decode cL_law 589 = .ok (.iadd, 1) := dl_96 (by decide +kernel)
theorem dL_law_590 : decode cL_law 590 = .ok (.iaload, 1) := dl_46 (by decide +kernel)
theorem dL_law_594 : decode cL_law 594 = .ok (.pop, 1) := dl_87 (by decide +kernel)
theorem dL_law_595 : decode cL_law 595 = .ok (.goto 857, 3) := dl_167 (by decide +kernel)
set_option maxRecDepth 100000 in
set_option maxHeartbeats 4000000 in
theorem lawc_truth {X : XT} {E : EV} {xs : Nat → Int32} {ws : va_W} {bb L hx hm i1 kC nC : Nat} {tl : Nat} {ct : Nat → Int} {pe : Nat} {kn : Int32} {ac : Nat} {np : Nat} {kc : Nat} {mN : AM} {pV : Nat → AM} {kV : Nat → AM} {st : Nat → Nat} {sn : Nat → Nat} {sl : Nat → Nat} {scx : Nat → Nat → Int32} {tT : Nat → Option SVal} {ec : Nat → Nat} {er : Nat → Nat} {ed : Nat → Nat → Int32} {eT : Nat → Nat → Option SVal} {eb : Nat → Nat → Int32} {en : Nat → Nat → Int32} {q_undos : Nat} {q_models : Nat} {PGv : Nat → AM} {f_afterOf : Nat → Int32} {f_actMany : Nat → Int32} {f_actOf : Nat → Int32} {f_whom : Nat → Int32} {f_hasIf : Nat → Int32} {f_becomes : Nat → Int32} {f_goneOf : Nat → Int32} {q_taped : Nat} {cr : Nat → Int} {q_people : Nat} {f_secrets : Nat → Int32} {f_lanes : Nat → Int32} {f_lengths : Nat → Int32} {f_cells : Nat → Int32} {f_tokens : Nat → Int32} {f_afters : Nat → Int32} {f_caseMany : Nat → Int32} {f_happen : Nat → Int32} {f_heard : Nat → Int32} (C : CX X room_1 cL_law 4 RL ret E) (hs : SX X bb L xs) (hi : i1 + 6 ≤ L) (hL : L ≤ 3072) (hk : kC + 4 ≤ 600000 ∧ nC + 73 ≤ 7302250) (hS : ST E hx hm tl ct pe kn ac np kc mN pV kV st sn sl scx tT ec er ed eT eb en q_undos q_models PGv f_afterOf f_actMany f_actOf f_whom f_hasIf f_becomes f_goneOf q_taped cr q_people f_secrets f_lanes f_lengths f_cells f_tokens f_afters f_caseMany f_happen f_heard ws) (hR : RL_ tl ct pe kn ac np kc mN pV kV st sn sl scx tT ec er ed eT eb en q_undos q_models PGv f_afterOf f_actMany f_actOf f_whom f_hasIf f_becomes f_goneOf q_taped cr q_people f_secrets f_lanes f_lengths f_cells f_tokens f_afters f_caseMany f_happen f_heard) (kk : ∀ (tl : Nat) (ct : Nat → Int) (pe : Nat) (kn : Int32) (ac : Nat) (np : Nat) (kc : Nat) (mN : AM) (pV : Nat → AM) (kV : Nat → AM) (st : Nat → Nat) (sn : Nat → Nat) (sl : Nat → Nat) (scx : Nat → Nat → Int32) (tT : Nat → Option SVal) (ec : Nat → Nat) (er : Nat → Nat) (ed : Nat → Nat → Int32) (eT : Nat → Nat → Option SVal) (eb : Nat → Nat → Int32) (en : Nat → Nat → Int32) (q_undos : Nat) (q_models : Nat) (PGv : Nat → AM) (f_afterOf : Nat → Int32) (f_actMany : Nat → Int32) (f_actOf : Nat → Int32) (f_whom : Nat → Int32) (f_hasIf : Nat → Int32) (f_becomes : Nat → Int32) (f_goneOf : Nat → Int32) (q_taped : Nat) (cr : Nat → Int) (q_people : Nat) (f_secrets : Nat → Int32) (f_lanes : Nat → Int32) (f_lengths : Nat → Int32) (f_cells : Nat → Int32) (f_tokens : Nat → Int32) (f_afters : Nat → Int32) (f_caseMany : Nat → Int32) (f_happen : Nat → Int32) (f_heard : Nat → Int32) (wsZ : va_W), ST E hx hm tl ct pe kn ac np kc mN pV kV st sn sl scx tT ec er ed eT eb en q_undos q_models PGv f_afterOf f_actMany f_actOf f_whom f_hasIf f_becomes f_goneOf q_taped cr q_people f_secrets f_lanes f_lengths f_cells f_tokens f_afters f_caseMany f_happen f_heard wsZ → RL_ tl ct pe kn ac np kc mN pV kV st sn sl scx tT ec er ed eT eb en q_undos q_models PGv f_afterOf f_actMany f_actOf f_whom f_hasIf f_becomes f_goneOf q_taped cr q_people f_secrets f_lanes f_lengths f_cells f_tokens f_afters f_caseMany f_happen f_heard → WW X 4 E 1452 [(3, .int (nI i1)), (2, .ref hm), (1, .ref hx), (0, .ref bb)] [] wsZ (kC + 4) (nC + 73)) : WW X 4 E 575 [(3, .int (nI i1)), (2, .ref hm), (1, .ref hx), (0, .ref bb)] [] ws kC nC := by
  obtain ⟨a0, ea0⟩ : ∃ z : Int32, xs (i1 + 1) = z := ⟨_, rfl⟩
  refine ww_aload_n C dL_law_575 2 rfl rfl ?_
  refine ww_aload_n C dL_law_576 3 rfl rfl ?_
  refine ww_iload_n C dL_law_577 0 rfl rfl ?_
  refine ww_iconst (v := 1) C dL_law_578 rfl ?_
  refine ww_iadd (v := (nI (i1 + 1))) C dL_law_579 (nI_add i1 1) ?_
  refine ww_sld (v := a0) C hs (vp_in_nI (by omega) (by omega)) (ldn (by omega) ea0) dL_law_580 ?_
  refine cx_truth C rfl ⟨by omega, by omega⟩ hS (fun r_1 ws_2 hS_3 hE_4 => ?_)
  replace hE_4 := hd_mk hE_4
  refine ww_pop C dL_law_584 rfl ?_
  refine ww_aload_n C dL_law_585 1 rfl rfl ?_
  refine ww_aload_n C dL_law_586 3 rfl rfl ?_
  refine ww_iload_n C dL_law_587 0 rfl rfl ?_
  refine ww_iconst (v := 1) C dL_law_588 rfl ?_
  refine ww_iadd (v := (nI (i1 + 1))) C dL_law_589 (nI_add i1 1) ?_
  refine ww_sld (v := a0) C hs (vp_in_nI (by omega) (by omega)) (ldn (by omega) ea0) dL_law_590 ?_
  refine my_truth C rfl ⟨by omega, by omega⟩ hS_3 (IVQ.whi hR.2.2.2.2.2.2.2.2.2.2.2.1) (TVQ.wht hR.2.2.2.2.2.2.2.2.2.2.1) (fun r_5 PGv_9 ws_6 hS_7 hE_8 => ?_)
  replace hE_8 := hd_mk hE_8
  refine ww_pop C dL_law_594 rfl ?_
  refine ww_goto (tgt := 1452) C dL_law_595 (by decide) ?_
  exact ww_wid (by omega) (by omega) (kk tl ct pe kn ac np kc mN pV kV st sn sl scx tT ec er ed eT eb en q_undos q_models PGv_9 f_afterOf f_actMany f_actOf f_whom f_hasIf f_becomes f_goneOf q_taped cr q_people f_secrets f_lanes f_lengths f_cells f_tokens f_afters f_caseMany f_happen f_heard _ hS_7 ⟨hR.1, hR.2.1, hR.2.2.1, hR.2.2.2.1, hR.2.2.2.2.1, hR.2.2.2.2.2.1, hR.2.2.2.2.2.2.1, hR.2.2.2.2.2.2.2.1, (re_truth hE_4 hE_8 hR (ST.tl hS)).1, (re_truth hE_4 hE_8 hR (ST.tl hS)).2, hR.2.2.2.2.2.2.2.2.2.2.1, hR.2.2.2.2.2.2.2.2.2.2.2.1, hR.2.2.2.2.2.2.2.2.2.2.2.2.1, hR.2.2.2.2.2.2.2.2.2.2.2.2.2⟩)
theorem dL_law_598 : decode cL_law 598 = .ok (.aload_n 1, 1) := dl_43 (by decide +kernel)
theorem dL_law_599 : decode cL_law 599 = .ok (.aload_n 0, 1) := dl_42 (by decide +kernel)
theorem dL_law_600 : decode cL_law 600 = .ok (.iload_n 3, 1) := dl_29 (by decide +kernel)
theorem dL_law_601 : decode cL_law 601 = .ok (.iconst 1, 1) := dl_4 (by decide +kernel)
theorem dL_law_602 : decode cL_law 602 = .ok (.iadd, 1) := dl_96 (by decide +kernel)
theorem dL_law_603 : decode cL_law 603 = .ok (.iaload, 1) := dl_46 (by decide +kernel)
theorem dL_law_607 : decode cL_law 607 = .ok (.aload_n 2, 1) := dl_44 (by decide +kernel)
theorem dL_law_608 : decode cL_law 608 = .ok (.aload_n 0, 1) := dl_42 (by decide +kernel)
theorem dL_law_609 : decode cL_law 609 = .ok (.iload_n 3, 1) := dl_29 (by decide +kernel)
theorem dL_law_610 : decode cL_law 610 = .ok (.iconst 1, 1) := dl_4 (by decide +kernel)
theorem dL_law_611 : decode cL_law 611 = .ok (.iadd, 1) := dl_96 (by decide +kernel)
theorem dL_law_612 : decode cL_law 612 = .ok (.iaload, 1) := dl_46 (by decide +kernel)
theorem dL_law_616 : decode cL_law 616 = .ok (.if_icmp .eq 836, 3) := dl_159 (by decide +kernel)
set_option maxRecDepth 100000 in
set_option maxHeartbeats 4000000 in
theorem lawc_holds {X : XT} {E : EV} {xs : Nat → Int32} {ws : va_W} {bb L hx hm i1 kC nC : Nat} {tl : Nat} {ct : Nat → Int} {pe : Nat} {kn : Int32} {ac : Nat} {np : Nat} {kc : Nat} {mN : AM} {pV : Nat → AM} {kV : Nat → AM} {st : Nat → Nat} {sn : Nat → Nat} {sl : Nat → Nat} {scx : Nat → Nat → Int32} {tT : Nat → Option SVal} {ec : Nat → Nat} {er : Nat → Nat} {ed : Nat → Nat → Int32} {eT : Nat → Nat → Option SVal} {eb : Nat → Nat → Int32} {en : Nat → Nat → Int32} {q_undos : Nat} {q_models : Nat} {PGv : Nat → AM} {f_afterOf : Nat → Int32} {f_actMany : Nat → Int32} {f_actOf : Nat → Int32} {f_whom : Nat → Int32} {f_hasIf : Nat → Int32} {f_becomes : Nat → Int32} {f_goneOf : Nat → Int32} {q_taped : Nat} {cr : Nat → Int} {q_people : Nat} {f_secrets : Nat → Int32} {f_lanes : Nat → Int32} {f_lengths : Nat → Int32} {f_cells : Nat → Int32} {f_tokens : Nat → Int32} {f_afters : Nat → Int32} {f_caseMany : Nat → Int32} {f_happen : Nat → Int32} {f_heard : Nat → Int32} (C : CX X room_1 cL_law 4 RL ret E) (hs : SX X bb L xs) (hi : i1 + 6 ≤ L) (hL : L ≤ 3072) (hk : kC + 4 ≤ 600000 ∧ nC + 73 ≤ 7302250) (hS : ST E hx hm tl ct pe kn ac np kc mN pV kV st sn sl scx tT ec er ed eT eb en q_undos q_models PGv f_afterOf f_actMany f_actOf f_whom f_hasIf f_becomes f_goneOf q_taped cr q_people f_secrets f_lanes f_lengths f_cells f_tokens f_afters f_caseMany f_happen f_heard ws) (hR : RL_ tl ct pe kn ac np kc mN pV kV st sn sl scx tT ec er ed eT eb en q_undos q_models PGv f_afterOf f_actMany f_actOf f_whom f_hasIf f_becomes f_goneOf q_taped cr q_people f_secrets f_lanes f_lengths f_cells f_tokens f_afters f_caseMany f_happen f_heard) (kk : ∀ (tl : Nat) (ct : Nat → Int) (pe : Nat) (kn : Int32) (ac : Nat) (np : Nat) (kc : Nat) (mN : AM) (pV : Nat → AM) (kV : Nat → AM) (st : Nat → Nat) (sn : Nat → Nat) (sl : Nat → Nat) (scx : Nat → Nat → Int32) (tT : Nat → Option SVal) (ec : Nat → Nat) (er : Nat → Nat) (ed : Nat → Nat → Int32) (eT : Nat → Nat → Option SVal) (eb : Nat → Nat → Int32) (en : Nat → Nat → Int32) (q_undos : Nat) (q_models : Nat) (PGv : Nat → AM) (f_afterOf : Nat → Int32) (f_actMany : Nat → Int32) (f_actOf : Nat → Int32) (f_whom : Nat → Int32) (f_hasIf : Nat → Int32) (f_becomes : Nat → Int32) (f_goneOf : Nat → Int32) (q_taped : Nat) (cr : Nat → Int) (q_people : Nat) (f_secrets : Nat → Int32) (f_lanes : Nat → Int32) (f_lengths : Nat → Int32) (f_cells : Nat → Int32) (f_tokens : Nat → Int32) (f_afters : Nat → Int32) (f_caseMany : Nat → Int32) (f_happen : Nat → Int32) (f_heard : Nat → Int32) (wsZ : va_W), ST E hx hm tl ct pe kn ac np kc mN pV kV st sn sl scx tT ec er ed eT eb en q_undos q_models PGv f_afterOf f_actMany f_actOf f_whom f_hasIf f_becomes f_goneOf q_taped cr q_people f_secrets f_lanes f_lengths f_cells f_tokens f_afters f_caseMany f_happen f_heard wsZ → RL_ tl ct pe kn ac np kc mN pV kV st sn sl scx tT ec er ed eT eb en q_undos q_models PGv f_afterOf f_actMany f_actOf f_whom f_hasIf f_becomes f_goneOf q_taped cr q_people f_secrets f_lanes f_lengths f_cells f_tokens f_afters f_caseMany f_happen f_heard → WW X 4 E 1452 [(3, .int (nI i1)), (2, .ref hm), (1, .ref hx), (0, .ref bb)] [] wsZ (kC + 4) (nC + 73)) : WW X 4 E 598 [(3, .int (nI i1)), (2, .ref hm), (1, .ref hx), (0, .ref bb)] [] ws kC nC := by
  obtain ⟨a0, ea0⟩ : ∃ z : Int32, xs (i1 + 1) = z := ⟨_, rfl⟩
  refine ww_aload_n C dL_law_598 2 rfl rfl ?_
  refine ww_aload_n C dL_law_599 3 rfl rfl ?_
  refine ww_iload_n C dL_law_600 0 rfl rfl ?_
  refine ww_iconst (v := 1) C dL_law_601 rfl ?_
  refine ww_iadd (v := (nI (i1 + 1))) C dL_law_602 (nI_add i1 1) ?_
  refine ww_sld (v := a0) C hs (vp_in_nI (by omega) (by omega)) (ldn (by omega) ea0) dL_law_603 ?_
  refine cx_holds C rfl ⟨by omega, by omega⟩ hS (fun r_1 ws_2 hS_3 hE_4 => ?_)
  replace hE_4 := hd_mk hE_4
  refine ww_aload_n C dL_law_607 1 rfl rfl ?_
  refine ww_aload_n C dL_law_608 3 rfl rfl ?_
  refine ww_iload_n C dL_law_609 0 rfl rfl ?_
  refine ww_iconst (v := 1) C dL_law_610 rfl ?_
  refine ww_iadd (v := (nI (i1 + 1))) C dL_law_611 (nI_add i1 1) ?_
  refine ww_sld (v := a0) C hs (vp_in_nI (by omega) (by omega)) (ldn (by omega) ea0) dL_law_612 ?_
  refine my_holds C rfl ⟨by omega, by omega⟩ hS_3 (IVQ.whi hR.2.2.2.2.2.2.2.2.2.2.2.1) (TVQ.wht hR.2.2.2.2.2.2.2.2.2.2.1) (fun r_5 PGv_9 ws_6 hS_7 hE_8 => ?_)
  replace hE_8 := hd_mk hE_8
  have heq : r_1 = r_5 := eq_holds hE_4 hE_8 hR (ST.tl hS)
  refine ww_icmp_eq_t (tgt := 1452) C dL_law_616 (by decide) heq ?_
  exact ww_wid (by omega) (by omega) (kk tl ct pe kn ac np kc mN pV kV st sn sl scx tT ec er ed eT eb en q_undos q_models PGv_9 f_afterOf f_actMany f_actOf f_whom f_hasIf f_becomes f_goneOf q_taped cr q_people f_secrets f_lanes f_lengths f_cells f_tokens f_afters f_caseMany f_happen f_heard _ hS_7 ⟨hR.1, hR.2.1, hR.2.2.1, hR.2.2.2.1, hR.2.2.2.2.1, hR.2.2.2.2.2.1, hR.2.2.2.2.2.2.1, hR.2.2.2.2.2.2.2.1, (re_holds hE_4 hE_8 hR (ST.tl hS)).1, (re_holds hE_4 hE_8 hR (ST.tl hS)).2, hR.2.2.2.2.2.2.2.2.2.2.1, hR.2.2.2.2.2.2.2.2.2.2.2.1, hR.2.2.2.2.2.2.2.2.2.2.2.2.1, hR.2.2.2.2.2.2.2.2.2.2.2.2.2⟩)
theorem dL_law_621 : decode cL_law 621 = .ok (.aload_n 1, 1) := dl_43 (by decide +kernel)
theorem dL_law_622 : decode cL_law 622 = .ok (.aload_n 0, 1) := dl_42 (by decide +kernel)
theorem dL_law_623 : decode cL_law 623 = .ok (.iload_n 3, 1) := dl_29 (by decide +kernel)
theorem dL_law_624 : decode cL_law 624 = .ok (.iconst 1, 1) := dl_4 (by decide +kernel)
theorem dL_law_625 : decode cL_law 625 = .ok (.iadd, 1) := dl_96 (by decide +kernel)
theorem dL_law_626 : decode cL_law 626 = .ok (.iaload, 1) := dl_46 (by decide +kernel)
theorem dL_law_627 : decode cL_law 627 = .ok (.aload_n 0, 1) := dl_42 (by decide +kernel)
theorem dL_law_628 : decode cL_law 628 = .ok (.iload_n 3, 1) := dl_29 (by decide +kernel)
theorem dL_law_629 : decode cL_law 629 = .ok (.iconst 2, 1) := dl_5 (by decide +kernel)
theorem dL_law_630 : decode cL_law 630 = .ok (.iadd, 1) := dl_96 (by decide +kernel)
theorem dL_law_631 : decode cL_law 631 = .ok (.iaload, 1) := dl_46 (by decide +kernel)
theorem dL_law_635 : decode cL_law 635 = .ok (.pop, 1) := dl_87 (by decide +kernel)
theorem dL_law_636 : decode cL_law 636 = .ok (.aload_n 2, 1) := dl_44 (by decide +kernel)
theorem dL_law_637 : decode cL_law 637 = .ok (.aload_n 0, 1) := dl_42 (by decide +kernel)
theorem dL_law_638 : decode cL_law 638 = .ok (.iload_n 3, 1) := dl_29 (by decide +kernel)
theorem dL_law_639 : decode cL_law 639 = .ok (.iconst 1, 1) := dl_4 (by decide +kernel)
theorem dL_law_640 : decode cL_law 640 = .ok (.iadd, 1) := dl_96 (by decide +kernel)
theorem dL_law_641 : decode cL_law 641 = .ok (.iaload, 1) := dl_46 (by decide +kernel)
theorem dL_law_642 : decode cL_law 642 = .ok (.aload_n 0, 1) := dl_42 (by decide +kernel)
theorem dL_law_643 : decode cL_law 643 = .ok (.iload_n 3, 1) := dl_29 (by decide +kernel)
theorem dL_law_644 : decode cL_law 644 = .ok (.iconst 2, 1) := dl_5 (by decide +kernel)
theorem dL_law_645 : decode cL_law 645 = .ok (.iadd, 1) := dl_96 (by decide +kernel)
theorem dL_law_646 : decode cL_law 646 = .ok (.iaload, 1) := dl_46 (by decide +kernel)
theorem dL_law_650 : decode cL_law 650 = .ok (.pop, 1) := dl_87 (by decide +kernel)
theorem dL_law_651 : decode cL_law 651 = .ok (.goto 801, 3) := dl_167 (by decide +kernel)
set_option maxRecDepth 100000 in
set_option maxHeartbeats 4000000 in
theorem lawc_event {X : XT} {E : EV} {xs : Nat → Int32} {ws : va_W} {bb L hx hm i1 kC nC : Nat} {tl : Nat} {ct : Nat → Int} {pe : Nat} {kn : Int32} {ac : Nat} {np : Nat} {kc : Nat} {mN : AM} {pV : Nat → AM} {kV : Nat → AM} {st : Nat → Nat} {sn : Nat → Nat} {sl : Nat → Nat} {scx : Nat → Nat → Int32} {tT : Nat → Option SVal} {ec : Nat → Nat} {er : Nat → Nat} {ed : Nat → Nat → Int32} {eT : Nat → Nat → Option SVal} {eb : Nat → Nat → Int32} {en : Nat → Nat → Int32} {q_undos : Nat} {q_models : Nat} {PGv : Nat → AM} {f_afterOf : Nat → Int32} {f_actMany : Nat → Int32} {f_actOf : Nat → Int32} {f_whom : Nat → Int32} {f_hasIf : Nat → Int32} {f_becomes : Nat → Int32} {f_goneOf : Nat → Int32} {q_taped : Nat} {cr : Nat → Int} {q_people : Nat} {f_secrets : Nat → Int32} {f_lanes : Nat → Int32} {f_lengths : Nat → Int32} {f_cells : Nat → Int32} {f_tokens : Nat → Int32} {f_afters : Nat → Int32} {f_caseMany : Nat → Int32} {f_happen : Nat → Int32} {f_heard : Nat → Int32} (C : CX X room_1 cL_law 4 RL ret E) (hs : SX X bb L xs) (hi : i1 + 6 ≤ L) (hL : L ≤ 3072) (hk : kC + 4 ≤ 600000 ∧ nC + 73 ≤ 7302250) (hS : ST E hx hm tl ct pe kn ac np kc mN pV kV st sn sl scx tT ec er ed eT eb en q_undos q_models PGv f_afterOf f_actMany f_actOf f_whom f_hasIf f_becomes f_goneOf q_taped cr q_people f_secrets f_lanes f_lengths f_cells f_tokens f_afters f_caseMany f_happen f_heard ws) (hR : RL_ tl ct pe kn ac np kc mN pV kV st sn sl scx tT ec er ed eT eb en q_undos q_models PGv f_afterOf f_actMany f_actOf f_whom f_hasIf f_becomes f_goneOf q_taped cr q_people f_secrets f_lanes f_lengths f_cells f_tokens f_afters f_caseMany f_happen f_heard) (kk : ∀ (tl : Nat) (ct : Nat → Int) (pe : Nat) (kn : Int32) (ac : Nat) (np : Nat) (kc : Nat) (mN : AM) (pV : Nat → AM) (kV : Nat → AM) (st : Nat → Nat) (sn : Nat → Nat) (sl : Nat → Nat) (scx : Nat → Nat → Int32) (tT : Nat → Option SVal) (ec : Nat → Nat) (er : Nat → Nat) (ed : Nat → Nat → Int32) (eT : Nat → Nat → Option SVal) (eb : Nat → Nat → Int32) (en : Nat → Nat → Int32) (q_undos : Nat) (q_models : Nat) (PGv : Nat → AM) (f_afterOf : Nat → Int32) (f_actMany : Nat → Int32) (f_actOf : Nat → Int32) (f_whom : Nat → Int32) (f_hasIf : Nat → Int32) (f_becomes : Nat → Int32) (f_goneOf : Nat → Int32) (q_taped : Nat) (cr : Nat → Int) (q_people : Nat) (f_secrets : Nat → Int32) (f_lanes : Nat → Int32) (f_lengths : Nat → Int32) (f_cells : Nat → Int32) (f_tokens : Nat → Int32) (f_afters : Nat → Int32) (f_caseMany : Nat → Int32) (f_happen : Nat → Int32) (f_heard : Nat → Int32) (wsZ : va_W), ST E hx hm tl ct pe kn ac np kc mN pV kV st sn sl scx tT ec er ed eT eb en q_undos q_models PGv f_afterOf f_actMany f_actOf f_whom f_hasIf f_becomes f_goneOf q_taped cr q_people f_secrets f_lanes f_lengths f_cells f_tokens f_afters f_caseMany f_happen f_heard wsZ → RL_ tl ct pe kn ac np kc mN pV kV st sn sl scx tT ec er ed eT eb en q_undos q_models PGv f_afterOf f_actMany f_actOf f_whom f_hasIf f_becomes f_goneOf q_taped cr q_people f_secrets f_lanes f_lengths f_cells f_tokens f_afters f_caseMany f_happen f_heard → WW X 4 E 1452 [(3, .int (nI i1)), (2, .ref hm), (1, .ref hx), (0, .ref bb)] [] wsZ (kC + 4) (nC + 73)) : WW X 4 E 621 [(3, .int (nI i1)), (2, .ref hm), (1, .ref hx), (0, .ref bb)] [] ws kC nC := by
  obtain ⟨a0, ea0⟩ : ∃ z : Int32, xs (i1 + 1) = z := ⟨_, rfl⟩
  obtain ⟨a1, ea1⟩ : ∃ z : Int32, xs (i1 + 2) = z := ⟨_, rfl⟩
  refine ww_aload_n C dL_law_621 2 rfl rfl ?_
  refine ww_aload_n C dL_law_622 3 rfl rfl ?_
  refine ww_iload_n C dL_law_623 0 rfl rfl ?_
  refine ww_iconst (v := 1) C dL_law_624 rfl ?_
  refine ww_iadd (v := (nI (i1 + 1))) C dL_law_625 (nI_add i1 1) ?_
  refine ww_sld (v := a0) C hs (vp_in_nI (by omega) (by omega)) (ldn (by omega) ea0) dL_law_626 ?_
  refine ww_aload_n C dL_law_627 3 rfl rfl ?_
  refine ww_iload_n C dL_law_628 0 rfl rfl ?_
  refine ww_iconst (v := 2) C dL_law_629 rfl ?_
  refine ww_iadd (v := (nI (i1 + 2))) C dL_law_630 (nI_add i1 2) ?_
  refine ww_sld (v := a1) C hs (vp_in_nI (by omega) (by omega)) (ldn (by omega) ea1) dL_law_631 ?_
  refine cx_event C rfl ⟨by omega, by omega⟩ hS (fun r_1 ec_5 er_6 ed_7 eT_8 eb_9 en_10 ws_2 hS_3 hE_4 => ?_)
  replace hE_4 := hd_mk hE_4
  refine ww_pop C dL_law_635 rfl ?_
  refine ww_aload_n C dL_law_636 1 rfl rfl ?_
  refine ww_aload_n C dL_law_637 3 rfl rfl ?_
  refine ww_iload_n C dL_law_638 0 rfl rfl ?_
  refine ww_iconst (v := 1) C dL_law_639 rfl ?_
  refine ww_iadd (v := (nI (i1 + 1))) C dL_law_640 (nI_add i1 1) ?_
  refine ww_sld (v := a0) C hs (vp_in_nI (by omega) (by omega)) (ldn (by omega) ea0) dL_law_641 ?_
  refine ww_aload_n C dL_law_642 3 rfl rfl ?_
  refine ww_iload_n C dL_law_643 0 rfl rfl ?_
  refine ww_iconst (v := 2) C dL_law_644 rfl ?_
  refine ww_iadd (v := (nI (i1 + 2))) C dL_law_645 (nI_add i1 2) ?_
  refine ww_sld (v := a1) C hs (vp_in_nI (by omega) (by omega)) (ldn (by omega) ea1) dL_law_646 ?_
  refine my_event C rfl ⟨by omega, by omega⟩ hS_3 (fun r_11 f_hasIf_15 f_becomes_16 f_goneOf_17 f_caseMany_18 f_happen_19 f_heard_20 ws_12 hS_13 hE_14 => ?_)
  replace hE_14 := hd_mk hE_14
  refine ww_pop C dL_law_650 rfl ?_
  refine ww_goto (tgt := 1452) C dL_law_651 (by decide) ?_
  exact ww_wid (by omega) (by omega) (kk tl ct pe kn ac np kc mN pV kV st sn sl scx tT ec_5 er_6 ed_7 eT_8 eb_9 en_10 q_undos q_models PGv f_afterOf f_actMany f_actOf f_whom f_hasIf_15 f_becomes_16 f_goneOf_17 q_taped cr q_people f_secrets f_lanes f_lengths f_cells f_tokens f_afters f_caseMany_18 f_happen_19 f_heard_20 _ hS_13 ⟨hR.1, hR.2.1, hR.2.2.1, hR.2.2.2.1, hR.2.2.2.2.1, hR.2.2.2.2.2.1, (re_event hE_4 hE_14 hR (ST.tl hS)).1, hR.2.2.2.2.2.2.2.1, hR.2.2.2.2.2.2.2.2.1, hR.2.2.2.2.2.2.2.2.2.1, hR.2.2.2.2.2.2.2.2.2.2.1, (re_event hE_4 hE_14 hR (ST.tl hS)).2, hR.2.2.2.2.2.2.2.2.2.2.2.2.1, hR.2.2.2.2.2.2.2.2.2.2.2.2.2⟩)
theorem dL_law_654 : decode cL_law 654 = .ok (.aload_n 1, 1) := dl_43 (by decide +kernel)
theorem dL_law_655 : decode cL_law 655 = .ok (.aload_n 0, 1) := dl_42 (by decide +kernel)
theorem dL_law_656 : decode cL_law 656 = .ok (.iload_n 3, 1) := dl_29 (by decide +kernel)
theorem dL_law_657 : decode cL_law 657 = .ok (.iconst 1, 1) := dl_4 (by decide +kernel)
theorem dL_law_658 : decode cL_law 658 = .ok (.iadd, 1) := dl_96 (by decide +kernel)
theorem dL_law_659 : decode cL_law 659 = .ok (.iaload, 1) := dl_46 (by decide +kernel)
theorem dL_law_660 : decode cL_law 660 = .ok (.aload_n 0, 1) := dl_42 (by decide +kernel)
theorem dL_law_661 : decode cL_law 661 = .ok (.iload_n 3, 1) := dl_29 (by decide +kernel)
theorem dL_law_662 : decode cL_law 662 = .ok (.iconst 2, 1) := dl_5 (by decide +kernel)
theorem dL_law_663 : decode cL_law 663 = .ok (.iadd, 1) := dl_96 (by decide +kernel)
theorem dL_law_664 : decode cL_law 664 = .ok (.iaload, 1) := dl_46 (by decide +kernel)
theorem dL_law_665 : decode cL_law 665 = .ok (.aload_n 0, 1) := dl_42 (by decide +kernel)
theorem dL_law_666 : decode cL_law 666 = .ok (.iload_n 3, 1) := dl_29 (by decide +kernel)
theorem dL_law_667 : decode cL_law 667 = .ok (.iconst 3, 1) := dl_6 (by decide +kernel)
theorem dL_law_668 : decode cL_law 668 = .ok (.iadd, 1) := dl_96 (by decide +kernel)
theorem dL_law_669 : decode cL_law 669 = .ok (.iaload, 1) := dl_46 (by decide +kernel)
theorem dL_law_670 : decode cL_law 670 = .ok (.aload_n 0, 1) := dl_42 (by decide +kernel)
theorem dL_law_671 : decode cL_law 671 = .ok (.iload_n 3, 1) := dl_29 (by decide +kernel)
theorem dL_law_672 : decode cL_law 672 = .ok (.iconst 4, 1) := dl_7 (by decide +kernel)
theorem dL_law_673 : decode cL_law 673 = .ok (.iadd, 1) := dl_96 (by decide +kernel)
theorem dL_law_674 : decode cL_law 674 = .ok (.iaload, 1) := dl_46 (by decide +kernel)
theorem dL_law_675 : decode cL_law 675 = .ok (.aload_n 0, 1) := dl_42 (by decide +kernel)
theorem dL_law_676 : decode cL_law 676 = .ok (.iload_n 3, 1) := dl_29 (by decide +kernel)
theorem dL_law_677 : decode cL_law 677 = .ok (.iconst 5, 1) := dl_8 (by decide +kernel)
theorem dL_law_678 : decode cL_law 678 = .ok (.iadd, 1) := dl_96 (by decide +kernel)
theorem dL_law_679 : decode cL_law 679 = .ok (.iaload, 1) := dl_46 (by decide +kernel)
theorem dL_law_683 : decode cL_law 683 = .ok (.pop, 1) := dl_87 (by decide +kernel)
theorem dL_law_684 : decode cL_law 684 = .ok (.aload_n 2, 1) := dl_44 (by decide +kernel)
theorem dL_law_685 : decode cL_law 685 = .ok (.aload_n 0, 1) := dl_42 (by decide +kernel)
theorem dL_law_686 : decode cL_law 686 = .ok (.iload_n 3, 1) := dl_29 (by decide +kernel)
theorem dL_law_687 : decode cL_law 687 = .ok (.iconst 1, 1) := dl_4 (by decide +kernel)
theorem dL_law_688 : decode cL_law 688 = .ok (.iadd, 1) := dl_96 (by decide +kernel)
theorem dL_law_689 : decode cL_law 689 = .ok (.iaload, 1) := dl_46 (by decide +kernel)
theorem dL_law_690 : decode cL_law 690 = .ok (.aload_n 0, 1) := dl_42 (by decide +kernel)
theorem dL_law_691 : decode cL_law 691 = .ok (.iload_n 3, 1) := dl_29 (by decide +kernel)
theorem dL_law_692 : decode cL_law 692 = .ok (.iconst 2, 1) := dl_5 (by decide +kernel)
theorem dL_law_693 : decode cL_law 693 = .ok (.iadd, 1) := dl_96 (by decide +kernel)
theorem dL_law_694 : decode cL_law 694 = .ok (.iaload, 1) := dl_46 (by decide +kernel)
theorem dL_law_695 : decode cL_law 695 = .ok (.aload_n 0, 1) := dl_42 (by decide +kernel)
theorem dL_law_696 : decode cL_law 696 = .ok (.iload_n 3, 1) := dl_29 (by decide +kernel)
theorem dL_law_697 : decode cL_law 697 = .ok (.iconst 3, 1) := dl_6 (by decide +kernel)
theorem dL_law_698 : decode cL_law 698 = .ok (.iadd, 1) := dl_96 (by decide +kernel)
theorem dL_law_699 : decode cL_law 699 = .ok (.iaload, 1) := dl_46 (by decide +kernel)
theorem dL_law_700 : decode cL_law 700 = .ok (.aload_n 0, 1) := dl_42 (by decide +kernel)
theorem dL_law_701 : decode cL_law 701 = .ok (.iload_n 3, 1) := dl_29 (by decide +kernel)
theorem dL_law_702 : decode cL_law 702 = .ok (.iconst 4, 1) := dl_7 (by decide +kernel)
theorem dL_law_703 : decode cL_law 703 = .ok (.iadd, 1) := dl_96 (by decide +kernel)
theorem dL_law_704 : decode cL_law 704 = .ok (.iaload, 1) := dl_46 (by decide +kernel)
theorem dL_law_705 : decode cL_law 705 = .ok (.aload_n 0, 1) := dl_42 (by decide +kernel)
theorem dL_law_706 : decode cL_law 706 = .ok (.iload_n 3, 1) := dl_29 (by decide +kernel)
theorem dL_law_707 : decode cL_law 707 = .ok (.iconst 5, 1) := dl_8 (by decide +kernel)
theorem dL_law_708 : decode cL_law 708 = .ok (.iadd, 1) := dl_96 (by decide +kernel)
theorem dL_law_709 : decode cL_law 709 = .ok (.iaload, 1) := dl_46 (by decide +kernel)
theorem dL_law_713 : decode cL_law 713 = .ok (.pop, 1) := dl_87 (by decide +kernel)
theorem dL_law_714 : decode cL_law 714 = .ok (.goto 738, 3) := dl_167 (by decide +kernel)
set_option maxRecDepth 100000 in
set_option maxHeartbeats 4000000 in
theorem lawc_when {X : XT} {E : EV} {xs : Nat → Int32} {ws : va_W} {bb L hx hm i1 kC nC : Nat} {tl : Nat} {ct : Nat → Int} {pe : Nat} {kn : Int32} {ac : Nat} {np : Nat} {kc : Nat} {mN : AM} {pV : Nat → AM} {kV : Nat → AM} {st : Nat → Nat} {sn : Nat → Nat} {sl : Nat → Nat} {scx : Nat → Nat → Int32} {tT : Nat → Option SVal} {ec : Nat → Nat} {er : Nat → Nat} {ed : Nat → Nat → Int32} {eT : Nat → Nat → Option SVal} {eb : Nat → Nat → Int32} {en : Nat → Nat → Int32} {q_undos : Nat} {q_models : Nat} {PGv : Nat → AM} {f_afterOf : Nat → Int32} {f_actMany : Nat → Int32} {f_actOf : Nat → Int32} {f_whom : Nat → Int32} {f_hasIf : Nat → Int32} {f_becomes : Nat → Int32} {f_goneOf : Nat → Int32} {q_taped : Nat} {cr : Nat → Int} {q_people : Nat} {f_secrets : Nat → Int32} {f_lanes : Nat → Int32} {f_lengths : Nat → Int32} {f_cells : Nat → Int32} {f_tokens : Nat → Int32} {f_afters : Nat → Int32} {f_caseMany : Nat → Int32} {f_happen : Nat → Int32} {f_heard : Nat → Int32} (C : CX X room_1 cL_law 4 RL ret E) (hs : SX X bb L xs) (hi : i1 + 6 ≤ L) (hL : L ≤ 3072) (hk : kC + 4 ≤ 600000 ∧ nC + 73 ≤ 7302250) (hS : ST E hx hm tl ct pe kn ac np kc mN pV kV st sn sl scx tT ec er ed eT eb en q_undos q_models PGv f_afterOf f_actMany f_actOf f_whom f_hasIf f_becomes f_goneOf q_taped cr q_people f_secrets f_lanes f_lengths f_cells f_tokens f_afters f_caseMany f_happen f_heard ws) (hR : RL_ tl ct pe kn ac np kc mN pV kV st sn sl scx tT ec er ed eT eb en q_undos q_models PGv f_afterOf f_actMany f_actOf f_whom f_hasIf f_becomes f_goneOf q_taped cr q_people f_secrets f_lanes f_lengths f_cells f_tokens f_afters f_caseMany f_happen f_heard) (kk : ∀ (tl : Nat) (ct : Nat → Int) (pe : Nat) (kn : Int32) (ac : Nat) (np : Nat) (kc : Nat) (mN : AM) (pV : Nat → AM) (kV : Nat → AM) (st : Nat → Nat) (sn : Nat → Nat) (sl : Nat → Nat) (scx : Nat → Nat → Int32) (tT : Nat → Option SVal) (ec : Nat → Nat) (er : Nat → Nat) (ed : Nat → Nat → Int32) (eT : Nat → Nat → Option SVal) (eb : Nat → Nat → Int32) (en : Nat → Nat → Int32) (q_undos : Nat) (q_models : Nat) (PGv : Nat → AM) (f_afterOf : Nat → Int32) (f_actMany : Nat → Int32) (f_actOf : Nat → Int32) (f_whom : Nat → Int32) (f_hasIf : Nat → Int32) (f_becomes : Nat → Int32) (f_goneOf : Nat → Int32) (q_taped : Nat) (cr : Nat → Int) (q_people : Nat) (f_secrets : Nat → Int32) (f_lanes : Nat → Int32) (f_lengths : Nat → Int32) (f_cells : Nat → Int32) (f_tokens : Nat → Int32) (f_afters : Nat → Int32) (f_caseMany : Nat → Int32) (f_happen : Nat → Int32) (f_heard : Nat → Int32) (wsZ : va_W), ST E hx hm tl ct pe kn ac np kc mN pV kV st sn sl scx tT ec er ed eT eb en q_undos q_models PGv f_afterOf f_actMany f_actOf f_whom f_hasIf f_becomes f_goneOf q_taped cr q_people f_secrets f_lanes f_lengths f_cells f_tokens f_afters f_caseMany f_happen f_heard wsZ → RL_ tl ct pe kn ac np kc mN pV kV st sn sl scx tT ec er ed eT eb en q_undos q_models PGv f_afterOf f_actMany f_actOf f_whom f_hasIf f_becomes f_goneOf q_taped cr q_people f_secrets f_lanes f_lengths f_cells f_tokens f_afters f_caseMany f_happen f_heard → WW X 4 E 1452 [(3, .int (nI i1)), (2, .ref hm), (1, .ref hx), (0, .ref bb)] [] wsZ (kC + 4) (nC + 73)) : WW X 4 E 654 [(3, .int (nI i1)), (2, .ref hm), (1, .ref hx), (0, .ref bb)] [] ws kC nC := by
  obtain ⟨a0, ea0⟩ : ∃ z : Int32, xs (i1 + 1) = z := ⟨_, rfl⟩
  obtain ⟨a1, ea1⟩ : ∃ z : Int32, xs (i1 + 2) = z := ⟨_, rfl⟩
  obtain ⟨a2, ea2⟩ : ∃ z : Int32, xs (i1 + 3) = z := ⟨_, rfl⟩
  obtain ⟨a3, ea3⟩ : ∃ z : Int32, xs (i1 + 4) = z := ⟨_, rfl⟩
  obtain ⟨a4, ea4⟩ : ∃ z : Int32, xs (i1 + 5) = z := ⟨_, rfl⟩
  refine ww_aload_n C dL_law_654 2 rfl rfl ?_
  refine ww_aload_n C dL_law_655 3 rfl rfl ?_
  refine ww_iload_n C dL_law_656 0 rfl rfl ?_
  refine ww_iconst (v := 1) C dL_law_657 rfl ?_
  refine ww_iadd (v := (nI (i1 + 1))) C dL_law_658 (nI_add i1 1) ?_
  refine ww_sld (v := a0) C hs (vp_in_nI (by omega) (by omega)) (ldn (by omega) ea0) dL_law_659 ?_
  refine ww_aload_n C dL_law_660 3 rfl rfl ?_
  refine ww_iload_n C dL_law_661 0 rfl rfl ?_
  refine ww_iconst (v := 2) C dL_law_662 rfl ?_
  refine ww_iadd (v := (nI (i1 + 2))) C dL_law_663 (nI_add i1 2) ?_
  refine ww_sld (v := a1) C hs (vp_in_nI (by omega) (by omega)) (ldn (by omega) ea1) dL_law_664 ?_
  refine ww_aload_n C dL_law_665 3 rfl rfl ?_
  refine ww_iload_n C dL_law_666 0 rfl rfl ?_
  refine ww_iconst (v := 3) C dL_law_667 rfl ?_
  refine ww_iadd (v := (nI (i1 + 3))) C dL_law_668 (nI_add i1 3) ?_
  refine ww_sld (v := a2) C hs (vp_in_nI (by omega) (by omega)) (ldn (by omega) ea2) dL_law_669 ?_
  refine ww_aload_n C dL_law_670 3 rfl rfl ?_
  refine ww_iload_n C dL_law_671 0 rfl rfl ?_
  refine ww_iconst (v := 4) C dL_law_672 rfl ?_
  refine ww_iadd (v := (nI (i1 + 4))) C dL_law_673 (nI_add i1 4) ?_
  refine ww_sld (v := a3) C hs (vp_in_nI (by omega) (by omega)) (ldn (by omega) ea3) dL_law_674 ?_
  refine ww_aload_n C dL_law_675 3 rfl rfl ?_
  refine ww_iload_n C dL_law_676 0 rfl rfl ?_
  refine ww_iconst (v := 5) C dL_law_677 rfl ?_
  refine ww_iadd (v := (nI (i1 + 5))) C dL_law_678 (nI_add i1 5) ?_
  refine ww_sld (v := a4) C hs (vp_in_nI (by omega) (by omega)) (ldn (by omega) ea4) dL_law_679 ?_
  refine cx_when C rfl ⟨by omega, by omega⟩ hS (fun r_1 eT_5 eb_6 en_7 ws_2 hS_3 hE_4 => ?_)
  replace hE_4 := hd_mk hE_4
  refine ww_pop C dL_law_683 rfl ?_
  refine ww_aload_n C dL_law_684 1 rfl rfl ?_
  refine ww_aload_n C dL_law_685 3 rfl rfl ?_
  refine ww_iload_n C dL_law_686 0 rfl rfl ?_
  refine ww_iconst (v := 1) C dL_law_687 rfl ?_
  refine ww_iadd (v := (nI (i1 + 1))) C dL_law_688 (nI_add i1 1) ?_
  refine ww_sld (v := a0) C hs (vp_in_nI (by omega) (by omega)) (ldn (by omega) ea0) dL_law_689 ?_
  refine ww_aload_n C dL_law_690 3 rfl rfl ?_
  refine ww_iload_n C dL_law_691 0 rfl rfl ?_
  refine ww_iconst (v := 2) C dL_law_692 rfl ?_
  refine ww_iadd (v := (nI (i1 + 2))) C dL_law_693 (nI_add i1 2) ?_
  refine ww_sld (v := a1) C hs (vp_in_nI (by omega) (by omega)) (ldn (by omega) ea1) dL_law_694 ?_
  refine ww_aload_n C dL_law_695 3 rfl rfl ?_
  refine ww_iload_n C dL_law_696 0 rfl rfl ?_
  refine ww_iconst (v := 3) C dL_law_697 rfl ?_
  refine ww_iadd (v := (nI (i1 + 3))) C dL_law_698 (nI_add i1 3) ?_
  refine ww_sld (v := a2) C hs (vp_in_nI (by omega) (by omega)) (ldn (by omega) ea2) dL_law_699 ?_
  refine ww_aload_n C dL_law_700 3 rfl rfl ?_
  refine ww_iload_n C dL_law_701 0 rfl rfl ?_
  refine ww_iconst (v := 4) C dL_law_702 rfl ?_
  refine ww_iadd (v := (nI (i1 + 4))) C dL_law_703 (nI_add i1 4) ?_
  refine ww_sld (v := a3) C hs (vp_in_nI (by omega) (by omega)) (ldn (by omega) ea3) dL_law_704 ?_
  refine ww_aload_n C dL_law_705 3 rfl rfl ?_
  refine ww_iload_n C dL_law_706 0 rfl rfl ?_
  refine ww_iconst (v := 5) C dL_law_707 rfl ?_
  refine ww_iadd (v := (nI (i1 + 5))) C dL_law_708 (nI_add i1 5) ?_
  refine ww_sld (v := a4) C hs (vp_in_nI (by omega) (by omega)) (ldn (by omega) ea4) dL_law_709 ?_
  refine my_when C rfl ⟨by omega, by omega⟩ hS_3 (fun r_8 f_actMany_12 f_actOf_13 f_whom_14 f_hasIf_15 f_becomes_16 f_goneOf_17 ws_9 hS_10 hE_11 => ?_)
  replace hE_11 := hd_mk hE_11
  refine ww_pop C dL_law_713 rfl ?_
  refine ww_goto (tgt := 1452) C dL_law_714 (by decide) ?_
  exact ww_wid (by omega) (by omega) (kk tl ct pe kn ac np kc mN pV kV st sn sl scx tT ec er ed eT_5 eb_6 en_7 q_undos q_models PGv f_afterOf f_actMany_12 f_actOf_13 f_whom_14 f_hasIf_15 f_becomes_16 f_goneOf_17 q_taped cr q_people f_secrets f_lanes f_lengths f_cells f_tokens f_afters f_caseMany f_happen f_heard _ hS_10 ⟨hR.1, hR.2.1, hR.2.2.1, hR.2.2.2.1, hR.2.2.2.2.1, hR.2.2.2.2.2.1, hR.2.2.2.2.2.2.1, hR.2.2.2.2.2.2.2.1, hR.2.2.2.2.2.2.2.2.1, hR.2.2.2.2.2.2.2.2.2.1, (re_when hE_4 hE_11 hR (ST.tl hS)).1, (re_when hE_4 hE_11 hR (ST.tl hS)).2, hR.2.2.2.2.2.2.2.2.2.2.2.2.1, hR.2.2.2.2.2.2.2.2.2.2.2.2.2⟩)
theorem dL_law_717 : decode cL_law 717 = .ok (.aload_n 1, 1) := dl_43 (by decide +kernel)
theorem dL_law_718 : decode cL_law 718 = .ok (.aload_n 0, 1) := dl_42 (by decide +kernel)
theorem dL_law_719 : decode cL_law 719 = .ok (.iload_n 3, 1) := dl_29 (by decide +kernel)
theorem dL_law_720 : decode cL_law 720 = .ok (.iconst 1, 1) := dl_4 (by decide +kernel)
theorem dL_law_721 : decode cL_law 721 = .ok (.iadd, 1) := dl_96 (by decide +kernel)
theorem dL_law_722 : decode cL_law 722 = .ok (.iaload, 1) := dl_46 (by decide +kernel)
theorem dL_law_723 : decode cL_law 723 = .ok (.aload_n 0, 1) := dl_42 (by decide +kernel)
theorem dL_law_724 : decode cL_law 724 = .ok (.iload_n 3, 1) := dl_29 (by decide +kernel)
theorem dL_law_725 : decode cL_law 725 = .ok (.iconst 2, 1) := dl_5 (by decide +kernel)
theorem dL_law_726 : decode cL_law 726 = .ok (.iadd, 1) := dl_96 (by decide +kernel)
theorem dL_law_727 : decode cL_law 727 = .ok (.iaload, 1) := dl_46 (by decide +kernel)
theorem dL_law_728 : decode cL_law 728 = .ok (.aload_n 0, 1) := dl_42 (by decide +kernel)
theorem dL_law_729 : decode cL_law 729 = .ok (.iload_n 3, 1) := dl_29 (by decide +kernel)
theorem dL_law_730 : decode cL_law 730 = .ok (.iconst 3, 1) := dl_6 (by decide +kernel)
theorem dL_law_731 : decode cL_law 731 = .ok (.iadd, 1) := dl_96 (by decide +kernel)
theorem dL_law_732 : decode cL_law 732 = .ok (.iaload, 1) := dl_46 (by decide +kernel)
theorem dL_law_733 : decode cL_law 733 = .ok (.aload_n 0, 1) := dl_42 (by decide +kernel)
theorem dL_law_734 : decode cL_law 734 = .ok (.iload_n 3, 1) := dl_29 (by decide +kernel)
theorem dL_law_735 : decode cL_law 735 = .ok (.iconst 4, 1) := dl_7 (by decide +kernel)
theorem dL_law_736 : decode cL_law 736 = .ok (.iadd, 1) := dl_96 (by decide +kernel)
theorem dL_law_737 : decode cL_law 737 = .ok (.iaload, 1) := dl_46 (by decide +kernel)
theorem dL_law_738 : decode cL_law 738 = .ok (.aload_n 0, 1) := dl_42 (by decide +kernel)
theorem dL_law_739 : decode cL_law 739 = .ok (.iload_n 3, 1) := dl_29 (by decide +kernel)
theorem dL_law_740 : decode cL_law 740 = .ok (.iconst 5, 1) := dl_8 (by decide +kernel)
theorem dL_law_741 : decode cL_law 741 = .ok (.iadd, 1) := dl_96 (by decide +kernel)
theorem dL_law_742 : decode cL_law 742 = .ok (.iaload, 1) := dl_46 (by decide +kernel)
theorem dL_law_743 : decode cL_law 743 = .ok (.ifCond .eq 7, 3) := dl_153 (by decide +kernel)
theorem dL_law_750 : decode cL_law 750 = .ok (.iconst 0, 1) := dl_3 (by decide +kernel)
theorem dL_law_754 : decode cL_law 754 = .ok (.pop, 1) := dl_87 (by decide +kernel)
theorem dL_law_755 : decode cL_law 755 = .ok (.aload_n 2, 1) := dl_44 (by decide +kernel)
theorem dL_law_756 : decode cL_law 756 = .ok (.aload_n 0, 1) := dl_42 (by decide +kernel)
theorem dL_law_757 : decode cL_law 757 = .ok (.iload_n 3, 1) := dl_29 (by decide +kernel)
theorem dL_law_758 : decode cL_law 758 = .ok (.iconst 1, 1) := dl_4 (by decide +kernel)
theorem dL_law_759 : decode cL_law 759 = .ok (.iadd, 1) := dl_96 (by decide +kernel)
theorem dL_law_760 : decode cL_law 760 = .ok (.iaload, 1) := dl_46 (by decide +kernel)
theorem dL_law_761 : decode cL_law 761 = .ok (.aload_n 0, 1) := dl_42 (by decide +kernel)
theorem dL_law_762 : decode cL_law 762 = .ok (.iload_n 3, 1) := dl_29 (by decide +kernel)
theorem dL_law_763 : decode cL_law 763 = .ok (.iconst 2, 1) := dl_5 (by decide +kernel)
theorem dL_law_764 : decode cL_law 764 = .ok (.iadd, 1) := dl_96 (by decide +kernel)
theorem dL_law_765 : decode cL_law 765 = .ok (.iaload, 1) := dl_46 (by decide +kernel)
theorem dL_law_766 : decode cL_law 766 = .ok (.aload_n 0, 1) := dl_42 (by decide +kernel)
theorem dL_law_767 : decode cL_law 767 = .ok (.iload_n 3, 1) := dl_29 (by decide +kernel)
theorem dL_law_768 : decode cL_law 768 = .ok (.iconst 3, 1) := dl_6 (by decide +kernel)
theorem dL_law_769 : decode cL_law 769 = .ok (.iadd, 1) := dl_96 (by decide +kernel)
theorem dL_law_770 : decode cL_law 770 = .ok (.iaload, 1) := dl_46 (by decide +kernel)
theorem dL_law_771 : decode cL_law 771 = .ok (.aload_n 0, 1) := dl_42 (by decide +kernel)
theorem dL_law_772 : decode cL_law 772 = .ok (.iload_n 3, 1) := dl_29 (by decide +kernel)
theorem dL_law_773 : decode cL_law 773 = .ok (.iconst 4, 1) := dl_7 (by decide +kernel)
theorem dL_law_774 : decode cL_law 774 = .ok (.iadd, 1) := dl_96 (by decide +kernel)
theorem dL_law_775 : decode cL_law 775 = .ok (.iaload, 1) := dl_46 (by decide +kernel)
theorem dL_law_776 : decode cL_law 776 = .ok (.aload_n 0, 1) := dl_42 (by decide +kernel)
theorem dL_law_777 : decode cL_law 777 = .ok (.iload_n 3, 1) := dl_29 (by decide +kernel)
theorem dL_law_778 : decode cL_law 778 = .ok (.iconst 5, 1) := dl_8 (by decide +kernel)
theorem dL_law_779 : decode cL_law 779 = .ok (.iadd, 1) := dl_96 (by decide +kernel)
theorem dL_law_780 : decode cL_law 780 = .ok (.iaload, 1) := dl_46 (by decide +kernel)
theorem dL_law_781 : decode cL_law 781 = .ok (.ifCond .eq 7, 3) := dl_153 (by decide +kernel)
theorem dL_law_788 : decode cL_law 788 = .ok (.iconst 0, 1) := dl_3 (by decide +kernel)
theorem dL_law_792 : decode cL_law 792 = .ok (.pop, 1) := dl_87 (by decide +kernel)
theorem dL_law_793 : decode cL_law 793 = .ok (.goto 659, 3) := dl_167 (by decide +kernel)
theorem dL_law_746 : decode cL_law 746 = .ok (.iconst 1, 1) := dl_4 (by decide +kernel)
theorem dL_law_747 : decode cL_law 747 = .ok (.goto 4, 3) := dl_167 (by decide +kernel)
theorem dL_law_784 : decode cL_law 784 = .ok (.iconst 1, 1) := dl_4 (by decide +kernel)
theorem dL_law_785 : decode cL_law 785 = .ok (.goto 4, 3) := dl_167 (by decide +kernel)
set_option maxRecDepth 100000 in
set_option maxHeartbeats 4000000 in
theorem lawc_hears {X : XT} {E : EV} {xs : Nat → Int32} {ws : va_W} {bb L hx hm i1 kC nC : Nat} {tl : Nat} {ct : Nat → Int} {pe : Nat} {kn : Int32} {ac : Nat} {np : Nat} {kc : Nat} {mN : AM} {pV : Nat → AM} {kV : Nat → AM} {st : Nat → Nat} {sn : Nat → Nat} {sl : Nat → Nat} {scx : Nat → Nat → Int32} {tT : Nat → Option SVal} {ec : Nat → Nat} {er : Nat → Nat} {ed : Nat → Nat → Int32} {eT : Nat → Nat → Option SVal} {eb : Nat → Nat → Int32} {en : Nat → Nat → Int32} {q_undos : Nat} {q_models : Nat} {PGv : Nat → AM} {f_afterOf : Nat → Int32} {f_actMany : Nat → Int32} {f_actOf : Nat → Int32} {f_whom : Nat → Int32} {f_hasIf : Nat → Int32} {f_becomes : Nat → Int32} {f_goneOf : Nat → Int32} {q_taped : Nat} {cr : Nat → Int} {q_people : Nat} {f_secrets : Nat → Int32} {f_lanes : Nat → Int32} {f_lengths : Nat → Int32} {f_cells : Nat → Int32} {f_tokens : Nat → Int32} {f_afters : Nat → Int32} {f_caseMany : Nat → Int32} {f_happen : Nat → Int32} {f_heard : Nat → Int32} (C : CX X room_1 cL_law 4 RL ret E) (hs : SX X bb L xs) (hi : i1 + 6 ≤ L) (hL : L ≤ 3072) (hk : kC + 4 ≤ 600000 ∧ nC + 73 ≤ 7302250) (hS : ST E hx hm tl ct pe kn ac np kc mN pV kV st sn sl scx tT ec er ed eT eb en q_undos q_models PGv f_afterOf f_actMany f_actOf f_whom f_hasIf f_becomes f_goneOf q_taped cr q_people f_secrets f_lanes f_lengths f_cells f_tokens f_afters f_caseMany f_happen f_heard ws) (hR : RL_ tl ct pe kn ac np kc mN pV kV st sn sl scx tT ec er ed eT eb en q_undos q_models PGv f_afterOf f_actMany f_actOf f_whom f_hasIf f_becomes f_goneOf q_taped cr q_people f_secrets f_lanes f_lengths f_cells f_tokens f_afters f_caseMany f_happen f_heard) (kk : ∀ (tl : Nat) (ct : Nat → Int) (pe : Nat) (kn : Int32) (ac : Nat) (np : Nat) (kc : Nat) (mN : AM) (pV : Nat → AM) (kV : Nat → AM) (st : Nat → Nat) (sn : Nat → Nat) (sl : Nat → Nat) (scx : Nat → Nat → Int32) (tT : Nat → Option SVal) (ec : Nat → Nat) (er : Nat → Nat) (ed : Nat → Nat → Int32) (eT : Nat → Nat → Option SVal) (eb : Nat → Nat → Int32) (en : Nat → Nat → Int32) (q_undos : Nat) (q_models : Nat) (PGv : Nat → AM) (f_afterOf : Nat → Int32) (f_actMany : Nat → Int32) (f_actOf : Nat → Int32) (f_whom : Nat → Int32) (f_hasIf : Nat → Int32) (f_becomes : Nat → Int32) (f_goneOf : Nat → Int32) (q_taped : Nat) (cr : Nat → Int) (q_people : Nat) (f_secrets : Nat → Int32) (f_lanes : Nat → Int32) (f_lengths : Nat → Int32) (f_cells : Nat → Int32) (f_tokens : Nat → Int32) (f_afters : Nat → Int32) (f_caseMany : Nat → Int32) (f_happen : Nat → Int32) (f_heard : Nat → Int32) (wsZ : va_W), ST E hx hm tl ct pe kn ac np kc mN pV kV st sn sl scx tT ec er ed eT eb en q_undos q_models PGv f_afterOf f_actMany f_actOf f_whom f_hasIf f_becomes f_goneOf q_taped cr q_people f_secrets f_lanes f_lengths f_cells f_tokens f_afters f_caseMany f_happen f_heard wsZ → RL_ tl ct pe kn ac np kc mN pV kV st sn sl scx tT ec er ed eT eb en q_undos q_models PGv f_afterOf f_actMany f_actOf f_whom f_hasIf f_becomes f_goneOf q_taped cr q_people f_secrets f_lanes f_lengths f_cells f_tokens f_afters f_caseMany f_happen f_heard → WW X 4 E 1452 [(3, .int (nI i1)), (2, .ref hm), (1, .ref hx), (0, .ref bb)] [] wsZ (kC + 4) (nC + 73)) : WW X 4 E 717 [(3, .int (nI i1)), (2, .ref hm), (1, .ref hx), (0, .ref bb)] [] ws kC nC := by
  obtain ⟨a0, ea0⟩ : ∃ z : Int32, xs (i1 + 1) = z := ⟨_, rfl⟩
  obtain ⟨a1, ea1⟩ : ∃ z : Int32, xs (i1 + 2) = z := ⟨_, rfl⟩
  obtain ⟨a2, ea2⟩ : ∃ z : Int32, xs (i1 + 3) = z := ⟨_, rfl⟩
  obtain ⟨a3, ea3⟩ : ∃ z : Int32, xs (i1 + 4) = z := ⟨_, rfl⟩
  obtain ⟨a4, ea4⟩ : ∃ z : Int32, xs (i1 + 5) = z := ⟨_, rfl⟩
  refine ww_aload_n C dL_law_717 2 rfl rfl ?_
  refine ww_aload_n C dL_law_718 3 rfl rfl ?_
  refine ww_iload_n C dL_law_719 0 rfl rfl ?_
  refine ww_iconst (v := 1) C dL_law_720 rfl ?_
  refine ww_iadd (v := (nI (i1 + 1))) C dL_law_721 (nI_add i1 1) ?_
  refine ww_sld (v := a0) C hs (vp_in_nI (by omega) (by omega)) (ldn (by omega) ea0) dL_law_722 ?_
  refine ww_aload_n C dL_law_723 3 rfl rfl ?_
  refine ww_iload_n C dL_law_724 0 rfl rfl ?_
  refine ww_iconst (v := 2) C dL_law_725 rfl ?_
  refine ww_iadd (v := (nI (i1 + 2))) C dL_law_726 (nI_add i1 2) ?_
  refine ww_sld (v := a1) C hs (vp_in_nI (by omega) (by omega)) (ldn (by omega) ea1) dL_law_727 ?_
  refine ww_aload_n C dL_law_728 3 rfl rfl ?_
  refine ww_iload_n C dL_law_729 0 rfl rfl ?_
  refine ww_iconst (v := 3) C dL_law_730 rfl ?_
  refine ww_iadd (v := (nI (i1 + 3))) C dL_law_731 (nI_add i1 3) ?_
  refine ww_sld (v := a2) C hs (vp_in_nI (by omega) (by omega)) (ldn (by omega) ea2) dL_law_732 ?_
  refine ww_aload_n C dL_law_733 3 rfl rfl ?_
  refine ww_iload_n C dL_law_734 0 rfl rfl ?_
  refine ww_iconst (v := 4) C dL_law_735 rfl ?_
  refine ww_iadd (v := (nI (i1 + 4))) C dL_law_736 (nI_add i1 4) ?_
  refine ww_sld (v := a3) C hs (vp_in_nI (by omega) (by omega)) (ldn (by omega) ea3) dL_law_737 ?_
  refine ww_aload_n C dL_law_738 3 rfl rfl ?_
  refine ww_iload_n C dL_law_739 0 rfl rfl ?_
  refine ww_iconst (v := 5) C dL_law_740 rfl ?_
  refine ww_iadd (v := (nI (i1 + 5))) C dL_law_741 (nI_add i1 5) ?_
  refine ww_sld (v := a4) C hs (vp_in_nI (by omega) (by omega)) (ldn (by omega) ea4) dL_law_742 ?_
  refine ww_if_eq (tgt := 750) C dL_law_743 (by decide) (fun c_1 => ?_) (fun c_1 => ?_)
  · have zc_1 : a4.toInt = 0 := i_eq rfl rfl c_1
    refine ww_iconst (v := 0) C dL_law_750 rfl ?_
    refine cx_hears C rfl ⟨by omega, by omega⟩ hS (fun r_2 ed_6 ws_3 hS_4 hE_5 => ?_)
    replace hE_5 := hd_mk hE_5
    refine ww_pop C dL_law_754 rfl ?_
    refine ww_aload_n C dL_law_755 1 rfl rfl ?_
    refine ww_aload_n C dL_law_756 3 rfl rfl ?_
    refine ww_iload_n C dL_law_757 0 rfl rfl ?_
    refine ww_iconst (v := 1) C dL_law_758 rfl ?_
    refine ww_iadd (v := (nI (i1 + 1))) C dL_law_759 (nI_add i1 1) ?_
    refine ww_sld (v := a0) C hs (vp_in_nI (by omega) (by omega)) (ldn (by omega) ea0) dL_law_760 ?_
    refine ww_aload_n C dL_law_761 3 rfl rfl ?_
    refine ww_iload_n C dL_law_762 0 rfl rfl ?_
    refine ww_iconst (v := 2) C dL_law_763 rfl ?_
    refine ww_iadd (v := (nI (i1 + 2))) C dL_law_764 (nI_add i1 2) ?_
    refine ww_sld (v := a1) C hs (vp_in_nI (by omega) (by omega)) (ldn (by omega) ea1) dL_law_765 ?_
    refine ww_aload_n C dL_law_766 3 rfl rfl ?_
    refine ww_iload_n C dL_law_767 0 rfl rfl ?_
    refine ww_iconst (v := 3) C dL_law_768 rfl ?_
    refine ww_iadd (v := (nI (i1 + 3))) C dL_law_769 (nI_add i1 3) ?_
    refine ww_sld (v := a2) C hs (vp_in_nI (by omega) (by omega)) (ldn (by omega) ea2) dL_law_770 ?_
    refine ww_aload_n C dL_law_771 3 rfl rfl ?_
    refine ww_iload_n C dL_law_772 0 rfl rfl ?_
    refine ww_iconst (v := 4) C dL_law_773 rfl ?_
    refine ww_iadd (v := (nI (i1 + 4))) C dL_law_774 (nI_add i1 4) ?_
    refine ww_sld (v := a3) C hs (vp_in_nI (by omega) (by omega)) (ldn (by omega) ea3) dL_law_775 ?_
    refine ww_aload_n C dL_law_776 3 rfl rfl ?_
    refine ww_iload_n C dL_law_777 0 rfl rfl ?_
    refine ww_iconst (v := 5) C dL_law_778 rfl ?_
    refine ww_iadd (v := (nI (i1 + 5))) C dL_law_779 (nI_add i1 5) ?_
    refine ww_sld (v := a4) C hs (vp_in_nI (by omega) (by omega)) (ldn (by omega) ea4) dL_law_780 ?_
    refine ww_if_eq (tgt := 788) C dL_law_781 (by decide) (fun c_7 => ?_) (fun c_7 => ?_)
    · have zc_7 : a4.toInt = 0 := i_eq rfl rfl c_7
      refine ww_iconst (v := 0) C dL_law_788 rfl ?_
      refine my_hears C rfl ⟨by omega, by omega⟩ hS_4 (fun r_8 f_heard_12 ws_9 hS_10 hE_11 => ?_)
      replace hE_11 := hd_mk hE_11
      refine ww_pop C dL_law_792 rfl ?_
      refine ww_goto (tgt := 1452) C dL_law_793 (by decide) ?_
      exact ww_wid (by omega) (by omega) (kk tl ct pe kn ac np kc mN pV kV st sn sl scx tT ec er ed_6 eT eb en q_undos q_models PGv f_afterOf f_actMany f_actOf f_whom f_hasIf f_becomes f_goneOf q_taped cr q_people f_secrets f_lanes f_lengths f_cells f_tokens f_afters f_caseMany f_happen f_heard_12 _ hS_10 ⟨hR.1, hR.2.1, hR.2.2.1, hR.2.2.2.1, hR.2.2.2.2.1, hR.2.2.2.2.2.1, (re_hears hE_5 hE_11 hR (ST.tl hS)), hR.2.2.2.2.2.2.2.1, hR.2.2.2.2.2.2.2.2.1, hR.2.2.2.2.2.2.2.2.2.1, hR.2.2.2.2.2.2.2.2.2.2.1, hR.2.2.2.2.2.2.2.2.2.2.2.1, hR.2.2.2.2.2.2.2.2.2.2.2.2.1, hR.2.2.2.2.2.2.2.2.2.2.2.2.2⟩)
    · have zc_7 : a4.toInt ≠ 0 := i_ne rfl rfl c_7
      omega
  · have zc_1 : a4.toInt ≠ 0 := i_ne rfl rfl c_1
    refine ww_iconst (v := 1) C dL_law_746 rfl ?_
    refine ww_goto (tgt := 751) C dL_law_747 (by decide) ?_
    refine cx_hears C rfl ⟨by omega, by omega⟩ hS (fun r_13 ed_17 ws_14 hS_15 hE_16 => ?_)
    replace hE_16 := hd_mk hE_16
    refine ww_pop C dL_law_754 rfl ?_
    refine ww_aload_n C dL_law_755 1 rfl rfl ?_
    refine ww_aload_n C dL_law_756 3 rfl rfl ?_
    refine ww_iload_n C dL_law_757 0 rfl rfl ?_
    refine ww_iconst (v := 1) C dL_law_758 rfl ?_
    refine ww_iadd (v := (nI (i1 + 1))) C dL_law_759 (nI_add i1 1) ?_
    refine ww_sld (v := a0) C hs (vp_in_nI (by omega) (by omega)) (ldn (by omega) ea0) dL_law_760 ?_
    refine ww_aload_n C dL_law_761 3 rfl rfl ?_
    refine ww_iload_n C dL_law_762 0 rfl rfl ?_
    refine ww_iconst (v := 2) C dL_law_763 rfl ?_
    refine ww_iadd (v := (nI (i1 + 2))) C dL_law_764 (nI_add i1 2) ?_
    refine ww_sld (v := a1) C hs (vp_in_nI (by omega) (by omega)) (ldn (by omega) ea1) dL_law_765 ?_
    refine ww_aload_n C dL_law_766 3 rfl rfl ?_
    refine ww_iload_n C dL_law_767 0 rfl rfl ?_
    refine ww_iconst (v := 3) C dL_law_768 rfl ?_
    refine ww_iadd (v := (nI (i1 + 3))) C dL_law_769 (nI_add i1 3) ?_
    refine ww_sld (v := a2) C hs (vp_in_nI (by omega) (by omega)) (ldn (by omega) ea2) dL_law_770 ?_
    refine ww_aload_n C dL_law_771 3 rfl rfl ?_
    refine ww_iload_n C dL_law_772 0 rfl rfl ?_
    refine ww_iconst (v := 4) C dL_law_773 rfl ?_
    refine ww_iadd (v := (nI (i1 + 4))) C dL_law_774 (nI_add i1 4) ?_
    refine ww_sld (v := a3) C hs (vp_in_nI (by omega) (by omega)) (ldn (by omega) ea3) dL_law_775 ?_
    refine ww_aload_n C dL_law_776 3 rfl rfl ?_
    refine ww_iload_n C dL_law_777 0 rfl rfl ?_
    refine ww_iconst (v := 5) C dL_law_778 rfl ?_
    refine ww_iadd (v := (nI (i1 + 5))) C dL_law_779 (nI_add i1 5) ?_
    refine ww_sld (v := a4) C hs (vp_in_nI (by omega) (by omega)) (ldn (by omega) ea4) dL_law_780 ?_
    refine ww_if_eq (tgt := 788) C dL_law_781 (by decide) (fun c_18 => ?_) (fun c_18 => ?_)
    · have zc_18 : a4.toInt = 0 := i_eq rfl rfl c_18
      omega
    · have zc_18 : a4.toInt ≠ 0 := i_ne rfl rfl c_18
      refine ww_iconst (v := 1) C dL_law_784 rfl ?_
      refine ww_goto (tgt := 789) C dL_law_785 (by decide) ?_
      refine my_hears C rfl ⟨by omega, by omega⟩ hS_15 (fun r_19 f_heard_23 ws_20 hS_21 hE_22 => ?_)
      replace hE_22 := hd_mk hE_22
      refine ww_pop C dL_law_792 rfl ?_
      refine ww_goto (tgt := 1452) C dL_law_793 (by decide) ?_
      exact ww_wid (by omega) (by omega) (kk tl ct pe kn ac np kc mN pV kV st sn sl scx tT ec er ed_17 eT eb en q_undos q_models PGv f_afterOf f_actMany f_actOf f_whom f_hasIf f_becomes f_goneOf q_taped cr q_people f_secrets f_lanes f_lengths f_cells f_tokens f_afters f_caseMany f_happen f_heard_23 _ hS_21 ⟨hR.1, hR.2.1, hR.2.2.1, hR.2.2.2.1, hR.2.2.2.2.1, hR.2.2.2.2.2.1, (re_hears hE_16 hE_22 hR (ST.tl hS)), hR.2.2.2.2.2.2.2.1, hR.2.2.2.2.2.2.2.2.1, hR.2.2.2.2.2.2.2.2.2.1, hR.2.2.2.2.2.2.2.2.2.2.1, hR.2.2.2.2.2.2.2.2.2.2.2.1, hR.2.2.2.2.2.2.2.2.2.2.2.2.1, hR.2.2.2.2.2.2.2.2.2.2.2.2.2⟩)
theorem dL_law_796 : decode cL_law 796 = .ok (.aload_n 1, 1) := dl_43 (by decide +kernel)
theorem dL_law_797 : decode cL_law 797 = .ok (.aload_n 0, 1) := dl_42 (by decide +kernel)
theorem dL_law_798 : decode cL_law 798 = .ok (.iload_n 3, 1) := dl_29 (by decide +kernel)
theorem dL_law_799 : decode cL_law 799 = .ok (.iconst 1, 1) := dl_4 (by decide +kernel)
theorem dL_law_800 : decode cL_law 800 = .ok (.iadd, 1) := dl_96 (by decide +kernel)
theorem dL_law_801 : decode cL_law 801 = .ok (.iaload, 1) := dl_46 (by decide +kernel)
theorem dL_law_802 : decode cL_law 802 = .ok (.aload_n 0, 1) := dl_42 (by decide +kernel)
theorem dL_law_803 : decode cL_law 803 = .ok (.iload_n 3, 1) := dl_29 (by decide +kernel)
theorem dL_law_804 : decode cL_law 804 = .ok (.iconst 2, 1) := dl_5 (by decide +kernel)
theorem dL_law_805 : decode cL_law 805 = .ok (.iadd, 1) := dl_96 (by decide +kernel)
theorem dL_law_806 : decode cL_law 806 = .ok (.iaload, 1) := dl_46 (by decide +kernel)
theorem dL_law_810 : decode cL_law 810 = .ok (.pop, 1) := dl_87 (by decide +kernel)
theorem dL_law_811 : decode cL_law 811 = .ok (.aload_n 2, 1) := dl_44 (by decide +kernel)
theorem dL_law_812 : decode cL_law 812 = .ok (.aload_n 0, 1) := dl_42 (by decide +kernel)
theorem dL_law_813 : decode cL_law 813 = .ok (.iload_n 3, 1) := dl_29 (by decide +kernel)
theorem dL_law_814 : decode cL_law 814 = .ok (.iconst 1, 1) := dl_4 (by decide +kernel)
theorem dL_law_815 : decode cL_law 815 = .ok (.iadd, 1) := dl_96 (by decide +kernel)
theorem dL_law_816 : decode cL_law 816 = .ok (.iaload, 1) := dl_46 (by decide +kernel)
theorem dL_law_817 : decode cL_law 817 = .ok (.aload_n 0, 1) := dl_42 (by decide +kernel)
theorem dL_law_818 : decode cL_law 818 = .ok (.iload_n 3, 1) := dl_29 (by decide +kernel)
theorem dL_law_819 : decode cL_law 819 = .ok (.iconst 2, 1) := dl_5 (by decide +kernel)
theorem dL_law_820 : decode cL_law 820 = .ok (.iadd, 1) := dl_96 (by decide +kernel)
theorem dL_law_821 : decode cL_law 821 = .ok (.iaload, 1) := dl_46 (by decide +kernel)
theorem dL_law_825 : decode cL_law 825 = .ok (.pop, 1) := dl_87 (by decide +kernel)
theorem dL_law_826 : decode cL_law 826 = .ok (.goto 626, 3) := dl_167 (by decide +kernel)
set_option maxRecDepth 100000 in
set_option maxHeartbeats 4000000 in
theorem lawc_happens {X : XT} {E : EV} {xs : Nat → Int32} {ws : va_W} {bb L hx hm i1 kC nC : Nat} {tl : Nat} {ct : Nat → Int} {pe : Nat} {kn : Int32} {ac : Nat} {np : Nat} {kc : Nat} {mN : AM} {pV : Nat → AM} {kV : Nat → AM} {st : Nat → Nat} {sn : Nat → Nat} {sl : Nat → Nat} {scx : Nat → Nat → Int32} {tT : Nat → Option SVal} {ec : Nat → Nat} {er : Nat → Nat} {ed : Nat → Nat → Int32} {eT : Nat → Nat → Option SVal} {eb : Nat → Nat → Int32} {en : Nat → Nat → Int32} {q_undos : Nat} {q_models : Nat} {PGv : Nat → AM} {f_afterOf : Nat → Int32} {f_actMany : Nat → Int32} {f_actOf : Nat → Int32} {f_whom : Nat → Int32} {f_hasIf : Nat → Int32} {f_becomes : Nat → Int32} {f_goneOf : Nat → Int32} {q_taped : Nat} {cr : Nat → Int} {q_people : Nat} {f_secrets : Nat → Int32} {f_lanes : Nat → Int32} {f_lengths : Nat → Int32} {f_cells : Nat → Int32} {f_tokens : Nat → Int32} {f_afters : Nat → Int32} {f_caseMany : Nat → Int32} {f_happen : Nat → Int32} {f_heard : Nat → Int32} (C : CX X room_1 cL_law 4 RL ret E) (hs : SX X bb L xs) (hi : i1 + 6 ≤ L) (hL : L ≤ 3072) (hk : kC + 4 ≤ 600000 ∧ nC + 73 ≤ 7302250) (hS : ST E hx hm tl ct pe kn ac np kc mN pV kV st sn sl scx tT ec er ed eT eb en q_undos q_models PGv f_afterOf f_actMany f_actOf f_whom f_hasIf f_becomes f_goneOf q_taped cr q_people f_secrets f_lanes f_lengths f_cells f_tokens f_afters f_caseMany f_happen f_heard ws) (hR : RL_ tl ct pe kn ac np kc mN pV kV st sn sl scx tT ec er ed eT eb en q_undos q_models PGv f_afterOf f_actMany f_actOf f_whom f_hasIf f_becomes f_goneOf q_taped cr q_people f_secrets f_lanes f_lengths f_cells f_tokens f_afters f_caseMany f_happen f_heard) (kk : ∀ (tl : Nat) (ct : Nat → Int) (pe : Nat) (kn : Int32) (ac : Nat) (np : Nat) (kc : Nat) (mN : AM) (pV : Nat → AM) (kV : Nat → AM) (st : Nat → Nat) (sn : Nat → Nat) (sl : Nat → Nat) (scx : Nat → Nat → Int32) (tT : Nat → Option SVal) (ec : Nat → Nat) (er : Nat → Nat) (ed : Nat → Nat → Int32) (eT : Nat → Nat → Option SVal) (eb : Nat → Nat → Int32) (en : Nat → Nat → Int32) (q_undos : Nat) (q_models : Nat) (PGv : Nat → AM) (f_afterOf : Nat → Int32) (f_actMany : Nat → Int32) (f_actOf : Nat → Int32) (f_whom : Nat → Int32) (f_hasIf : Nat → Int32) (f_becomes : Nat → Int32) (f_goneOf : Nat → Int32) (q_taped : Nat) (cr : Nat → Int) (q_people : Nat) (f_secrets : Nat → Int32) (f_lanes : Nat → Int32) (f_lengths : Nat → Int32) (f_cells : Nat → Int32) (f_tokens : Nat → Int32) (f_afters : Nat → Int32) (f_caseMany : Nat → Int32) (f_happen : Nat → Int32) (f_heard : Nat → Int32) (wsZ : va_W), ST E hx hm tl ct pe kn ac np kc mN pV kV st sn sl scx tT ec er ed eT eb en q_undos q_models PGv f_afterOf f_actMany f_actOf f_whom f_hasIf f_becomes f_goneOf q_taped cr q_people f_secrets f_lanes f_lengths f_cells f_tokens f_afters f_caseMany f_happen f_heard wsZ → RL_ tl ct pe kn ac np kc mN pV kV st sn sl scx tT ec er ed eT eb en q_undos q_models PGv f_afterOf f_actMany f_actOf f_whom f_hasIf f_becomes f_goneOf q_taped cr q_people f_secrets f_lanes f_lengths f_cells f_tokens f_afters f_caseMany f_happen f_heard → WW X 4 E 1452 [(3, .int (nI i1)), (2, .ref hm), (1, .ref hx), (0, .ref bb)] [] wsZ (kC + 4) (nC + 73)) : WW X 4 E 796 [(3, .int (nI i1)), (2, .ref hm), (1, .ref hx), (0, .ref bb)] [] ws kC nC := by
  obtain ⟨a0, ea0⟩ : ∃ z : Int32, xs (i1 + 1) = z := ⟨_, rfl⟩
  obtain ⟨a1, ea1⟩ : ∃ z : Int32, xs (i1 + 2) = z := ⟨_, rfl⟩
  refine ww_aload_n C dL_law_796 2 rfl rfl ?_
  refine ww_aload_n C dL_law_797 3 rfl rfl ?_
  refine ww_iload_n C dL_law_798 0 rfl rfl ?_
  refine ww_iconst (v := 1) C dL_law_799 rfl ?_
  refine ww_iadd (v := (nI (i1 + 1))) C dL_law_800 (nI_add i1 1) ?_
  refine ww_sld (v := a0) C hs (vp_in_nI (by omega) (by omega)) (ldn (by omega) ea0) dL_law_801 ?_
  refine ww_aload_n C dL_law_802 3 rfl rfl ?_
  refine ww_iload_n C dL_law_803 0 rfl rfl ?_
  refine ww_iconst (v := 2) C dL_law_804 rfl ?_
  refine ww_iadd (v := (nI (i1 + 2))) C dL_law_805 (nI_add i1 2) ?_
  refine ww_sld (v := a1) C hs (vp_in_nI (by omega) (by omega)) (ldn (by omega) ea1) dL_law_806 ?_
  refine cx_happens C rfl ⟨by omega, by omega⟩ hS (fun r_1 er_5 ws_2 hS_3 hE_4 => ?_)
  replace hE_4 := hd_mk hE_4
  refine ww_pop C dL_law_810 rfl ?_
  refine ww_aload_n C dL_law_811 1 rfl rfl ?_
  refine ww_aload_n C dL_law_812 3 rfl rfl ?_
  refine ww_iload_n C dL_law_813 0 rfl rfl ?_
  refine ww_iconst (v := 1) C dL_law_814 rfl ?_
  refine ww_iadd (v := (nI (i1 + 1))) C dL_law_815 (nI_add i1 1) ?_
  refine ww_sld (v := a0) C hs (vp_in_nI (by omega) (by omega)) (ldn (by omega) ea0) dL_law_816 ?_
  refine ww_aload_n C dL_law_817 3 rfl rfl ?_
  refine ww_iload_n C dL_law_818 0 rfl rfl ?_
  refine ww_iconst (v := 2) C dL_law_819 rfl ?_
  refine ww_iadd (v := (nI (i1 + 2))) C dL_law_820 (nI_add i1 2) ?_
  refine ww_sld (v := a1) C hs (vp_in_nI (by omega) (by omega)) (ldn (by omega) ea1) dL_law_821 ?_
  refine my_happens C rfl ⟨by omega, by omega⟩ hS_3 (fun r_6 f_happen_10 ws_7 hS_8 hE_9 => ?_)
  replace hE_9 := hd_mk hE_9
  refine ww_pop C dL_law_825 rfl ?_
  refine ww_goto (tgt := 1452) C dL_law_826 (by decide) ?_
  exact ww_wid (by omega) (by omega) (kk tl ct pe kn ac np kc mN pV kV st sn sl scx tT ec er_5 ed eT eb en q_undos q_models PGv f_afterOf f_actMany f_actOf f_whom f_hasIf f_becomes f_goneOf q_taped cr q_people f_secrets f_lanes f_lengths f_cells f_tokens f_afters f_caseMany f_happen_10 f_heard _ hS_8 ⟨hR.1, hR.2.1, hR.2.2.1, hR.2.2.2.1, hR.2.2.2.2.1, hR.2.2.2.2.2.1, (re_happens hE_4 hE_9 hR (ST.tl hS)), hR.2.2.2.2.2.2.2.1, hR.2.2.2.2.2.2.2.2.1, hR.2.2.2.2.2.2.2.2.2.1, hR.2.2.2.2.2.2.2.2.2.2.1, hR.2.2.2.2.2.2.2.2.2.2.2.1, hR.2.2.2.2.2.2.2.2.2.2.2.2.1, hR.2.2.2.2.2.2.2.2.2.2.2.2.2⟩)
theorem dL_law_829 : decode cL_law 829 = .ok (.aload_n 1, 1) := dl_43 (by decide +kernel)
theorem dL_law_830 : decode cL_law 830 = .ok (.aload_n 0, 1) := dl_42 (by decide +kernel)
theorem dL_law_831 : decode cL_law 831 = .ok (.iload_n 3, 1) := dl_29 (by decide +kernel)
theorem dL_law_832 : decode cL_law 832 = .ok (.iconst 1, 1) := dl_4 (by decide +kernel)
theorem dL_law_833 : decode cL_law 833 = .ok (.iadd, 1) := dl_96 (by decide +kernel)
theorem dL_law_834 : decode cL_law 834 = .ok (.iaload, 1) := dl_46 (by decide +kernel)
theorem dL_law_835 : decode cL_law 835 = .ok (.aload_n 0, 1) := dl_42 (by decide +kernel)
theorem dL_law_836 : decode cL_law 836 = .ok (.iload_n 3, 1) := dl_29 (by decide +kernel)
theorem dL_law_837 : decode cL_law 837 = .ok (.iconst 2, 1) := dl_5 (by decide +kernel)
theorem dL_law_838 : decode cL_law 838 = .ok (.iadd, 1) := dl_96 (by decide +kernel)
theorem dL_law_839 : decode cL_law 839 = .ok (.iaload, 1) := dl_46 (by decide +kernel)
theorem dL_law_840 : decode cL_law 840 = .ok (.aload_n 0, 1) := dl_42 (by decide +kernel)
theorem dL_law_841 : decode cL_law 841 = .ok (.iload_n 3, 1) := dl_29 (by decide +kernel)
theorem dL_law_842 : decode cL_law 842 = .ok (.iconst 3, 1) := dl_6 (by decide +kernel)
theorem dL_law_843 : decode cL_law 843 = .ok (.iadd, 1) := dl_96 (by decide +kernel)
theorem dL_law_844 : decode cL_law 844 = .ok (.iaload, 1) := dl_46 (by decide +kernel)
theorem dL_law_845 : decode cL_law 845 = .ok (.aload_n 0, 1) := dl_42 (by decide +kernel)
theorem dL_law_846 : decode cL_law 846 = .ok (.iload_n 3, 1) := dl_29 (by decide +kernel)
theorem dL_law_847 : decode cL_law 847 = .ok (.iconst 4, 1) := dl_7 (by decide +kernel)
theorem dL_law_848 : decode cL_law 848 = .ok (.iadd, 1) := dl_96 (by decide +kernel)
theorem dL_law_849 : decode cL_law 849 = .ok (.iaload, 1) := dl_46 (by decide +kernel)
theorem dL_law_853 : decode cL_law 853 = .ok (.pop, 1) := dl_87 (by decide +kernel)
theorem dL_law_854 : decode cL_law 854 = .ok (.aload_n 2, 1) := dl_44 (by decide +kernel)
theorem dL_law_855 : decode cL_law 855 = .ok (.aload_n 0, 1) := dl_42 (by decide +kernel)
theorem dL_law_856 : decode cL_law 856 = .ok (.iload_n 3, 1) := dl_29 (by decide +kernel)
theorem dL_law_857 : decode cL_law 857 = .ok (.iconst 1, 1) := dl_4 (by decide +kernel)
theorem dL_law_858 : decode cL_law 858 = .ok (.iadd, 1) := dl_96 (by decide +kernel)
theorem dL_law_859 : decode cL_law 859 = .ok (.iaload, 1) := dl_46 (by decide +kernel)
theorem dL_law_860 : decode cL_law 860 = .ok (.aload_n 0, 1) := dl_42 (by decide +kernel)
theorem dL_law_861 : decode cL_law 861 = .ok (.iload_n 3, 1) := dl_29 (by decide +kernel)
theorem dL_law_862 : decode cL_law 862 = .ok (.iconst 2, 1) := dl_5 (by decide +kernel)
theorem dL_law_863 : decode cL_law 863 = .ok (.iadd, 1) := dl_96 (by decide +kernel)
theorem dL_law_864 : decode cL_law 864 = .ok (.iaload, 1) := dl_46 (by decide +kernel)
theorem dL_law_865 : decode cL_law 865 = .ok (.aload_n 0, 1) := dl_42 (by decide +kernel)
theorem dL_law_866 : decode cL_law 866 = .ok (.iload_n 3, 1) := dl_29 (by decide +kernel)
theorem dL_law_867 : decode cL_law 867 = .ok (.iconst 3, 1) := dl_6 (by decide +kernel)
theorem dL_law_868 : decode cL_law 868 = .ok (.iadd, 1) := dl_96 (by decide +kernel)
theorem dL_law_869 : decode cL_law 869 = .ok (.iaload, 1) := dl_46 (by decide +kernel)
theorem dL_law_870 : decode cL_law 870 = .ok (.aload_n 0, 1) := dl_42 (by decide +kernel)
theorem dL_law_871 : decode cL_law 871 = .ok (.iload_n 3, 1) := dl_29 (by decide +kernel)
theorem dL_law_872 : decode cL_law 872 = .ok (.iconst 4, 1) := dl_7 (by decide +kernel)
theorem dL_law_873 : decode cL_law 873 = .ok (.iadd, 1) := dl_96 (by decide +kernel)
theorem dL_law_874 : decode cL_law 874 = .ok (.iaload, 1) := dl_46 (by decide +kernel)
theorem dL_law_878 : decode cL_law 878 = .ok (.pop, 1) := dl_87 (by decide +kernel)
theorem dL_law_879 : decode cL_law 879 = .ok (.goto 573, 3) := dl_167 (by decide +kernel)
set_option maxRecDepth 100000 in
set_option maxHeartbeats 4000000 in
theorem lawc_word {X : XT} {E : EV} {xs : Nat → Int32} {ws : va_W} {bb L hx hm i1 kC nC : Nat} {tl : Nat} {ct : Nat → Int} {pe : Nat} {kn : Int32} {ac : Nat} {np : Nat} {kc : Nat} {mN : AM} {pV : Nat → AM} {kV : Nat → AM} {st : Nat → Nat} {sn : Nat → Nat} {sl : Nat → Nat} {scx : Nat → Nat → Int32} {tT : Nat → Option SVal} {ec : Nat → Nat} {er : Nat → Nat} {ed : Nat → Nat → Int32} {eT : Nat → Nat → Option SVal} {eb : Nat → Nat → Int32} {en : Nat → Nat → Int32} {q_undos : Nat} {q_models : Nat} {PGv : Nat → AM} {f_afterOf : Nat → Int32} {f_actMany : Nat → Int32} {f_actOf : Nat → Int32} {f_whom : Nat → Int32} {f_hasIf : Nat → Int32} {f_becomes : Nat → Int32} {f_goneOf : Nat → Int32} {q_taped : Nat} {cr : Nat → Int} {q_people : Nat} {f_secrets : Nat → Int32} {f_lanes : Nat → Int32} {f_lengths : Nat → Int32} {f_cells : Nat → Int32} {f_tokens : Nat → Int32} {f_afters : Nat → Int32} {f_caseMany : Nat → Int32} {f_happen : Nat → Int32} {f_heard : Nat → Int32} (C : CX X room_1 cL_law 4 RL ret E) (hs : SX X bb L xs) (hi : i1 + 6 ≤ L) (hL : L ≤ 3072) (hk : kC + 4 ≤ 600000 ∧ nC + 73 ≤ 7302250) (hS : ST E hx hm tl ct pe kn ac np kc mN pV kV st sn sl scx tT ec er ed eT eb en q_undos q_models PGv f_afterOf f_actMany f_actOf f_whom f_hasIf f_becomes f_goneOf q_taped cr q_people f_secrets f_lanes f_lengths f_cells f_tokens f_afters f_caseMany f_happen f_heard ws) (hR : RL_ tl ct pe kn ac np kc mN pV kV st sn sl scx tT ec er ed eT eb en q_undos q_models PGv f_afterOf f_actMany f_actOf f_whom f_hasIf f_becomes f_goneOf q_taped cr q_people f_secrets f_lanes f_lengths f_cells f_tokens f_afters f_caseMany f_happen f_heard) (kk : ∀ (tl : Nat) (ct : Nat → Int) (pe : Nat) (kn : Int32) (ac : Nat) (np : Nat) (kc : Nat) (mN : AM) (pV : Nat → AM) (kV : Nat → AM) (st : Nat → Nat) (sn : Nat → Nat) (sl : Nat → Nat) (scx : Nat → Nat → Int32) (tT : Nat → Option SVal) (ec : Nat → Nat) (er : Nat → Nat) (ed : Nat → Nat → Int32) (eT : Nat → Nat → Option SVal) (eb : Nat → Nat → Int32) (en : Nat → Nat → Int32) (q_undos : Nat) (q_models : Nat) (PGv : Nat → AM) (f_afterOf : Nat → Int32) (f_actMany : Nat → Int32) (f_actOf : Nat → Int32) (f_whom : Nat → Int32) (f_hasIf : Nat → Int32) (f_becomes : Nat → Int32) (f_goneOf : Nat → Int32) (q_taped : Nat) (cr : Nat → Int) (q_people : Nat) (f_secrets : Nat → Int32) (f_lanes : Nat → Int32) (f_lengths : Nat → Int32) (f_cells : Nat → Int32) (f_tokens : Nat → Int32) (f_afters : Nat → Int32) (f_caseMany : Nat → Int32) (f_happen : Nat → Int32) (f_heard : Nat → Int32) (wsZ : va_W), ST E hx hm tl ct pe kn ac np kc mN pV kV st sn sl scx tT ec er ed eT eb en q_undos q_models PGv f_afterOf f_actMany f_actOf f_whom f_hasIf f_becomes f_goneOf q_taped cr q_people f_secrets f_lanes f_lengths f_cells f_tokens f_afters f_caseMany f_happen f_heard wsZ → RL_ tl ct pe kn ac np kc mN pV kV st sn sl scx tT ec er ed eT eb en q_undos q_models PGv f_afterOf f_actMany f_actOf f_whom f_hasIf f_becomes f_goneOf q_taped cr q_people f_secrets f_lanes f_lengths f_cells f_tokens f_afters f_caseMany f_happen f_heard → WW X 4 E 1452 [(3, .int (nI i1)), (2, .ref hm), (1, .ref hx), (0, .ref bb)] [] wsZ (kC + 4) (nC + 73)) : WW X 4 E 829 [(3, .int (nI i1)), (2, .ref hm), (1, .ref hx), (0, .ref bb)] [] ws kC nC := by
  obtain ⟨a0, ea0⟩ : ∃ z : Int32, xs (i1 + 1) = z := ⟨_, rfl⟩
  obtain ⟨a1, ea1⟩ : ∃ z : Int32, xs (i1 + 2) = z := ⟨_, rfl⟩
  obtain ⟨a2, ea2⟩ : ∃ z : Int32, xs (i1 + 3) = z := ⟨_, rfl⟩
  obtain ⟨a3, ea3⟩ : ∃ z : Int32, xs (i1 + 4) = z := ⟨_, rfl⟩
  refine ww_aload_n C dL_law_829 2 rfl rfl ?_
  refine ww_aload_n C dL_law_830 3 rfl rfl ?_
  refine ww_iload_n C dL_law_831 0 rfl rfl ?_
  refine ww_iconst (v := 1) C dL_law_832 rfl ?_
  refine ww_iadd (v := (nI (i1 + 1))) C dL_law_833 (nI_add i1 1) ?_
  refine ww_sld (v := a0) C hs (vp_in_nI (by omega) (by omega)) (ldn (by omega) ea0) dL_law_834 ?_
  refine ww_aload_n C dL_law_835 3 rfl rfl ?_
  refine ww_iload_n C dL_law_836 0 rfl rfl ?_
  refine ww_iconst (v := 2) C dL_law_837 rfl ?_
  refine ww_iadd (v := (nI (i1 + 2))) C dL_law_838 (nI_add i1 2) ?_
  refine ww_sld (v := a1) C hs (vp_in_nI (by omega) (by omega)) (ldn (by omega) ea1) dL_law_839 ?_
  refine ww_aload_n C dL_law_840 3 rfl rfl ?_
  refine ww_iload_n C dL_law_841 0 rfl rfl ?_
  refine ww_iconst (v := 3) C dL_law_842 rfl ?_
  refine ww_iadd (v := (nI (i1 + 3))) C dL_law_843 (nI_add i1 3) ?_
  refine ww_sld (v := a2) C hs (vp_in_nI (by omega) (by omega)) (ldn (by omega) ea2) dL_law_844 ?_
  refine ww_aload_n C dL_law_845 3 rfl rfl ?_
  refine ww_iload_n C dL_law_846 0 rfl rfl ?_
  refine ww_iconst (v := 4) C dL_law_847 rfl ?_
  refine ww_iadd (v := (nI (i1 + 4))) C dL_law_848 (nI_add i1 4) ?_
  refine ww_sld (v := a3) C hs (vp_in_nI (by omega) (by omega)) (ldn (by omega) ea3) dL_law_849 ?_
  refine cx_word C rfl ⟨by omega, by omega⟩ hS (fun r_1 ec_5 er_6 ed_7 eT_8 eb_9 en_10 ws_2 hS_3 hE_4 => ?_)
  replace hE_4 := hd_mk hE_4
  refine ww_pop C dL_law_853 rfl ?_
  refine ww_aload_n C dL_law_854 1 rfl rfl ?_
  refine ww_aload_n C dL_law_855 3 rfl rfl ?_
  refine ww_iload_n C dL_law_856 0 rfl rfl ?_
  refine ww_iconst (v := 1) C dL_law_857 rfl ?_
  refine ww_iadd (v := (nI (i1 + 1))) C dL_law_858 (nI_add i1 1) ?_
  refine ww_sld (v := a0) C hs (vp_in_nI (by omega) (by omega)) (ldn (by omega) ea0) dL_law_859 ?_
  refine ww_aload_n C dL_law_860 3 rfl rfl ?_
  refine ww_iload_n C dL_law_861 0 rfl rfl ?_
  refine ww_iconst (v := 2) C dL_law_862 rfl ?_
  refine ww_iadd (v := (nI (i1 + 2))) C dL_law_863 (nI_add i1 2) ?_
  refine ww_sld (v := a1) C hs (vp_in_nI (by omega) (by omega)) (ldn (by omega) ea1) dL_law_864 ?_
  refine ww_aload_n C dL_law_865 3 rfl rfl ?_
  refine ww_iload_n C dL_law_866 0 rfl rfl ?_
  refine ww_iconst (v := 3) C dL_law_867 rfl ?_
  refine ww_iadd (v := (nI (i1 + 3))) C dL_law_868 (nI_add i1 3) ?_
  refine ww_sld (v := a2) C hs (vp_in_nI (by omega) (by omega)) (ldn (by omega) ea2) dL_law_869 ?_
  refine ww_aload_n C dL_law_870 3 rfl rfl ?_
  refine ww_iload_n C dL_law_871 0 rfl rfl ?_
  refine ww_iconst (v := 4) C dL_law_872 rfl ?_
  refine ww_iadd (v := (nI (i1 + 4))) C dL_law_873 (nI_add i1 4) ?_
  refine ww_sld (v := a3) C hs (vp_in_nI (by omega) (by omega)) (ldn (by omega) ea3) dL_law_874 ?_
  refine my_word C rfl ⟨by omega, by omega⟩ hS_3 (fun r_11 f_actMany_15 f_actOf_16 f_whom_17 f_hasIf_18 f_becomes_19 f_goneOf_20 f_caseMany_21 f_happen_22 f_heard_23 ws_12 hS_13 hE_14 => ?_)
  replace hE_14 := hd_mk hE_14
  refine ww_pop C dL_law_878 rfl ?_
  refine ww_goto (tgt := 1452) C dL_law_879 (by decide) ?_
  exact ww_wid (by omega) (by omega) (kk tl ct pe kn ac np kc mN pV kV st sn sl scx tT ec_5 er_6 ed_7 eT_8 eb_9 en_10 q_undos q_models PGv f_afterOf f_actMany_15 f_actOf_16 f_whom_17 f_hasIf_18 f_becomes_19 f_goneOf_20 q_taped cr q_people f_secrets f_lanes f_lengths f_cells f_tokens f_afters f_caseMany_21 f_happen_22 f_heard_23 _ hS_13 ⟨hR.1, hR.2.1, hR.2.2.1, hR.2.2.2.1, hR.2.2.2.2.1, hR.2.2.2.2.2.1, (re_word hE_4 hE_14 hR (ST.tl hS)).1, hR.2.2.2.2.2.2.2.1, hR.2.2.2.2.2.2.2.2.1, hR.2.2.2.2.2.2.2.2.2.1, (re_word hE_4 hE_14 hR (ST.tl hS)).2.1, (re_word hE_4 hE_14 hR (ST.tl hS)).2.2, hR.2.2.2.2.2.2.2.2.2.2.2.2.1, hR.2.2.2.2.2.2.2.2.2.2.2.2.2⟩)
end
section
theorem dL_law_882 : decode cL_law 882 = .ok (.aload_n 1, 1) := dl_43 (by decide +kernel)
theorem dL_law_883 : decode cL_law 883 = .ok (.aload_n 0, 1) := dl_42 (by decide +kernel)
theorem dL_law_884 : decode cL_law 884 = .ok (.iload_n 3, 1) := dl_29 (by decide +kernel)
theorem dL_law_885 : decode cL_law 885 = .ok (.iconst 1, 1) := dl_4 (by decide +kernel)
theorem dL_law_886 : decode cL_law 886 = .ok (.iadd, 1) := dl_96 (by decide +kernel)
theorem dL_law_887 : decode cL_law 887 = .ok (.iaload, 1) := dl_46 (by decide +kernel)
theorem dL_law_891 : decode cL_law 891 = .ok (.pop, 1) := dl_87 (by decide +kernel)
theorem dL_law_892 : decode cL_law 892 = .ok (.aload_n 2, 1) := dl_44 (by decide +kernel)
theorem dL_law_893 : decode cL_law 893 = .ok (.aload_n 0, 1) := dl_42 (by decide +kernel)
theorem dL_law_894 : decode cL_law 894 = .ok (.iload_n 3, 1) := dl_29 (by decide +kernel)
theorem dL_law_895 : decode cL_law 895 = .ok (.iconst 1, 1) := dl_4 (by decide +kernel)
theorem dL_law_896 : decode cL_law 896 = .ok (.iadd, 1) := dl_96 (by decide +kernel)
theorem dL_law_897 : decode cL_law 897 = .ok (.iaload, 1) := dl_46 (by decide +kernel)
theorem dL_law_901 : decode cL_law 901 = .ok (.pop, 1) := dl_87 (by decide +kernel)
theorem dL_law_902 : decode cL_law 902 = .ok (.goto 550, 3) := dl_167 (by decide +kernel)
set_option maxRecDepth 100000 in
set_option maxHeartbeats 4000000 in
theorem lawc_lay {X : XT} {E : EV} {xs : Nat → Int32} {ws : va_W} {bb L hx hm i1 kC nC : Nat} {tl : Nat} {ct : Nat → Int} {pe : Nat} {kn : Int32} {ac : Nat} {np : Nat} {kc : Nat} {mN : AM} {pV : Nat → AM} {kV : Nat → AM} {st : Nat → Nat} {sn : Nat → Nat} {sl : Nat → Nat} {scx : Nat → Nat → Int32} {tT : Nat → Option SVal} {ec : Nat → Nat} {er : Nat → Nat} {ed : Nat → Nat → Int32} {eT : Nat → Nat → Option SVal} {eb : Nat → Nat → Int32} {en : Nat → Nat → Int32} {q_undos : Nat} {q_models : Nat} {PGv : Nat → AM} {f_afterOf : Nat → Int32} {f_actMany : Nat → Int32} {f_actOf : Nat → Int32} {f_whom : Nat → Int32} {f_hasIf : Nat → Int32} {f_becomes : Nat → Int32} {f_goneOf : Nat → Int32} {q_taped : Nat} {cr : Nat → Int} {q_people : Nat} {f_secrets : Nat → Int32} {f_lanes : Nat → Int32} {f_lengths : Nat → Int32} {f_cells : Nat → Int32} {f_tokens : Nat → Int32} {f_afters : Nat → Int32} {f_caseMany : Nat → Int32} {f_happen : Nat → Int32} {f_heard : Nat → Int32} (C : CX X room_1 cL_law 4 RL ret E) (hs : SX X bb L xs) (hi : i1 + 6 ≤ L) (hL : L ≤ 3072) (hk : kC + 4 ≤ 600000 ∧ nC + 73 ≤ 7302250) (hS : ST E hx hm tl ct pe kn ac np kc mN pV kV st sn sl scx tT ec er ed eT eb en q_undos q_models PGv f_afterOf f_actMany f_actOf f_whom f_hasIf f_becomes f_goneOf q_taped cr q_people f_secrets f_lanes f_lengths f_cells f_tokens f_afters f_caseMany f_happen f_heard ws) (hR : RL_ tl ct pe kn ac np kc mN pV kV st sn sl scx tT ec er ed eT eb en q_undos q_models PGv f_afterOf f_actMany f_actOf f_whom f_hasIf f_becomes f_goneOf q_taped cr q_people f_secrets f_lanes f_lengths f_cells f_tokens f_afters f_caseMany f_happen f_heard) (kk : ∀ (tl : Nat) (ct : Nat → Int) (pe : Nat) (kn : Int32) (ac : Nat) (np : Nat) (kc : Nat) (mN : AM) (pV : Nat → AM) (kV : Nat → AM) (st : Nat → Nat) (sn : Nat → Nat) (sl : Nat → Nat) (scx : Nat → Nat → Int32) (tT : Nat → Option SVal) (ec : Nat → Nat) (er : Nat → Nat) (ed : Nat → Nat → Int32) (eT : Nat → Nat → Option SVal) (eb : Nat → Nat → Int32) (en : Nat → Nat → Int32) (q_undos : Nat) (q_models : Nat) (PGv : Nat → AM) (f_afterOf : Nat → Int32) (f_actMany : Nat → Int32) (f_actOf : Nat → Int32) (f_whom : Nat → Int32) (f_hasIf : Nat → Int32) (f_becomes : Nat → Int32) (f_goneOf : Nat → Int32) (q_taped : Nat) (cr : Nat → Int) (q_people : Nat) (f_secrets : Nat → Int32) (f_lanes : Nat → Int32) (f_lengths : Nat → Int32) (f_cells : Nat → Int32) (f_tokens : Nat → Int32) (f_afters : Nat → Int32) (f_caseMany : Nat → Int32) (f_happen : Nat → Int32) (f_heard : Nat → Int32) (wsZ : va_W), ST E hx hm tl ct pe kn ac np kc mN pV kV st sn sl scx tT ec er ed eT eb en q_undos q_models PGv f_afterOf f_actMany f_actOf f_whom f_hasIf f_becomes f_goneOf q_taped cr q_people f_secrets f_lanes f_lengths f_cells f_tokens f_afters f_caseMany f_happen f_heard wsZ → RL_ tl ct pe kn ac np kc mN pV kV st sn sl scx tT ec er ed eT eb en q_undos q_models PGv f_afterOf f_actMany f_actOf f_whom f_hasIf f_becomes f_goneOf q_taped cr q_people f_secrets f_lanes f_lengths f_cells f_tokens f_afters f_caseMany f_happen f_heard → WW X 4 E 1452 [(3, .int (nI i1)), (2, .ref hm), (1, .ref hx), (0, .ref bb)] [] wsZ (kC + 4) (nC + 73)) : WW X 4 E 882 [(3, .int (nI i1)), (2, .ref hm), (1, .ref hx), (0, .ref bb)] [] ws kC nC := by
  obtain ⟨a0, ea0⟩ : ∃ z : Int32, xs (i1 + 1) = z := ⟨_, rfl⟩
  refine ww_aload_n C dL_law_882 2 rfl rfl ?_
  refine ww_aload_n C dL_law_883 3 rfl rfl ?_
  refine ww_iload_n C dL_law_884 0 rfl rfl ?_
  refine ww_iconst (v := 1) C dL_law_885 rfl ?_
  refine ww_iadd (v := (nI (i1 + 1))) C dL_law_886 (nI_add i1 1) ?_
  refine ww_sld (v := a0) C hs (vp_in_nI (by omega) (by omega)) (ldn (by omega) ea0) dL_law_887 ?_
  refine cx_lay C rfl ⟨by omega, by omega⟩ hS (fun r_1 mN_5 pV_6 ac_7 np_8 ws_2 hS_3 hE_4 => ?_)
  replace hE_4 := hd_mk hE_4
  refine ww_pop C dL_law_891 rfl ?_
  refine ww_aload_n C dL_law_892 1 rfl rfl ?_
  refine ww_aload_n C dL_law_893 3 rfl rfl ?_
  refine ww_iload_n C dL_law_894 0 rfl rfl ?_
  refine ww_iconst (v := 1) C dL_law_895 rfl ?_
  refine ww_iadd (v := (nI (i1 + 1))) C dL_law_896 (nI_add i1 1) ?_
  refine ww_sld (v := a0) C hs (vp_in_nI (by omega) (by omega)) (ldn (by omega) ea0) dL_law_897 ?_
  refine my_lay C rfl ⟨by omega, by omega⟩ hS_3 (IVQ.whi hR.2.2.2.2.2.2.2.2.2.2.2.1) (fun r_9 q_undos_13 PGv_14 ws_10 hS_11 hE_12 => ?_)
  replace hE_12 := hd_mk hE_12
  refine ww_pop C dL_law_901 rfl ?_
  refine ww_goto (tgt := 1452) C dL_law_902 (by decide) ?_
  exact ww_wid (by omega) (by omega) (kk tl ct pe kn ac_7 np_8 kc mN_5 pV_6 kV st sn sl scx tT ec er ed eT eb en q_undos_13 q_models PGv_14 f_afterOf f_actMany f_actOf f_whom f_hasIf f_becomes f_goneOf q_taped cr q_people f_secrets f_lanes f_lengths f_cells f_tokens f_afters f_caseMany f_happen f_heard _ hS_11 ⟨hR.1, hR.2.1, hR.2.2.1, hR.2.2.2.1, hR.2.2.2.2.1, hR.2.2.2.2.2.1, hR.2.2.2.2.2.2.1, hR.2.2.2.2.2.2.2.1, (re_lay hE_4 hE_12 hR (ST.tl hS)).1, (re_lay hE_4 hE_12 hR (ST.tl hS)).2, hR.2.2.2.2.2.2.2.2.2.2.1, hR.2.2.2.2.2.2.2.2.2.2.2.1, hR.2.2.2.2.2.2.2.2.2.2.2.2.1, hR.2.2.2.2.2.2.2.2.2.2.2.2.2⟩)
theorem dL_law_905 : decode cL_law 905 = .ok (.aload_n 1, 1) := dl_43 (by decide +kernel)
theorem dL_law_909 : decode cL_law 909 = .ok (.pop, 1) := dl_87 (by decide +kernel)
theorem dL_law_910 : decode cL_law 910 = .ok (.aload_n 2, 1) := dl_44 (by decide +kernel)
theorem dL_law_914 : decode cL_law 914 = .ok (.pop, 1) := dl_87 (by decide +kernel)
theorem dL_law_915 : decode cL_law 915 = .ok (.goto 537, 3) := dl_167 (by decide +kernel)
set_option maxRecDepth 100000 in
set_option maxHeartbeats 4000000 in
theorem lawc_classes {X : XT} {E : EV} {xs : Nat → Int32} {ws : va_W} {bb L hx hm i1 kC nC : Nat} {tl : Nat} {ct : Nat → Int} {pe : Nat} {kn : Int32} {ac : Nat} {np : Nat} {kc : Nat} {mN : AM} {pV : Nat → AM} {kV : Nat → AM} {st : Nat → Nat} {sn : Nat → Nat} {sl : Nat → Nat} {scx : Nat → Nat → Int32} {tT : Nat → Option SVal} {ec : Nat → Nat} {er : Nat → Nat} {ed : Nat → Nat → Int32} {eT : Nat → Nat → Option SVal} {eb : Nat → Nat → Int32} {en : Nat → Nat → Int32} {q_undos : Nat} {q_models : Nat} {PGv : Nat → AM} {f_afterOf : Nat → Int32} {f_actMany : Nat → Int32} {f_actOf : Nat → Int32} {f_whom : Nat → Int32} {f_hasIf : Nat → Int32} {f_becomes : Nat → Int32} {f_goneOf : Nat → Int32} {q_taped : Nat} {cr : Nat → Int} {q_people : Nat} {f_secrets : Nat → Int32} {f_lanes : Nat → Int32} {f_lengths : Nat → Int32} {f_cells : Nat → Int32} {f_tokens : Nat → Int32} {f_afters : Nat → Int32} {f_caseMany : Nat → Int32} {f_happen : Nat → Int32} {f_heard : Nat → Int32} (C : CX X room_1 cL_law 4 RL ret E) (hs : SX X bb L xs) (hi : i1 + 6 ≤ L) (hL : L ≤ 3072) (hk : kC + 4 ≤ 600000 ∧ nC + 73 ≤ 7302250) (hS : ST E hx hm tl ct pe kn ac np kc mN pV kV st sn sl scx tT ec er ed eT eb en q_undos q_models PGv f_afterOf f_actMany f_actOf f_whom f_hasIf f_becomes f_goneOf q_taped cr q_people f_secrets f_lanes f_lengths f_cells f_tokens f_afters f_caseMany f_happen f_heard ws) (hR : RL_ tl ct pe kn ac np kc mN pV kV st sn sl scx tT ec er ed eT eb en q_undos q_models PGv f_afterOf f_actMany f_actOf f_whom f_hasIf f_becomes f_goneOf q_taped cr q_people f_secrets f_lanes f_lengths f_cells f_tokens f_afters f_caseMany f_happen f_heard) (kk : ∀ (tl : Nat) (ct : Nat → Int) (pe : Nat) (kn : Int32) (ac : Nat) (np : Nat) (kc : Nat) (mN : AM) (pV : Nat → AM) (kV : Nat → AM) (st : Nat → Nat) (sn : Nat → Nat) (sl : Nat → Nat) (scx : Nat → Nat → Int32) (tT : Nat → Option SVal) (ec : Nat → Nat) (er : Nat → Nat) (ed : Nat → Nat → Int32) (eT : Nat → Nat → Option SVal) (eb : Nat → Nat → Int32) (en : Nat → Nat → Int32) (q_undos : Nat) (q_models : Nat) (PGv : Nat → AM) (f_afterOf : Nat → Int32) (f_actMany : Nat → Int32) (f_actOf : Nat → Int32) (f_whom : Nat → Int32) (f_hasIf : Nat → Int32) (f_becomes : Nat → Int32) (f_goneOf : Nat → Int32) (q_taped : Nat) (cr : Nat → Int) (q_people : Nat) (f_secrets : Nat → Int32) (f_lanes : Nat → Int32) (f_lengths : Nat → Int32) (f_cells : Nat → Int32) (f_tokens : Nat → Int32) (f_afters : Nat → Int32) (f_caseMany : Nat → Int32) (f_happen : Nat → Int32) (f_heard : Nat → Int32) (wsZ : va_W), ST E hx hm tl ct pe kn ac np kc mN pV kV st sn sl scx tT ec er ed eT eb en q_undos q_models PGv f_afterOf f_actMany f_actOf f_whom f_hasIf f_becomes f_goneOf q_taped cr q_people f_secrets f_lanes f_lengths f_cells f_tokens f_afters f_caseMany f_happen f_heard wsZ → RL_ tl ct pe kn ac np kc mN pV kV st sn sl scx tT ec er ed eT eb en q_undos q_models PGv f_afterOf f_actMany f_actOf f_whom f_hasIf f_becomes f_goneOf q_taped cr q_people f_secrets f_lanes f_lengths f_cells f_tokens f_afters f_caseMany f_happen f_heard → WW X 4 E 1452 [(3, .int (nI i1)), (2, .ref hm), (1, .ref hx), (0, .ref bb)] [] wsZ (kC + 4) (nC + 73)) : WW X 4 E 905 [(3, .int (nI i1)), (2, .ref hm), (1, .ref hx), (0, .ref bb)] [] ws kC nC := by
  refine ww_aload_n C dL_law_905 2 rfl rfl ?_
  refine cx_classes C rfl ⟨by omega, by omega⟩ hS (fun r_1 ws_2 hS_3 hE_4 => ?_)
  replace hE_4 := hd_mk hE_4
  refine ww_pop C dL_law_909 rfl ?_
  refine ww_aload_n C dL_law_910 1 rfl rfl ?_
  refine my_classes C rfl ⟨by omega, by omega⟩ hS_3 (fun r_5 ws_6 hS_7 hE_8 => ?_)
  replace hE_8 := hd_mk hE_8
  refine ww_pop C dL_law_914 rfl ?_
  refine ww_goto (tgt := 1452) C dL_law_915 (by decide) ?_
  exact ww_wid (by omega) (by omega) (kk tl ct pe kn ac np kc mN pV kV st sn sl scx tT ec er ed eT eb en q_undos q_models PGv f_afterOf f_actMany f_actOf f_whom f_hasIf f_becomes f_goneOf q_taped cr q_people f_secrets f_lanes f_lengths f_cells f_tokens f_afters f_caseMany f_happen f_heard _ hS_7 hR)
theorem dL_law_918 : decode cL_law 918 = .ok (.aload_n 1, 1) := dl_43 (by decide +kernel)
theorem dL_law_919 : decode cL_law 919 = .ok (.aload_n 0, 1) := dl_42 (by decide +kernel)
theorem dL_law_920 : decode cL_law 920 = .ok (.iload_n 3, 1) := dl_29 (by decide +kernel)
theorem dL_law_921 : decode cL_law 921 = .ok (.iconst 1, 1) := dl_4 (by decide +kernel)
theorem dL_law_922 : decode cL_law 922 = .ok (.iadd, 1) := dl_96 (by decide +kernel)
theorem dL_law_923 : decode cL_law 923 = .ok (.iaload, 1) := dl_46 (by decide +kernel)
theorem dL_law_927 : decode cL_law 927 = .ok (.pop, 1) := dl_87 (by decide +kernel)
theorem dL_law_928 : decode cL_law 928 = .ok (.aload_n 2, 1) := dl_44 (by decide +kernel)
theorem dL_law_929 : decode cL_law 929 = .ok (.aload_n 0, 1) := dl_42 (by decide +kernel)
theorem dL_law_930 : decode cL_law 930 = .ok (.iload_n 3, 1) := dl_29 (by decide +kernel)
theorem dL_law_931 : decode cL_law 931 = .ok (.iconst 1, 1) := dl_4 (by decide +kernel)
theorem dL_law_932 : decode cL_law 932 = .ok (.iadd, 1) := dl_96 (by decide +kernel)
theorem dL_law_933 : decode cL_law 933 = .ok (.iaload, 1) := dl_46 (by decide +kernel)
theorem dL_law_937 : decode cL_law 937 = .ok (.pop, 1) := dl_87 (by decide +kernel)
theorem dL_law_938 : decode cL_law 938 = .ok (.goto 514, 3) := dl_167 (by decide +kernel)
set_option maxRecDepth 100000 in
set_option maxHeartbeats 4000000 in
theorem lawc_classOf {X : XT} {E : EV} {xs : Nat → Int32} {ws : va_W} {bb L hx hm i1 kC nC : Nat} {tl : Nat} {ct : Nat → Int} {pe : Nat} {kn : Int32} {ac : Nat} {np : Nat} {kc : Nat} {mN : AM} {pV : Nat → AM} {kV : Nat → AM} {st : Nat → Nat} {sn : Nat → Nat} {sl : Nat → Nat} {scx : Nat → Nat → Int32} {tT : Nat → Option SVal} {ec : Nat → Nat} {er : Nat → Nat} {ed : Nat → Nat → Int32} {eT : Nat → Nat → Option SVal} {eb : Nat → Nat → Int32} {en : Nat → Nat → Int32} {q_undos : Nat} {q_models : Nat} {PGv : Nat → AM} {f_afterOf : Nat → Int32} {f_actMany : Nat → Int32} {f_actOf : Nat → Int32} {f_whom : Nat → Int32} {f_hasIf : Nat → Int32} {f_becomes : Nat → Int32} {f_goneOf : Nat → Int32} {q_taped : Nat} {cr : Nat → Int} {q_people : Nat} {f_secrets : Nat → Int32} {f_lanes : Nat → Int32} {f_lengths : Nat → Int32} {f_cells : Nat → Int32} {f_tokens : Nat → Int32} {f_afters : Nat → Int32} {f_caseMany : Nat → Int32} {f_happen : Nat → Int32} {f_heard : Nat → Int32} (C : CX X room_1 cL_law 4 RL ret E) (hs : SX X bb L xs) (hi : i1 + 6 ≤ L) (hL : L ≤ 3072) (hk : kC + 4 ≤ 600000 ∧ nC + 73 ≤ 7302250) (hS : ST E hx hm tl ct pe kn ac np kc mN pV kV st sn sl scx tT ec er ed eT eb en q_undos q_models PGv f_afterOf f_actMany f_actOf f_whom f_hasIf f_becomes f_goneOf q_taped cr q_people f_secrets f_lanes f_lengths f_cells f_tokens f_afters f_caseMany f_happen f_heard ws) (hR : RL_ tl ct pe kn ac np kc mN pV kV st sn sl scx tT ec er ed eT eb en q_undos q_models PGv f_afterOf f_actMany f_actOf f_whom f_hasIf f_becomes f_goneOf q_taped cr q_people f_secrets f_lanes f_lengths f_cells f_tokens f_afters f_caseMany f_happen f_heard) (kk : ∀ (tl : Nat) (ct : Nat → Int) (pe : Nat) (kn : Int32) (ac : Nat) (np : Nat) (kc : Nat) (mN : AM) (pV : Nat → AM) (kV : Nat → AM) (st : Nat → Nat) (sn : Nat → Nat) (sl : Nat → Nat) (scx : Nat → Nat → Int32) (tT : Nat → Option SVal) (ec : Nat → Nat) (er : Nat → Nat) (ed : Nat → Nat → Int32) (eT : Nat → Nat → Option SVal) (eb : Nat → Nat → Int32) (en : Nat → Nat → Int32) (q_undos : Nat) (q_models : Nat) (PGv : Nat → AM) (f_afterOf : Nat → Int32) (f_actMany : Nat → Int32) (f_actOf : Nat → Int32) (f_whom : Nat → Int32) (f_hasIf : Nat → Int32) (f_becomes : Nat → Int32) (f_goneOf : Nat → Int32) (q_taped : Nat) (cr : Nat → Int) (q_people : Nat) (f_secrets : Nat → Int32) (f_lanes : Nat → Int32) (f_lengths : Nat → Int32) (f_cells : Nat → Int32) (f_tokens : Nat → Int32) (f_afters : Nat → Int32) (f_caseMany : Nat → Int32) (f_happen : Nat → Int32) (f_heard : Nat → Int32) (wsZ : va_W), ST E hx hm tl ct pe kn ac np kc mN pV kV st sn sl scx tT ec er ed eT eb en q_undos q_models PGv f_afterOf f_actMany f_actOf f_whom f_hasIf f_becomes f_goneOf q_taped cr q_people f_secrets f_lanes f_lengths f_cells f_tokens f_afters f_caseMany f_happen f_heard wsZ → RL_ tl ct pe kn ac np kc mN pV kV st sn sl scx tT ec er ed eT eb en q_undos q_models PGv f_afterOf f_actMany f_actOf f_whom f_hasIf f_becomes f_goneOf q_taped cr q_people f_secrets f_lanes f_lengths f_cells f_tokens f_afters f_caseMany f_happen f_heard → WW X 4 E 1452 [(3, .int (nI i1)), (2, .ref hm), (1, .ref hx), (0, .ref bb)] [] wsZ (kC + 4) (nC + 73)) : WW X 4 E 918 [(3, .int (nI i1)), (2, .ref hm), (1, .ref hx), (0, .ref bb)] [] ws kC nC := by
  obtain ⟨a0, ea0⟩ : ∃ z : Int32, xs (i1 + 1) = z := ⟨_, rfl⟩
  refine ww_aload_n C dL_law_918 2 rfl rfl ?_
  refine ww_aload_n C dL_law_919 3 rfl rfl ?_
  refine ww_iload_n C dL_law_920 0 rfl rfl ?_
  refine ww_iconst (v := 1) C dL_law_921 rfl ?_
  refine ww_iadd (v := (nI (i1 + 1))) C dL_law_922 (nI_add i1 1) ?_
  refine ww_sld (v := a0) C hs (vp_in_nI (by omega) (by omega)) (ldn (by omega) ea0) dL_law_923 ?_
  refine cx_classOf C rfl ⟨by omega, by omega⟩ hS (fun r_1 ws_2 hS_3 hE_4 => ?_)
  replace hE_4 := hd_mk hE_4
  refine ww_pop C dL_law_927 rfl ?_
  refine ww_aload_n C dL_law_928 1 rfl rfl ?_
  refine ww_aload_n C dL_law_929 3 rfl rfl ?_
  refine ww_iload_n C dL_law_930 0 rfl rfl ?_
  refine ww_iconst (v := 1) C dL_law_931 rfl ?_
  refine ww_iadd (v := (nI (i1 + 1))) C dL_law_932 (nI_add i1 1) ?_
  refine ww_sld (v := a0) C hs (vp_in_nI (by omega) (by omega)) (ldn (by omega) ea0) dL_law_933 ?_
  refine my_classOf C rfl ⟨by omega, by omega⟩ hS_3 (fun r_5 ws_6 hS_7 hE_8 => ?_)
  replace hE_8 := hd_mk hE_8
  refine ww_pop C dL_law_937 rfl ?_
  refine ww_goto (tgt := 1452) C dL_law_938 (by decide) ?_
  exact ww_wid (by omega) (by omega) (kk tl ct pe kn ac np kc mN pV kV st sn sl scx tT ec er ed eT eb en q_undos q_models PGv f_afterOf f_actMany f_actOf f_whom f_hasIf f_becomes f_goneOf q_taped cr q_people f_secrets f_lanes f_lengths f_cells f_tokens f_afters f_caseMany f_happen f_heard _ hS_7 hR)
theorem dL_law_941 : decode cL_law 941 = .ok (.aload_n 1, 1) := dl_43 (by decide +kernel)
theorem dL_law_942 : decode cL_law 942 = .ok (.aload_n 0, 1) := dl_42 (by decide +kernel)
theorem dL_law_943 : decode cL_law 943 = .ok (.iload_n 3, 1) := dl_29 (by decide +kernel)
theorem dL_law_944 : decode cL_law 944 = .ok (.iconst 1, 1) := dl_4 (by decide +kernel)
theorem dL_law_945 : decode cL_law 945 = .ok (.iadd, 1) := dl_96 (by decide +kernel)
theorem dL_law_946 : decode cL_law 946 = .ok (.iaload, 1) := dl_46 (by decide +kernel)
theorem dL_law_947 : decode cL_law 947 = .ok (.aload_n 0, 1) := dl_42 (by decide +kernel)
theorem dL_law_948 : decode cL_law 948 = .ok (.iload_n 3, 1) := dl_29 (by decide +kernel)
theorem dL_law_949 : decode cL_law 949 = .ok (.iconst 2, 1) := dl_5 (by decide +kernel)
theorem dL_law_950 : decode cL_law 950 = .ok (.iadd, 1) := dl_96 (by decide +kernel)
theorem dL_law_951 : decode cL_law 951 = .ok (.iaload, 1) := dl_46 (by decide +kernel)
theorem dL_law_955 : decode cL_law 955 = .ok (.pop, 1) := dl_87 (by decide +kernel)
theorem dL_law_956 : decode cL_law 956 = .ok (.aload_n 2, 1) := dl_44 (by decide +kernel)
theorem dL_law_957 : decode cL_law 957 = .ok (.aload_n 0, 1) := dl_42 (by decide +kernel)
theorem dL_law_958 : decode cL_law 958 = .ok (.iload_n 3, 1) := dl_29 (by decide +kernel)
theorem dL_law_959 : decode cL_law 959 = .ok (.iconst 1, 1) := dl_4 (by decide +kernel)
theorem dL_law_960 : decode cL_law 960 = .ok (.iadd, 1) := dl_96 (by decide +kernel)
theorem dL_law_961 : decode cL_law 961 = .ok (.iaload, 1) := dl_46 (by decide +kernel)
theorem dL_law_962 : decode cL_law 962 = .ok (.aload_n 0, 1) := dl_42 (by decide +kernel)
theorem dL_law_963 : decode cL_law 963 = .ok (.iload_n 3, 1) := dl_29 (by decide +kernel)
theorem dL_law_964 : decode cL_law 964 = .ok (.iconst 2, 1) := dl_5 (by decide +kernel)
theorem dL_law_965 : decode cL_law 965 = .ok (.iadd, 1) := dl_96 (by decide +kernel)
theorem dL_law_966 : decode cL_law 966 = .ok (.iaload, 1) := dl_46 (by decide +kernel)
theorem dL_law_970 : decode cL_law 970 = .ok (.pop, 1) := dl_87 (by decide +kernel)
theorem dL_law_971 : decode cL_law 971 = .ok (.goto 481, 3) := dl_167 (by decide +kernel)
set_option maxRecDepth 100000 in
set_option maxHeartbeats 4000000 in
theorem lawc_depth {X : XT} {E : EV} {xs : Nat → Int32} {ws : va_W} {bb L hx hm i1 kC nC : Nat} {tl : Nat} {ct : Nat → Int} {pe : Nat} {kn : Int32} {ac : Nat} {np : Nat} {kc : Nat} {mN : AM} {pV : Nat → AM} {kV : Nat → AM} {st : Nat → Nat} {sn : Nat → Nat} {sl : Nat → Nat} {scx : Nat → Nat → Int32} {tT : Nat → Option SVal} {ec : Nat → Nat} {er : Nat → Nat} {ed : Nat → Nat → Int32} {eT : Nat → Nat → Option SVal} {eb : Nat → Nat → Int32} {en : Nat → Nat → Int32} {q_undos : Nat} {q_models : Nat} {PGv : Nat → AM} {f_afterOf : Nat → Int32} {f_actMany : Nat → Int32} {f_actOf : Nat → Int32} {f_whom : Nat → Int32} {f_hasIf : Nat → Int32} {f_becomes : Nat → Int32} {f_goneOf : Nat → Int32} {q_taped : Nat} {cr : Nat → Int} {q_people : Nat} {f_secrets : Nat → Int32} {f_lanes : Nat → Int32} {f_lengths : Nat → Int32} {f_cells : Nat → Int32} {f_tokens : Nat → Int32} {f_afters : Nat → Int32} {f_caseMany : Nat → Int32} {f_happen : Nat → Int32} {f_heard : Nat → Int32} (C : CX X room_1 cL_law 4 RL ret E) (hs : SX X bb L xs) (hi : i1 + 6 ≤ L) (hL : L ≤ 3072) (hk : kC + 4 ≤ 600000 ∧ nC + 73 ≤ 7302250) (hS : ST E hx hm tl ct pe kn ac np kc mN pV kV st sn sl scx tT ec er ed eT eb en q_undos q_models PGv f_afterOf f_actMany f_actOf f_whom f_hasIf f_becomes f_goneOf q_taped cr q_people f_secrets f_lanes f_lengths f_cells f_tokens f_afters f_caseMany f_happen f_heard ws) (hR : RL_ tl ct pe kn ac np kc mN pV kV st sn sl scx tT ec er ed eT eb en q_undos q_models PGv f_afterOf f_actMany f_actOf f_whom f_hasIf f_becomes f_goneOf q_taped cr q_people f_secrets f_lanes f_lengths f_cells f_tokens f_afters f_caseMany f_happen f_heard) (kk : ∀ (tl : Nat) (ct : Nat → Int) (pe : Nat) (kn : Int32) (ac : Nat) (np : Nat) (kc : Nat) (mN : AM) (pV : Nat → AM) (kV : Nat → AM) (st : Nat → Nat) (sn : Nat → Nat) (sl : Nat → Nat) (scx : Nat → Nat → Int32) (tT : Nat → Option SVal) (ec : Nat → Nat) (er : Nat → Nat) (ed : Nat → Nat → Int32) (eT : Nat → Nat → Option SVal) (eb : Nat → Nat → Int32) (en : Nat → Nat → Int32) (q_undos : Nat) (q_models : Nat) (PGv : Nat → AM) (f_afterOf : Nat → Int32) (f_actMany : Nat → Int32) (f_actOf : Nat → Int32) (f_whom : Nat → Int32) (f_hasIf : Nat → Int32) (f_becomes : Nat → Int32) (f_goneOf : Nat → Int32) (q_taped : Nat) (cr : Nat → Int) (q_people : Nat) (f_secrets : Nat → Int32) (f_lanes : Nat → Int32) (f_lengths : Nat → Int32) (f_cells : Nat → Int32) (f_tokens : Nat → Int32) (f_afters : Nat → Int32) (f_caseMany : Nat → Int32) (f_happen : Nat → Int32) (f_heard : Nat → Int32) (wsZ : va_W), ST E hx hm tl ct pe kn ac np kc mN pV kV st sn sl scx tT ec er ed eT eb en q_undos q_models PGv f_afterOf f_actMany f_actOf f_whom f_hasIf f_becomes f_goneOf q_taped cr q_people f_secrets f_lanes f_lengths f_cells f_tokens f_afters f_caseMany f_happen f_heard wsZ → RL_ tl ct pe kn ac np kc mN pV kV st sn sl scx tT ec er ed eT eb en q_undos q_models PGv f_afterOf f_actMany f_actOf f_whom f_hasIf f_becomes f_goneOf q_taped cr q_people f_secrets f_lanes f_lengths f_cells f_tokens f_afters f_caseMany f_happen f_heard → WW X 4 E 1452 [(3, .int (nI i1)), (2, .ref hm), (1, .ref hx), (0, .ref bb)] [] wsZ (kC + 4) (nC + 73)) : WW X 4 E 941 [(3, .int (nI i1)), (2, .ref hm), (1, .ref hx), (0, .ref bb)] [] ws kC nC := by
  obtain ⟨a0, ea0⟩ : ∃ z : Int32, xs (i1 + 1) = z := ⟨_, rfl⟩
  obtain ⟨a1, ea1⟩ : ∃ z : Int32, xs (i1 + 2) = z := ⟨_, rfl⟩
  refine ww_aload_n C dL_law_941 2 rfl rfl ?_
  refine ww_aload_n C dL_law_942 3 rfl rfl ?_
  refine ww_iload_n C dL_law_943 0 rfl rfl ?_
  refine ww_iconst (v := 1) C dL_law_944 rfl ?_
  refine ww_iadd (v := (nI (i1 + 1))) C dL_law_945 (nI_add i1 1) ?_
  refine ww_sld (v := a0) C hs (vp_in_nI (by omega) (by omega)) (ldn (by omega) ea0) dL_law_946 ?_
  refine ww_aload_n C dL_law_947 3 rfl rfl ?_
  refine ww_iload_n C dL_law_948 0 rfl rfl ?_
  refine ww_iconst (v := 2) C dL_law_949 rfl ?_
  refine ww_iadd (v := (nI (i1 + 2))) C dL_law_950 (nI_add i1 2) ?_
  refine ww_sld (v := a1) C hs (vp_in_nI (by omega) (by omega)) (ldn (by omega) ea1) dL_law_951 ?_
  refine cx_depth C rfl ⟨by omega, by omega⟩ hS (fun r_1 ws_2 hS_3 hE_4 => ?_)
  replace hE_4 := hd_mk hE_4
  refine ww_pop C dL_law_955 rfl ?_
  refine ww_aload_n C dL_law_956 1 rfl rfl ?_
  refine ww_aload_n C dL_law_957 3 rfl rfl ?_
  refine ww_iload_n C dL_law_958 0 rfl rfl ?_
  refine ww_iconst (v := 1) C dL_law_959 rfl ?_
  refine ww_iadd (v := (nI (i1 + 1))) C dL_law_960 (nI_add i1 1) ?_
  refine ww_sld (v := a0) C hs (vp_in_nI (by omega) (by omega)) (ldn (by omega) ea0) dL_law_961 ?_
  refine ww_aload_n C dL_law_962 3 rfl rfl ?_
  refine ww_iload_n C dL_law_963 0 rfl rfl ?_
  refine ww_iconst (v := 2) C dL_law_964 rfl ?_
  refine ww_iadd (v := (nI (i1 + 2))) C dL_law_965 (nI_add i1 2) ?_
  refine ww_sld (v := a1) C hs (vp_in_nI (by omega) (by omega)) (ldn (by omega) ea1) dL_law_966 ?_
  refine my_depth C rfl ⟨by omega, by omega⟩ hS_3 (fun r_5 ws_6 hS_7 hE_8 => ?_)
  replace hE_8 := hd_mk hE_8
  refine ww_pop C dL_law_970 rfl ?_
  refine ww_goto (tgt := 1452) C dL_law_971 (by decide) ?_
  exact ww_wid (by omega) (by omega) (kk tl ct pe kn ac np kc mN pV kV st sn sl scx tT ec er ed eT eb en q_undos q_models PGv f_afterOf f_actMany f_actOf f_whom f_hasIf f_becomes f_goneOf q_taped cr q_people f_secrets f_lanes f_lengths f_cells f_tokens f_afters f_caseMany f_happen f_heard _ hS_7 hR)
theorem dL_law_974 : decode cL_law 974 = .ok (.aload_n 1, 1) := dl_43 (by decide +kernel)
theorem dL_law_978 : decode cL_law 978 = .ok (.pop, 1) := dl_87 (by decide +kernel)
theorem dL_law_979 : decode cL_law 979 = .ok (.aload_n 2, 1) := dl_44 (by decide +kernel)
theorem dL_law_983 : decode cL_law 983 = .ok (.pop, 1) := dl_87 (by decide +kernel)
theorem dL_law_984 : decode cL_law 984 = .ok (.goto 468, 3) := dl_167 (by decide +kernel)
set_option maxRecDepth 100000 in
set_option maxHeartbeats 4000000 in
theorem lawc_melt {X : XT} {E : EV} {xs : Nat → Int32} {ws : va_W} {bb L hx hm i1 kC nC : Nat} {tl : Nat} {ct : Nat → Int} {pe : Nat} {kn : Int32} {ac : Nat} {np : Nat} {kc : Nat} {mN : AM} {pV : Nat → AM} {kV : Nat → AM} {st : Nat → Nat} {sn : Nat → Nat} {sl : Nat → Nat} {scx : Nat → Nat → Int32} {tT : Nat → Option SVal} {ec : Nat → Nat} {er : Nat → Nat} {ed : Nat → Nat → Int32} {eT : Nat → Nat → Option SVal} {eb : Nat → Nat → Int32} {en : Nat → Nat → Int32} {q_undos : Nat} {q_models : Nat} {PGv : Nat → AM} {f_afterOf : Nat → Int32} {f_actMany : Nat → Int32} {f_actOf : Nat → Int32} {f_whom : Nat → Int32} {f_hasIf : Nat → Int32} {f_becomes : Nat → Int32} {f_goneOf : Nat → Int32} {q_taped : Nat} {cr : Nat → Int} {q_people : Nat} {f_secrets : Nat → Int32} {f_lanes : Nat → Int32} {f_lengths : Nat → Int32} {f_cells : Nat → Int32} {f_tokens : Nat → Int32} {f_afters : Nat → Int32} {f_caseMany : Nat → Int32} {f_happen : Nat → Int32} {f_heard : Nat → Int32} (C : CX X room_1 cL_law 4 RL ret E) (hs : SX X bb L xs) (hi : i1 + 6 ≤ L) (hL : L ≤ 3072) (hk : kC + 4 ≤ 600000 ∧ nC + 73 ≤ 7302250) (hS : ST E hx hm tl ct pe kn ac np kc mN pV kV st sn sl scx tT ec er ed eT eb en q_undos q_models PGv f_afterOf f_actMany f_actOf f_whom f_hasIf f_becomes f_goneOf q_taped cr q_people f_secrets f_lanes f_lengths f_cells f_tokens f_afters f_caseMany f_happen f_heard ws) (hR : RL_ tl ct pe kn ac np kc mN pV kV st sn sl scx tT ec er ed eT eb en q_undos q_models PGv f_afterOf f_actMany f_actOf f_whom f_hasIf f_becomes f_goneOf q_taped cr q_people f_secrets f_lanes f_lengths f_cells f_tokens f_afters f_caseMany f_happen f_heard) (kk : ∀ (tl : Nat) (ct : Nat → Int) (pe : Nat) (kn : Int32) (ac : Nat) (np : Nat) (kc : Nat) (mN : AM) (pV : Nat → AM) (kV : Nat → AM) (st : Nat → Nat) (sn : Nat → Nat) (sl : Nat → Nat) (scx : Nat → Nat → Int32) (tT : Nat → Option SVal) (ec : Nat → Nat) (er : Nat → Nat) (ed : Nat → Nat → Int32) (eT : Nat → Nat → Option SVal) (eb : Nat → Nat → Int32) (en : Nat → Nat → Int32) (q_undos : Nat) (q_models : Nat) (PGv : Nat → AM) (f_afterOf : Nat → Int32) (f_actMany : Nat → Int32) (f_actOf : Nat → Int32) (f_whom : Nat → Int32) (f_hasIf : Nat → Int32) (f_becomes : Nat → Int32) (f_goneOf : Nat → Int32) (q_taped : Nat) (cr : Nat → Int) (q_people : Nat) (f_secrets : Nat → Int32) (f_lanes : Nat → Int32) (f_lengths : Nat → Int32) (f_cells : Nat → Int32) (f_tokens : Nat → Int32) (f_afters : Nat → Int32) (f_caseMany : Nat → Int32) (f_happen : Nat → Int32) (f_heard : Nat → Int32) (wsZ : va_W), ST E hx hm tl ct pe kn ac np kc mN pV kV st sn sl scx tT ec er ed eT eb en q_undos q_models PGv f_afterOf f_actMany f_actOf f_whom f_hasIf f_becomes f_goneOf q_taped cr q_people f_secrets f_lanes f_lengths f_cells f_tokens f_afters f_caseMany f_happen f_heard wsZ → RL_ tl ct pe kn ac np kc mN pV kV st sn sl scx tT ec er ed eT eb en q_undos q_models PGv f_afterOf f_actMany f_actOf f_whom f_hasIf f_becomes f_goneOf q_taped cr q_people f_secrets f_lanes f_lengths f_cells f_tokens f_afters f_caseMany f_happen f_heard → WW X 4 E 1452 [(3, .int (nI i1)), (2, .ref hm), (1, .ref hx), (0, .ref bb)] [] wsZ (kC + 4) (nC + 73)) : WW X 4 E 974 [(3, .int (nI i1)), (2, .ref hm), (1, .ref hx), (0, .ref bb)] [] ws kC nC := by
  refine ww_aload_n C dL_law_974 2 rfl rfl ?_
  refine cx_melt C rfl ⟨by omega, by omega⟩ hS (fun r_1 mN_5 pV_6 ac_7 np_8 ws_2 hS_3 hE_4 => ?_)
  replace hE_4 := hd_mk hE_4
  refine ww_pop C dL_law_978 rfl ?_
  refine ww_aload_n C dL_law_979 1 rfl rfl ?_
  refine my_melt C rfl ⟨by omega, by omega⟩ hS_3 (fun r_9 q_undos_13 PGv_14 ws_10 hS_11 hE_12 => ?_)
  replace hE_12 := hd_mk hE_12
  refine ww_pop C dL_law_983 rfl ?_
  refine ww_goto (tgt := 1452) C dL_law_984 (by decide) ?_
  exact ww_wid (by omega) (by omega) (kk tl ct pe kn ac_7 np_8 kc mN_5 pV_6 kV st sn sl scx tT ec er ed eT eb en q_undos_13 q_models PGv_14 f_afterOf f_actMany f_actOf f_whom f_hasIf f_becomes f_goneOf q_taped cr q_people f_secrets f_lanes f_lengths f_cells f_tokens f_afters f_caseMany f_happen f_heard _ hS_11 ⟨hR.1, hR.2.1, hR.2.2.1, hR.2.2.2.1, hR.2.2.2.2.1, hR.2.2.2.2.2.1, hR.2.2.2.2.2.2.1, hR.2.2.2.2.2.2.2.1, (re_melt hE_4 hE_12 hR (ST.tl hS)).1, (re_melt hE_4 hE_12 hR (ST.tl hS)).2, hR.2.2.2.2.2.2.2.2.2.2.1, hR.2.2.2.2.2.2.2.2.2.2.2.1, hR.2.2.2.2.2.2.2.2.2.2.2.2.1, hR.2.2.2.2.2.2.2.2.2.2.2.2.2⟩)
theorem dL_law_987 : decode cL_law 987 = .ok (.aload_n 1, 1) := dl_43 (by decide +kernel)
theorem dL_law_991 : decode cL_law 991 = .ok (.pop, 1) := dl_87 (by decide +kernel)
theorem dL_law_992 : decode cL_law 992 = .ok (.aload_n 2, 1) := dl_44 (by decide +kernel)
theorem dL_law_996 : decode cL_law 996 = .ok (.pop, 1) := dl_87 (by decide +kernel)
theorem dL_law_997 : decode cL_law 997 = .ok (.goto 455, 3) := dl_167 (by decide +kernel)
set_option maxRecDepth 100000 in
set_option maxHeartbeats 4000000 in
theorem lawc_keep {X : XT} {E : EV} {xs : Nat → Int32} {ws : va_W} {bb L hx hm i1 kC nC : Nat} {tl : Nat} {ct : Nat → Int} {pe : Nat} {kn : Int32} {ac : Nat} {np : Nat} {kc : Nat} {mN : AM} {pV : Nat → AM} {kV : Nat → AM} {st : Nat → Nat} {sn : Nat → Nat} {sl : Nat → Nat} {scx : Nat → Nat → Int32} {tT : Nat → Option SVal} {ec : Nat → Nat} {er : Nat → Nat} {ed : Nat → Nat → Int32} {eT : Nat → Nat → Option SVal} {eb : Nat → Nat → Int32} {en : Nat → Nat → Int32} {q_undos : Nat} {q_models : Nat} {PGv : Nat → AM} {f_afterOf : Nat → Int32} {f_actMany : Nat → Int32} {f_actOf : Nat → Int32} {f_whom : Nat → Int32} {f_hasIf : Nat → Int32} {f_becomes : Nat → Int32} {f_goneOf : Nat → Int32} {q_taped : Nat} {cr : Nat → Int} {q_people : Nat} {f_secrets : Nat → Int32} {f_lanes : Nat → Int32} {f_lengths : Nat → Int32} {f_cells : Nat → Int32} {f_tokens : Nat → Int32} {f_afters : Nat → Int32} {f_caseMany : Nat → Int32} {f_happen : Nat → Int32} {f_heard : Nat → Int32} (C : CX X room_1 cL_law 4 RL ret E) (hs : SX X bb L xs) (hi : i1 + 6 ≤ L) (hL : L ≤ 3072) (hk : kC + 4 ≤ 600000 ∧ nC + 73 ≤ 7302250) (hS : ST E hx hm tl ct pe kn ac np kc mN pV kV st sn sl scx tT ec er ed eT eb en q_undos q_models PGv f_afterOf f_actMany f_actOf f_whom f_hasIf f_becomes f_goneOf q_taped cr q_people f_secrets f_lanes f_lengths f_cells f_tokens f_afters f_caseMany f_happen f_heard ws) (hR : RL_ tl ct pe kn ac np kc mN pV kV st sn sl scx tT ec er ed eT eb en q_undos q_models PGv f_afterOf f_actMany f_actOf f_whom f_hasIf f_becomes f_goneOf q_taped cr q_people f_secrets f_lanes f_lengths f_cells f_tokens f_afters f_caseMany f_happen f_heard) (kk : ∀ (tl : Nat) (ct : Nat → Int) (pe : Nat) (kn : Int32) (ac : Nat) (np : Nat) (kc : Nat) (mN : AM) (pV : Nat → AM) (kV : Nat → AM) (st : Nat → Nat) (sn : Nat → Nat) (sl : Nat → Nat) (scx : Nat → Nat → Int32) (tT : Nat → Option SVal) (ec : Nat → Nat) (er : Nat → Nat) (ed : Nat → Nat → Int32) (eT : Nat → Nat → Option SVal) (eb : Nat → Nat → Int32) (en : Nat → Nat → Int32) (q_undos : Nat) (q_models : Nat) (PGv : Nat → AM) (f_afterOf : Nat → Int32) (f_actMany : Nat → Int32) (f_actOf : Nat → Int32) (f_whom : Nat → Int32) (f_hasIf : Nat → Int32) (f_becomes : Nat → Int32) (f_goneOf : Nat → Int32) (q_taped : Nat) (cr : Nat → Int) (q_people : Nat) (f_secrets : Nat → Int32) (f_lanes : Nat → Int32) (f_lengths : Nat → Int32) (f_cells : Nat → Int32) (f_tokens : Nat → Int32) (f_afters : Nat → Int32) (f_caseMany : Nat → Int32) (f_happen : Nat → Int32) (f_heard : Nat → Int32) (wsZ : va_W), ST E hx hm tl ct pe kn ac np kc mN pV kV st sn sl scx tT ec er ed eT eb en q_undos q_models PGv f_afterOf f_actMany f_actOf f_whom f_hasIf f_becomes f_goneOf q_taped cr q_people f_secrets f_lanes f_lengths f_cells f_tokens f_afters f_caseMany f_happen f_heard wsZ → RL_ tl ct pe kn ac np kc mN pV kV st sn sl scx tT ec er ed eT eb en q_undos q_models PGv f_afterOf f_actMany f_actOf f_whom f_hasIf f_becomes f_goneOf q_taped cr q_people f_secrets f_lanes f_lengths f_cells f_tokens f_afters f_caseMany f_happen f_heard → WW X 4 E 1452 [(3, .int (nI i1)), (2, .ref hm), (1, .ref hx), (0, .ref bb)] [] wsZ (kC + 4) (nC + 73)) : WW X 4 E 987 [(3, .int (nI i1)), (2, .ref hm), (1, .ref hx), (0, .ref bb)] [] ws kC nC := by
  refine ww_aload_n C dL_law_987 2 rfl rfl ?_
  refine cx_keep C rfl ⟨by omega, by omega⟩ hS (fun r_1 kV_5 kc_6 ws_2 hS_3 hE_4 => ?_)
  replace hE_4 := hd_mk hE_4
  refine ww_pop C dL_law_991 rfl ?_
  refine ww_aload_n C dL_law_992 1 rfl rfl ?_
  refine my_keep C rfl ⟨by omega, by omega⟩ hS_3 (fun r_7 q_models_11 PGv_12 ws_8 hS_9 hE_10 => ?_)
  replace hE_10 := hd_mk hE_10
  refine ww_pop C dL_law_996 rfl ?_
  refine ww_goto (tgt := 1452) C dL_law_997 (by decide) ?_
  exact ww_wid (by omega) (by omega) (kk tl ct pe kn ac np kc_6 mN pV kV_5 st sn sl scx tT ec er ed eT eb en q_undos q_models_11 PGv_12 f_afterOf f_actMany f_actOf f_whom f_hasIf f_becomes f_goneOf q_taped cr q_people f_secrets f_lanes f_lengths f_cells f_tokens f_afters f_caseMany f_happen f_heard _ hS_9 ⟨hR.1, hR.2.1, hR.2.2.1, hR.2.2.2.1, hR.2.2.2.2.1, hR.2.2.2.2.2.1, hR.2.2.2.2.2.2.1, hR.2.2.2.2.2.2.2.1, (re_keep hE_4 hE_10 hR (ST.tl hS)).1, (re_keep hE_4 hE_10 hR (ST.tl hS)).2, hR.2.2.2.2.2.2.2.2.2.2.1, hR.2.2.2.2.2.2.2.2.2.2.2.1, hR.2.2.2.2.2.2.2.2.2.2.2.2.1, hR.2.2.2.2.2.2.2.2.2.2.2.2.2⟩)
theorem dL_law_1000 : decode cL_law 1000 = .ok (.aload_n 1, 1) := dl_43 (by decide +kernel)
theorem dL_law_1001 : decode cL_law 1001 = .ok (.aload_n 0, 1) := dl_42 (by decide +kernel)
theorem dL_law_1002 : decode cL_law 1002 = .ok (.iload_n 3, 1) := dl_29 (by decide +kernel)
theorem dL_law_1003 : decode cL_law 1003 = .ok (.iconst 1, 1) := dl_4 (by decide +kernel)
theorem dL_law_1004 : decode cL_law 1004 = .ok (.iadd, 1) := dl_96 (by decide +kernel)
theorem dL_law_1005 : decode cL_law 1005 = .ok (.iaload, 1) := dl_46 (by decide +kernel)
theorem dL_law_1009 : decode cL_law 1009 = .ok (.pop, 1) := dl_87 (by decide +kernel)
theorem dL_law_1010 : decode cL_law 1010 = .ok (.aload_n 2, 1) := dl_44 (by decide +kernel)
theorem dL_law_1011 : decode cL_law 1011 = .ok (.aload_n 0, 1) := dl_42 (by decide +kernel)
theorem dL_law_1012 : decode cL_law 1012 = .ok (.iload_n 3, 1) := dl_29 (by decide +kernel)
theorem dL_law_1013 : decode cL_law 1013 = .ok (.iconst 1, 1) := dl_4 (by decide +kernel)
theorem dL_law_1014 : decode cL_law 1014 = .ok (.iadd, 1) := dl_96 (by decide +kernel)
theorem dL_law_1015 : decode cL_law 1015 = .ok (.iaload, 1) := dl_46 (by decide +kernel)
theorem dL_law_1019 : decode cL_law 1019 = .ok (.pop, 1) := dl_87 (by decide +kernel)
theorem dL_law_1020 : decode cL_law 1020 = .ok (.goto 432, 3) := dl_167 (by decide +kernel)
set_option maxRecDepth 100000 in
set_option maxHeartbeats 4000000 in
theorem lawc_stand {X : XT} {E : EV} {xs : Nat → Int32} {ws : va_W} {bb L hx hm i1 kC nC : Nat} {tl : Nat} {ct : Nat → Int} {pe : Nat} {kn : Int32} {ac : Nat} {np : Nat} {kc : Nat} {mN : AM} {pV : Nat → AM} {kV : Nat → AM} {st : Nat → Nat} {sn : Nat → Nat} {sl : Nat → Nat} {scx : Nat → Nat → Int32} {tT : Nat → Option SVal} {ec : Nat → Nat} {er : Nat → Nat} {ed : Nat → Nat → Int32} {eT : Nat → Nat → Option SVal} {eb : Nat → Nat → Int32} {en : Nat → Nat → Int32} {q_undos : Nat} {q_models : Nat} {PGv : Nat → AM} {f_afterOf : Nat → Int32} {f_actMany : Nat → Int32} {f_actOf : Nat → Int32} {f_whom : Nat → Int32} {f_hasIf : Nat → Int32} {f_becomes : Nat → Int32} {f_goneOf : Nat → Int32} {q_taped : Nat} {cr : Nat → Int} {q_people : Nat} {f_secrets : Nat → Int32} {f_lanes : Nat → Int32} {f_lengths : Nat → Int32} {f_cells : Nat → Int32} {f_tokens : Nat → Int32} {f_afters : Nat → Int32} {f_caseMany : Nat → Int32} {f_happen : Nat → Int32} {f_heard : Nat → Int32} (C : CX X room_1 cL_law 4 RL ret E) (hs : SX X bb L xs) (hi : i1 + 6 ≤ L) (hL : L ≤ 3072) (hk : kC + 4 ≤ 600000 ∧ nC + 73 ≤ 7302250) (hS : ST E hx hm tl ct pe kn ac np kc mN pV kV st sn sl scx tT ec er ed eT eb en q_undos q_models PGv f_afterOf f_actMany f_actOf f_whom f_hasIf f_becomes f_goneOf q_taped cr q_people f_secrets f_lanes f_lengths f_cells f_tokens f_afters f_caseMany f_happen f_heard ws) (hR : RL_ tl ct pe kn ac np kc mN pV kV st sn sl scx tT ec er ed eT eb en q_undos q_models PGv f_afterOf f_actMany f_actOf f_whom f_hasIf f_becomes f_goneOf q_taped cr q_people f_secrets f_lanes f_lengths f_cells f_tokens f_afters f_caseMany f_happen f_heard) (kk : ∀ (tl : Nat) (ct : Nat → Int) (pe : Nat) (kn : Int32) (ac : Nat) (np : Nat) (kc : Nat) (mN : AM) (pV : Nat → AM) (kV : Nat → AM) (st : Nat → Nat) (sn : Nat → Nat) (sl : Nat → Nat) (scx : Nat → Nat → Int32) (tT : Nat → Option SVal) (ec : Nat → Nat) (er : Nat → Nat) (ed : Nat → Nat → Int32) (eT : Nat → Nat → Option SVal) (eb : Nat → Nat → Int32) (en : Nat → Nat → Int32) (q_undos : Nat) (q_models : Nat) (PGv : Nat → AM) (f_afterOf : Nat → Int32) (f_actMany : Nat → Int32) (f_actOf : Nat → Int32) (f_whom : Nat → Int32) (f_hasIf : Nat → Int32) (f_becomes : Nat → Int32) (f_goneOf : Nat → Int32) (q_taped : Nat) (cr : Nat → Int) (q_people : Nat) (f_secrets : Nat → Int32) (f_lanes : Nat → Int32) (f_lengths : Nat → Int32) (f_cells : Nat → Int32) (f_tokens : Nat → Int32) (f_afters : Nat → Int32) (f_caseMany : Nat → Int32) (f_happen : Nat → Int32) (f_heard : Nat → Int32) (wsZ : va_W), ST E hx hm tl ct pe kn ac np kc mN pV kV st sn sl scx tT ec er ed eT eb en q_undos q_models PGv f_afterOf f_actMany f_actOf f_whom f_hasIf f_becomes f_goneOf q_taped cr q_people f_secrets f_lanes f_lengths f_cells f_tokens f_afters f_caseMany f_happen f_heard wsZ → RL_ tl ct pe kn ac np kc mN pV kV st sn sl scx tT ec er ed eT eb en q_undos q_models PGv f_afterOf f_actMany f_actOf f_whom f_hasIf f_becomes f_goneOf q_taped cr q_people f_secrets f_lanes f_lengths f_cells f_tokens f_afters f_caseMany f_happen f_heard → WW X 4 E 1452 [(3, .int (nI i1)), (2, .ref hm), (1, .ref hx), (0, .ref bb)] [] wsZ (kC + 4) (nC + 73)) : WW X 4 E 1000 [(3, .int (nI i1)), (2, .ref hm), (1, .ref hx), (0, .ref bb)] [] ws kC nC := by
  obtain ⟨a0, ea0⟩ : ∃ z : Int32, xs (i1 + 1) = z := ⟨_, rfl⟩
  refine ww_aload_n C dL_law_1000 2 rfl rfl ?_
  refine ww_aload_n C dL_law_1001 3 rfl rfl ?_
  refine ww_iload_n C dL_law_1002 0 rfl rfl ?_
  refine ww_iconst (v := 1) C dL_law_1003 rfl ?_
  refine ww_iadd (v := (nI (i1 + 1))) C dL_law_1004 (nI_add i1 1) ?_
  refine ww_sld (v := a0) C hs (vp_in_nI (by omega) (by omega)) (ldn (by omega) ea0) dL_law_1005 ?_
  refine cx_stand C rfl ⟨by omega, by omega⟩ hS (fun r_1 mN_5 pV_6 ac_7 np_8 ws_2 hS_3 hE_4 => ?_)
  replace hE_4 := hd_mk hE_4
  refine ww_pop C dL_law_1009 rfl ?_
  refine ww_aload_n C dL_law_1010 1 rfl rfl ?_
  refine ww_aload_n C dL_law_1011 3 rfl rfl ?_
  refine ww_iload_n C dL_law_1012 0 rfl rfl ?_
  refine ww_iconst (v := 1) C dL_law_1013 rfl ?_
  refine ww_iadd (v := (nI (i1 + 1))) C dL_law_1014 (nI_add i1 1) ?_
  refine ww_sld (v := a0) C hs (vp_in_nI (by omega) (by omega)) (ldn (by omega) ea0) dL_law_1015 ?_
  refine my_stand C rfl ⟨by omega, by omega⟩ hS_3 (fun r_9 q_undos_13 PGv_14 ws_10 hS_11 hE_12 => ?_)
  replace hE_12 := hd_mk hE_12
  refine ww_pop C dL_law_1019 rfl ?_
  refine ww_goto (tgt := 1452) C dL_law_1020 (by decide) ?_
  exact ww_wid (by omega) (by omega) (kk tl ct pe kn ac_7 np_8 kc mN_5 pV_6 kV st sn sl scx tT ec er ed eT eb en q_undos_13 q_models PGv_14 f_afterOf f_actMany f_actOf f_whom f_hasIf f_becomes f_goneOf q_taped cr q_people f_secrets f_lanes f_lengths f_cells f_tokens f_afters f_caseMany f_happen f_heard _ hS_11 ⟨hR.1, hR.2.1, hR.2.2.1, hR.2.2.2.1, hR.2.2.2.2.1, hR.2.2.2.2.2.1, hR.2.2.2.2.2.2.1, hR.2.2.2.2.2.2.2.1, (re_stand hE_4 hE_12 hR (ST.tl hS)).1, (re_stand hE_4 hE_12 hR (ST.tl hS)).2, hR.2.2.2.2.2.2.2.2.2.2.1, hR.2.2.2.2.2.2.2.2.2.2.2.1, hR.2.2.2.2.2.2.2.2.2.2.2.2.1, hR.2.2.2.2.2.2.2.2.2.2.2.2.2⟩)
theorem dL_law_1023 : decode cL_law 1023 = .ok (.aload_n 1, 1) := dl_43 (by decide +kernel)
theorem dL_law_1024 : decode cL_law 1024 = .ok (.aload_n 0, 1) := dl_42 (by decide +kernel)
theorem dL_law_1025 : decode cL_law 1025 = .ok (.iload_n 3, 1) := dl_29 (by decide +kernel)
theorem dL_law_1026 : decode cL_law 1026 = .ok (.iconst 1, 1) := dl_4 (by decide +kernel)
theorem dL_law_1027 : decode cL_law 1027 = .ok (.iadd, 1) := dl_96 (by decide +kernel)
theorem dL_law_1028 : decode cL_law 1028 = .ok (.iaload, 1) := dl_46 (by decide +kernel)
theorem dL_law_1032 : decode cL_law 1032 = .ok (.pop, 1) := dl_87 (by decide +kernel)
theorem dL_law_1033 : decode cL_law 1033 = .ok (.aload_n 2, 1) := dl_44 (by decide +kernel)
theorem dL_law_1034 : decode cL_law 1034 = .ok (.aload_n 0, 1) := dl_42 (by decide +kernel)
theorem dL_law_1035 : decode cL_law 1035 = .ok (.iload_n 3, 1) := dl_29 (by decide +kernel)
theorem dL_law_1036 : decode cL_law 1036 = .ok (.iconst 1, 1) := dl_4 (by decide +kernel)
theorem dL_law_1037 : decode cL_law 1037 = .ok (.iadd, 1) := dl_96 (by decide +kernel)
theorem dL_law_1038 : decode cL_law 1038 = .ok (.iaload, 1) := dl_46 (by decide +kernel)
theorem dL_law_1042 : decode cL_law 1042 = .ok (.pop, 1) := dl_87 (by decide +kernel)
theorem dL_law_1043 : decode cL_law 1043 = .ok (.goto 409, 3) := dl_167 (by decide +kernel)
set_option maxRecDepth 100000 in
set_option maxHeartbeats 4000000 in
theorem lawc_same {X : XT} {E : EV} {xs : Nat → Int32} {ws : va_W} {bb L hx hm i1 kC nC : Nat} {tl : Nat} {ct : Nat → Int} {pe : Nat} {kn : Int32} {ac : Nat} {np : Nat} {kc : Nat} {mN : AM} {pV : Nat → AM} {kV : Nat → AM} {st : Nat → Nat} {sn : Nat → Nat} {sl : Nat → Nat} {scx : Nat → Nat → Int32} {tT : Nat → Option SVal} {ec : Nat → Nat} {er : Nat → Nat} {ed : Nat → Nat → Int32} {eT : Nat → Nat → Option SVal} {eb : Nat → Nat → Int32} {en : Nat → Nat → Int32} {q_undos : Nat} {q_models : Nat} {PGv : Nat → AM} {f_afterOf : Nat → Int32} {f_actMany : Nat → Int32} {f_actOf : Nat → Int32} {f_whom : Nat → Int32} {f_hasIf : Nat → Int32} {f_becomes : Nat → Int32} {f_goneOf : Nat → Int32} {q_taped : Nat} {cr : Nat → Int} {q_people : Nat} {f_secrets : Nat → Int32} {f_lanes : Nat → Int32} {f_lengths : Nat → Int32} {f_cells : Nat → Int32} {f_tokens : Nat → Int32} {f_afters : Nat → Int32} {f_caseMany : Nat → Int32} {f_happen : Nat → Int32} {f_heard : Nat → Int32} (C : CX X room_1 cL_law 4 RL ret E) (hs : SX X bb L xs) (hi : i1 + 6 ≤ L) (hL : L ≤ 3072) (hk : kC + 4 ≤ 600000 ∧ nC + 73 ≤ 7302250) (hS : ST E hx hm tl ct pe kn ac np kc mN pV kV st sn sl scx tT ec er ed eT eb en q_undos q_models PGv f_afterOf f_actMany f_actOf f_whom f_hasIf f_becomes f_goneOf q_taped cr q_people f_secrets f_lanes f_lengths f_cells f_tokens f_afters f_caseMany f_happen f_heard ws) (hR : RL_ tl ct pe kn ac np kc mN pV kV st sn sl scx tT ec er ed eT eb en q_undos q_models PGv f_afterOf f_actMany f_actOf f_whom f_hasIf f_becomes f_goneOf q_taped cr q_people f_secrets f_lanes f_lengths f_cells f_tokens f_afters f_caseMany f_happen f_heard) (kk : ∀ (tl : Nat) (ct : Nat → Int) (pe : Nat) (kn : Int32) (ac : Nat) (np : Nat) (kc : Nat) (mN : AM) (pV : Nat → AM) (kV : Nat → AM) (st : Nat → Nat) (sn : Nat → Nat) (sl : Nat → Nat) (scx : Nat → Nat → Int32) (tT : Nat → Option SVal) (ec : Nat → Nat) (er : Nat → Nat) (ed : Nat → Nat → Int32) (eT : Nat → Nat → Option SVal) (eb : Nat → Nat → Int32) (en : Nat → Nat → Int32) (q_undos : Nat) (q_models : Nat) (PGv : Nat → AM) (f_afterOf : Nat → Int32) (f_actMany : Nat → Int32) (f_actOf : Nat → Int32) (f_whom : Nat → Int32) (f_hasIf : Nat → Int32) (f_becomes : Nat → Int32) (f_goneOf : Nat → Int32) (q_taped : Nat) (cr : Nat → Int) (q_people : Nat) (f_secrets : Nat → Int32) (f_lanes : Nat → Int32) (f_lengths : Nat → Int32) (f_cells : Nat → Int32) (f_tokens : Nat → Int32) (f_afters : Nat → Int32) (f_caseMany : Nat → Int32) (f_happen : Nat → Int32) (f_heard : Nat → Int32) (wsZ : va_W), ST E hx hm tl ct pe kn ac np kc mN pV kV st sn sl scx tT ec er ed eT eb en q_undos q_models PGv f_afterOf f_actMany f_actOf f_whom f_hasIf f_becomes f_goneOf q_taped cr q_people f_secrets f_lanes f_lengths f_cells f_tokens f_afters f_caseMany f_happen f_heard wsZ → RL_ tl ct pe kn ac np kc mN pV kV st sn sl scx tT ec er ed eT eb en q_undos q_models PGv f_afterOf f_actMany f_actOf f_whom f_hasIf f_becomes f_goneOf q_taped cr q_people f_secrets f_lanes f_lengths f_cells f_tokens f_afters f_caseMany f_happen f_heard → WW X 4 E 1452 [(3, .int (nI i1)), (2, .ref hm), (1, .ref hx), (0, .ref bb)] [] wsZ (kC + 4) (nC + 73)) : WW X 4 E 1023 [(3, .int (nI i1)), (2, .ref hm), (1, .ref hx), (0, .ref bb)] [] ws kC nC := by
  obtain ⟨a0, ea0⟩ : ∃ z : Int32, xs (i1 + 1) = z := ⟨_, rfl⟩
  refine ww_aload_n C dL_law_1023 2 rfl rfl ?_
  refine ww_aload_n C dL_law_1024 3 rfl rfl ?_
  refine ww_iload_n C dL_law_1025 0 rfl rfl ?_
  refine ww_iconst (v := 1) C dL_law_1026 rfl ?_
  refine ww_iadd (v := (nI (i1 + 1))) C dL_law_1027 (nI_add i1 1) ?_
  refine ww_sld (v := a0) C hs (vp_in_nI (by omega) (by omega)) (ldn (by omega) ea0) dL_law_1028 ?_
  refine cx_same C rfl ⟨by omega, by omega⟩ hS (fun r_1 ws_2 hS_3 hE_4 => ?_)
  replace hE_4 := hd_mk hE_4
  refine ww_pop C dL_law_1032 rfl ?_
  refine ww_aload_n C dL_law_1033 1 rfl rfl ?_
  refine ww_aload_n C dL_law_1034 3 rfl rfl ?_
  refine ww_iload_n C dL_law_1035 0 rfl rfl ?_
  refine ww_iconst (v := 1) C dL_law_1036 rfl ?_
  refine ww_iadd (v := (nI (i1 + 1))) C dL_law_1037 (nI_add i1 1) ?_
  refine ww_sld (v := a0) C hs (vp_in_nI (by omega) (by omega)) (ldn (by omega) ea0) dL_law_1038 ?_
  refine my_same C rfl ⟨by omega, by omega⟩ hS_3 (KEQ.n hR.2.2.2.2.2.2.2.2.2.1) (fun r_5 ws_6 hS_7 hE_8 => ?_)
  replace hE_8 := hd_mk hE_8
  refine ww_pop C dL_law_1042 rfl ?_
  refine ww_goto (tgt := 1452) C dL_law_1043 (by decide) ?_
  exact ww_wid (by omega) (by omega) (kk tl ct pe kn ac np kc mN pV kV st sn sl scx tT ec er ed eT eb en q_undos q_models PGv f_afterOf f_actMany f_actOf f_whom f_hasIf f_becomes f_goneOf q_taped cr q_people f_secrets f_lanes f_lengths f_cells f_tokens f_afters f_caseMany f_happen f_heard _ hS_7 hR)
theorem dL_law_1046 : decode cL_law 1046 = .ok (.aload_n 1, 1) := dl_43 (by decide +kernel)
theorem dL_law_1047 : decode cL_law 1047 = .ok (.aload_n 0, 1) := dl_42 (by decide +kernel)
theorem dL_law_1048 : decode cL_law 1048 = .ok (.iload_n 3, 1) := dl_29 (by decide +kernel)
theorem dL_law_1049 : decode cL_law 1049 = .ok (.iconst 1, 1) := dl_4 (by decide +kernel)
theorem dL_law_1050 : decode cL_law 1050 = .ok (.iadd, 1) := dl_96 (by decide +kernel)
theorem dL_law_1051 : decode cL_law 1051 = .ok (.iaload, 1) := dl_46 (by decide +kernel)
theorem dL_law_1052 : decode cL_law 1052 = .ok (.aload_n 0, 1) := dl_42 (by decide +kernel)
theorem dL_law_1053 : decode cL_law 1053 = .ok (.iload_n 3, 1) := dl_29 (by decide +kernel)
theorem dL_law_1054 : decode cL_law 1054 = .ok (.iconst 2, 1) := dl_5 (by decide +kernel)
theorem dL_law_1055 : decode cL_law 1055 = .ok (.iadd, 1) := dl_96 (by decide +kernel)
theorem dL_law_1056 : decode cL_law 1056 = .ok (.iaload, 1) := dl_46 (by decide +kernel)
theorem dL_law_1060 : decode cL_law 1060 = .ok (.pop, 1) := dl_87 (by decide +kernel)
theorem dL_law_1061 : decode cL_law 1061 = .ok (.aload_n 2, 1) := dl_44 (by decide +kernel)
theorem dL_law_1062 : decode cL_law 1062 = .ok (.aload_n 0, 1) := dl_42 (by decide +kernel)
theorem dL_law_1063 : decode cL_law 1063 = .ok (.iload_n 3, 1) := dl_29 (by decide +kernel)
theorem dL_law_1064 : decode cL_law 1064 = .ok (.iconst 1, 1) := dl_4 (by decide +kernel)
theorem dL_law_1065 : decode cL_law 1065 = .ok (.iadd, 1) := dl_96 (by decide +kernel)
theorem dL_law_1066 : decode cL_law 1066 = .ok (.iaload, 1) := dl_46 (by decide +kernel)
theorem dL_law_1067 : decode cL_law 1067 = .ok (.aload_n 0, 1) := dl_42 (by decide +kernel)
theorem dL_law_1068 : decode cL_law 1068 = .ok (.iload_n 3, 1) := dl_29 (by decide +kernel)
theorem dL_law_1069 : decode cL_law 1069 = .ok (.iconst 2, 1) := dl_5 (by decide +kernel)
theorem dL_law_1070 : decode cL_law 1070 = .ok (.iadd, 1) := dl_96 (by decide +kernel)
theorem dL_law_1071 : decode cL_law 1071 = .ok (.iaload, 1) := dl_46 (by decide +kernel)
theorem dL_law_1075 : decode cL_law 1075 = .ok (.pop, 1) := dl_87 (by decide +kernel)
theorem dL_law_1076 : decode cL_law 1076 = .ok (.goto 376, 3) := dl_167 (by decide +kernel)
set_option maxRecDepth 100000 in
set_option maxHeartbeats 4000000 in
theorem lawc_turn {X : XT} {E : EV} {xs : Nat → Int32} {ws : va_W} {bb L hx hm i1 kC nC : Nat} {tl : Nat} {ct : Nat → Int} {pe : Nat} {kn : Int32} {ac : Nat} {np : Nat} {kc : Nat} {mN : AM} {pV : Nat → AM} {kV : Nat → AM} {st : Nat → Nat} {sn : Nat → Nat} {sl : Nat → Nat} {scx : Nat → Nat → Int32} {tT : Nat → Option SVal} {ec : Nat → Nat} {er : Nat → Nat} {ed : Nat → Nat → Int32} {eT : Nat → Nat → Option SVal} {eb : Nat → Nat → Int32} {en : Nat → Nat → Int32} {q_undos : Nat} {q_models : Nat} {PGv : Nat → AM} {f_afterOf : Nat → Int32} {f_actMany : Nat → Int32} {f_actOf : Nat → Int32} {f_whom : Nat → Int32} {f_hasIf : Nat → Int32} {f_becomes : Nat → Int32} {f_goneOf : Nat → Int32} {q_taped : Nat} {cr : Nat → Int} {q_people : Nat} {f_secrets : Nat → Int32} {f_lanes : Nat → Int32} {f_lengths : Nat → Int32} {f_cells : Nat → Int32} {f_tokens : Nat → Int32} {f_afters : Nat → Int32} {f_caseMany : Nat → Int32} {f_happen : Nat → Int32} {f_heard : Nat → Int32} (C : CX X room_1 cL_law 4 RL ret E) (hs : SX X bb L xs) (hi : i1 + 6 ≤ L) (hL : L ≤ 3072) (hk : kC + 4 ≤ 600000 ∧ nC + 73 ≤ 7302250) (hS : ST E hx hm tl ct pe kn ac np kc mN pV kV st sn sl scx tT ec er ed eT eb en q_undos q_models PGv f_afterOf f_actMany f_actOf f_whom f_hasIf f_becomes f_goneOf q_taped cr q_people f_secrets f_lanes f_lengths f_cells f_tokens f_afters f_caseMany f_happen f_heard ws) (hR : RL_ tl ct pe kn ac np kc mN pV kV st sn sl scx tT ec er ed eT eb en q_undos q_models PGv f_afterOf f_actMany f_actOf f_whom f_hasIf f_becomes f_goneOf q_taped cr q_people f_secrets f_lanes f_lengths f_cells f_tokens f_afters f_caseMany f_happen f_heard) (kk : ∀ (tl : Nat) (ct : Nat → Int) (pe : Nat) (kn : Int32) (ac : Nat) (np : Nat) (kc : Nat) (mN : AM) (pV : Nat → AM) (kV : Nat → AM) (st : Nat → Nat) (sn : Nat → Nat) (sl : Nat → Nat) (scx : Nat → Nat → Int32) (tT : Nat → Option SVal) (ec : Nat → Nat) (er : Nat → Nat) (ed : Nat → Nat → Int32) (eT : Nat → Nat → Option SVal) (eb : Nat → Nat → Int32) (en : Nat → Nat → Int32) (q_undos : Nat) (q_models : Nat) (PGv : Nat → AM) (f_afterOf : Nat → Int32) (f_actMany : Nat → Int32) (f_actOf : Nat → Int32) (f_whom : Nat → Int32) (f_hasIf : Nat → Int32) (f_becomes : Nat → Int32) (f_goneOf : Nat → Int32) (q_taped : Nat) (cr : Nat → Int) (q_people : Nat) (f_secrets : Nat → Int32) (f_lanes : Nat → Int32) (f_lengths : Nat → Int32) (f_cells : Nat → Int32) (f_tokens : Nat → Int32) (f_afters : Nat → Int32) (f_caseMany : Nat → Int32) (f_happen : Nat → Int32) (f_heard : Nat → Int32) (wsZ : va_W), ST E hx hm tl ct pe kn ac np kc mN pV kV st sn sl scx tT ec er ed eT eb en q_undos q_models PGv f_afterOf f_actMany f_actOf f_whom f_hasIf f_becomes f_goneOf q_taped cr q_people f_secrets f_lanes f_lengths f_cells f_tokens f_afters f_caseMany f_happen f_heard wsZ → RL_ tl ct pe kn ac np kc mN pV kV st sn sl scx tT ec er ed eT eb en q_undos q_models PGv f_afterOf f_actMany f_actOf f_whom f_hasIf f_becomes f_goneOf q_taped cr q_people f_secrets f_lanes f_lengths f_cells f_tokens f_afters f_caseMany f_happen f_heard → WW X 4 E 1452 [(3, .int (nI i1)), (2, .ref hm), (1, .ref hx), (0, .ref bb)] [] wsZ (kC + 4) (nC + 73)) : WW X 4 E 1046 [(3, .int (nI i1)), (2, .ref hm), (1, .ref hx), (0, .ref bb)] [] ws kC nC := by
  obtain ⟨a0, ea0⟩ : ∃ z : Int32, xs (i1 + 1) = z := ⟨_, rfl⟩
  obtain ⟨a1, ea1⟩ : ∃ z : Int32, xs (i1 + 2) = z := ⟨_, rfl⟩
  refine ww_aload_n C dL_law_1046 2 rfl rfl ?_
  refine ww_aload_n C dL_law_1047 3 rfl rfl ?_
  refine ww_iload_n C dL_law_1048 0 rfl rfl ?_
  refine ww_iconst (v := 1) C dL_law_1049 rfl ?_
  refine ww_iadd (v := (nI (i1 + 1))) C dL_law_1050 (nI_add i1 1) ?_
  refine ww_sld (v := a0) C hs (vp_in_nI (by omega) (by omega)) (ldn (by omega) ea0) dL_law_1051 ?_
  refine ww_aload_n C dL_law_1052 3 rfl rfl ?_
  refine ww_iload_n C dL_law_1053 0 rfl rfl ?_
  refine ww_iconst (v := 2) C dL_law_1054 rfl ?_
  refine ww_iadd (v := (nI (i1 + 2))) C dL_law_1055 (nI_add i1 2) ?_
  refine ww_sld (v := a1) C hs (vp_in_nI (by omega) (by omega)) (ldn (by omega) ea1) dL_law_1056 ?_
  refine cx_turn C rfl ⟨by omega, by omega⟩ hS (fun r_1 mN_5 pV_6 ac_7 np_8 ws_2 hS_3 hE_4 => ?_)
  replace hE_4 := hd_mk hE_4
  refine ww_pop C dL_law_1060 rfl ?_
  refine ww_aload_n C dL_law_1061 1 rfl rfl ?_
  refine ww_aload_n C dL_law_1062 3 rfl rfl ?_
  refine ww_iload_n C dL_law_1063 0 rfl rfl ?_
  refine ww_iconst (v := 1) C dL_law_1064 rfl ?_
  refine ww_iadd (v := (nI (i1 + 1))) C dL_law_1065 (nI_add i1 1) ?_
  refine ww_sld (v := a0) C hs (vp_in_nI (by omega) (by omega)) (ldn (by omega) ea0) dL_law_1066 ?_
  refine ww_aload_n C dL_law_1067 3 rfl rfl ?_
  refine ww_iload_n C dL_law_1068 0 rfl rfl ?_
  refine ww_iconst (v := 2) C dL_law_1069 rfl ?_
  refine ww_iadd (v := (nI (i1 + 2))) C dL_law_1070 (nI_add i1 2) ?_
  refine ww_sld (v := a1) C hs (vp_in_nI (by omega) (by omega)) (ldn (by omega) ea1) dL_law_1071 ?_
  refine my_turn C rfl ⟨by omega, by omega⟩ hS_3 (IVQ.whi hR.2.2.2.2.2.2.2.2.2.2.2.1) (TVQ.wht hR.2.2.2.2.2.2.2.2.2.2.1) (fun r_9 q_undos_13 PGv_14 ws_10 hS_11 hE_12 => ?_)
  replace hE_12 := hd_mk hE_12
  refine ww_pop C dL_law_1075 rfl ?_
  refine ww_goto (tgt := 1452) C dL_law_1076 (by decide) ?_
  exact ww_wid (by omega) (by omega) (kk tl ct pe kn ac_7 np_8 kc mN_5 pV_6 kV st sn sl scx tT ec er ed eT eb en q_undos_13 q_models PGv_14 f_afterOf f_actMany f_actOf f_whom f_hasIf f_becomes f_goneOf q_taped cr q_people f_secrets f_lanes f_lengths f_cells f_tokens f_afters f_caseMany f_happen f_heard _ hS_11 ⟨hR.1, hR.2.1, hR.2.2.1, hR.2.2.2.1, hR.2.2.2.2.1, hR.2.2.2.2.2.1, hR.2.2.2.2.2.2.1, hR.2.2.2.2.2.2.2.1, (re_turn hE_4 hE_12 hR (ST.tl hS)).1, (re_turn hE_4 hE_12 hR (ST.tl hS)).2, hR.2.2.2.2.2.2.2.2.2.2.1, hR.2.2.2.2.2.2.2.2.2.2.2.1, hR.2.2.2.2.2.2.2.2.2.2.2.2.1, hR.2.2.2.2.2.2.2.2.2.2.2.2.2⟩)
theorem dL_law_1079 : decode cL_law 1079 = .ok (.aload_n 1, 1) := dl_43 (by decide +kernel)
theorem dL_law_1080 : decode cL_law 1080 = .ok (.aload_n 0, 1) := dl_42 (by decide +kernel)
theorem dL_law_1081 : decode cL_law 1081 = .ok (.iload_n 3, 1) := dl_29 (by decide +kernel)
theorem dL_law_1082 : decode cL_law 1082 = .ok (.iconst 1, 1) := dl_4 (by decide +kernel)
theorem dL_law_1083 : decode cL_law 1083 = .ok (.iadd, 1) := dl_96 (by decide +kernel)
theorem dL_law_1084 : decode cL_law 1084 = .ok (.iaload, 1) := dl_46 (by decide +kernel)
theorem dL_law_1085 : decode cL_law 1085 = .ok (.aload_n 0, 1) := dl_42 (by decide +kernel)
theorem dL_law_1086 : decode cL_law 1086 = .ok (.iload_n 3, 1) := dl_29 (by decide +kernel)
theorem dL_law_1087 : decode cL_law 1087 = .ok (.iconst 2, 1) := dl_5 (by decide +kernel)
theorem dL_law_1088 : decode cL_law 1088 = .ok (.iadd, 1) := dl_96 (by decide +kernel)
theorem dL_law_1089 : decode cL_law 1089 = .ok (.iaload, 1) := dl_46 (by decide +kernel)
theorem dL_law_1090 : decode cL_law 1090 = .ok (.aload_n 0, 1) := dl_42 (by decide +kernel)
theorem dL_law_1091 : decode cL_law 1091 = .ok (.iload_n 3, 1) := dl_29 (by decide +kernel)
theorem dL_law_1092 : decode cL_law 1092 = .ok (.iconst 3, 1) := dl_6 (by decide +kernel)
theorem dL_law_1093 : decode cL_law 1093 = .ok (.iadd, 1) := dl_96 (by decide +kernel)
theorem dL_law_1094 : decode cL_law 1094 = .ok (.iaload, 1) := dl_46 (by decide +kernel)
theorem dL_law_1098 : decode cL_law 1098 = .ok (.pop, 1) := dl_87 (by decide +kernel)
theorem dL_law_1099 : decode cL_law 1099 = .ok (.aload_n 2, 1) := dl_44 (by decide +kernel)
theorem dL_law_1100 : decode cL_law 1100 = .ok (.aload_n 0, 1) := dl_42 (by decide +kernel)
theorem dL_law_1101 : decode cL_law 1101 = .ok (.iload_n 3, 1) := dl_29 (by decide +kernel)
theorem dL_law_1102 : decode cL_law 1102 = .ok (.iconst 1, 1) := dl_4 (by decide +kernel)
theorem dL_law_1103 : decode cL_law 1103 = .ok (.iadd, 1) := dl_96 (by decide +kernel)
theorem dL_law_1104 : decode cL_law 1104 = .ok (.iaload, 1) := dl_46 (by decide +kernel)
theorem dL_law_1105 : decode cL_law 1105 = .ok (.aload_n 0, 1) := dl_42 (by decide +kernel)
theorem dL_law_1106 : decode cL_law 1106 = .ok (.iload_n 3, 1) := dl_29 (by decide +kernel)
theorem dL_law_1107 : decode cL_law 1107 = .ok (.iconst 2, 1) := dl_5 (by decide +kernel)
theorem dL_law_1108 : decode cL_law 1108 = .ok (.iadd, 1) := dl_96 (by decide +kernel)
theorem dL_law_1109 : decode cL_law 1109 = .ok (.iaload, 1) := dl_46 (by decide +kernel)
theorem dL_law_1110 : decode cL_law 1110 = .ok (.aload_n 0, 1) := dl_42 (by decide +kernel)
theorem dL_law_1111 : decode cL_law 1111 = .ok (.iload_n 3, 1) := dl_29 (by decide +kernel)
theorem dL_law_1112 : decode cL_law 1112 = .ok (.iconst 3, 1) := dl_6 (by decide +kernel)
theorem dL_law_1113 : decode cL_law 1113 = .ok (.iadd, 1) := dl_96 (by decide +kernel)
theorem dL_law_1114 : decode cL_law 1114 = .ok (.iaload, 1) := dl_46 (by decide +kernel)
theorem dL_law_1118 : decode cL_law 1118 = .ok (.pop, 1) := dl_87 (by decide +kernel)
theorem dL_law_1119 : decode cL_law 1119 = .ok (.goto 333, 3) := dl_167 (by decide +kernel)
set_option maxRecDepth 100000 in
set_option maxHeartbeats 4000000 in
theorem lawc_turns {X : XT} {E : EV} {xs : Nat → Int32} {ws : va_W} {bb L hx hm i1 kC nC : Nat} {tl : Nat} {ct : Nat → Int} {pe : Nat} {kn : Int32} {ac : Nat} {np : Nat} {kc : Nat} {mN : AM} {pV : Nat → AM} {kV : Nat → AM} {st : Nat → Nat} {sn : Nat → Nat} {sl : Nat → Nat} {scx : Nat → Nat → Int32} {tT : Nat → Option SVal} {ec : Nat → Nat} {er : Nat → Nat} {ed : Nat → Nat → Int32} {eT : Nat → Nat → Option SVal} {eb : Nat → Nat → Int32} {en : Nat → Nat → Int32} {q_undos : Nat} {q_models : Nat} {PGv : Nat → AM} {f_afterOf : Nat → Int32} {f_actMany : Nat → Int32} {f_actOf : Nat → Int32} {f_whom : Nat → Int32} {f_hasIf : Nat → Int32} {f_becomes : Nat → Int32} {f_goneOf : Nat → Int32} {q_taped : Nat} {cr : Nat → Int} {q_people : Nat} {f_secrets : Nat → Int32} {f_lanes : Nat → Int32} {f_lengths : Nat → Int32} {f_cells : Nat → Int32} {f_tokens : Nat → Int32} {f_afters : Nat → Int32} {f_caseMany : Nat → Int32} {f_happen : Nat → Int32} {f_heard : Nat → Int32} (C : CX X room_1 cL_law 4 RL ret E) (hs : SX X bb L xs) (hi : i1 + 6 ≤ L) (hL : L ≤ 3072) (hk : kC + 4 ≤ 600000 ∧ nC + 73 ≤ 7302250) (hS : ST E hx hm tl ct pe kn ac np kc mN pV kV st sn sl scx tT ec er ed eT eb en q_undos q_models PGv f_afterOf f_actMany f_actOf f_whom f_hasIf f_becomes f_goneOf q_taped cr q_people f_secrets f_lanes f_lengths f_cells f_tokens f_afters f_caseMany f_happen f_heard ws) (hR : RL_ tl ct pe kn ac np kc mN pV kV st sn sl scx tT ec er ed eT eb en q_undos q_models PGv f_afterOf f_actMany f_actOf f_whom f_hasIf f_becomes f_goneOf q_taped cr q_people f_secrets f_lanes f_lengths f_cells f_tokens f_afters f_caseMany f_happen f_heard) (kk : ∀ (tl : Nat) (ct : Nat → Int) (pe : Nat) (kn : Int32) (ac : Nat) (np : Nat) (kc : Nat) (mN : AM) (pV : Nat → AM) (kV : Nat → AM) (st : Nat → Nat) (sn : Nat → Nat) (sl : Nat → Nat) (scx : Nat → Nat → Int32) (tT : Nat → Option SVal) (ec : Nat → Nat) (er : Nat → Nat) (ed : Nat → Nat → Int32) (eT : Nat → Nat → Option SVal) (eb : Nat → Nat → Int32) (en : Nat → Nat → Int32) (q_undos : Nat) (q_models : Nat) (PGv : Nat → AM) (f_afterOf : Nat → Int32) (f_actMany : Nat → Int32) (f_actOf : Nat → Int32) (f_whom : Nat → Int32) (f_hasIf : Nat → Int32) (f_becomes : Nat → Int32) (f_goneOf : Nat → Int32) (q_taped : Nat) (cr : Nat → Int) (q_people : Nat) (f_secrets : Nat → Int32) (f_lanes : Nat → Int32) (f_lengths : Nat → Int32) (f_cells : Nat → Int32) (f_tokens : Nat → Int32) (f_afters : Nat → Int32) (f_caseMany : Nat → Int32) (f_happen : Nat → Int32) (f_heard : Nat → Int32) (wsZ : va_W), ST E hx hm tl ct pe kn ac np kc mN pV kV st sn sl scx tT ec er ed eT eb en q_undos q_models PGv f_afterOf f_actMany f_actOf f_whom f_hasIf f_becomes f_goneOf q_taped cr q_people f_secrets f_lanes f_lengths f_cells f_tokens f_afters f_caseMany f_happen f_heard wsZ → RL_ tl ct pe kn ac np kc mN pV kV st sn sl scx tT ec er ed eT eb en q_undos q_models PGv f_afterOf f_actMany f_actOf f_whom f_hasIf f_becomes f_goneOf q_taped cr q_people f_secrets f_lanes f_lengths f_cells f_tokens f_afters f_caseMany f_happen f_heard → WW X 4 E 1452 [(3, .int (nI i1)), (2, .ref hm), (1, .ref hx), (0, .ref bb)] [] wsZ (kC + 4) (nC + 73)) : WW X 4 E 1079 [(3, .int (nI i1)), (2, .ref hm), (1, .ref hx), (0, .ref bb)] [] ws kC nC := by
  obtain ⟨a0, ea0⟩ : ∃ z : Int32, xs (i1 + 1) = z := ⟨_, rfl⟩
  obtain ⟨a1, ea1⟩ : ∃ z : Int32, xs (i1 + 2) = z := ⟨_, rfl⟩
  obtain ⟨a2, ea2⟩ : ∃ z : Int32, xs (i1 + 3) = z := ⟨_, rfl⟩
  refine ww_aload_n C dL_law_1079 2 rfl rfl ?_
  refine ww_aload_n C dL_law_1080 3 rfl rfl ?_
  refine ww_iload_n C dL_law_1081 0 rfl rfl ?_
  refine ww_iconst (v := 1) C dL_law_1082 rfl ?_
  refine ww_iadd (v := (nI (i1 + 1))) C dL_law_1083 (nI_add i1 1) ?_
  refine ww_sld (v := a0) C hs (vp_in_nI (by omega) (by omega)) (ldn (by omega) ea0) dL_law_1084 ?_
  refine ww_aload_n C dL_law_1085 3 rfl rfl ?_
  refine ww_iload_n C dL_law_1086 0 rfl rfl ?_
  refine ww_iconst (v := 2) C dL_law_1087 rfl ?_
  refine ww_iadd (v := (nI (i1 + 2))) C dL_law_1088 (nI_add i1 2) ?_
  refine ww_sld (v := a1) C hs (vp_in_nI (by omega) (by omega)) (ldn (by omega) ea1) dL_law_1089 ?_
  refine ww_aload_n C dL_law_1090 3 rfl rfl ?_
  refine ww_iload_n C dL_law_1091 0 rfl rfl ?_
  refine ww_iconst (v := 3) C dL_law_1092 rfl ?_
  refine ww_iadd (v := (nI (i1 + 3))) C dL_law_1093 (nI_add i1 3) ?_
  refine ww_sld (v := a2) C hs (vp_in_nI (by omega) (by omega)) (ldn (by omega) ea2) dL_law_1094 ?_
  refine cx_turns C rfl ⟨by omega, by omega⟩ hS (fun r_1 ws_2 hS_3 hE_4 => ?_)
  replace hE_4 := hd_mk hE_4
  refine ww_pop C dL_law_1098 rfl ?_
  refine ww_aload_n C dL_law_1099 1 rfl rfl ?_
  refine ww_aload_n C dL_law_1100 3 rfl rfl ?_
  refine ww_iload_n C dL_law_1101 0 rfl rfl ?_
  refine ww_iconst (v := 1) C dL_law_1102 rfl ?_
  refine ww_iadd (v := (nI (i1 + 1))) C dL_law_1103 (nI_add i1 1) ?_
  refine ww_sld (v := a0) C hs (vp_in_nI (by omega) (by omega)) (ldn (by omega) ea0) dL_law_1104 ?_
  refine ww_aload_n C dL_law_1105 3 rfl rfl ?_
  refine ww_iload_n C dL_law_1106 0 rfl rfl ?_
  refine ww_iconst (v := 2) C dL_law_1107 rfl ?_
  refine ww_iadd (v := (nI (i1 + 2))) C dL_law_1108 (nI_add i1 2) ?_
  refine ww_sld (v := a1) C hs (vp_in_nI (by omega) (by omega)) (ldn (by omega) ea1) dL_law_1109 ?_
  refine ww_aload_n C dL_law_1110 3 rfl rfl ?_
  refine ww_iload_n C dL_law_1111 0 rfl rfl ?_
  refine ww_iconst (v := 3) C dL_law_1112 rfl ?_
  refine ww_iadd (v := (nI (i1 + 3))) C dL_law_1113 (nI_add i1 3) ?_
  refine ww_sld (v := a2) C hs (vp_in_nI (by omega) (by omega)) (ldn (by omega) ea2) dL_law_1114 ?_
  refine my_turns C rfl ⟨by omega, by omega⟩ hS_3 (IVQ.whi hR.2.2.2.2.2.2.2.2.2.2.2.1) (TVQ.wht hR.2.2.2.2.2.2.2.2.2.2.1) (fun r_5 PGv_9 ws_6 hS_7 hE_8 => ?_)
  replace hE_8 := hd_mk hE_8
  refine ww_pop C dL_law_1118 rfl ?_
  refine ww_goto (tgt := 1452) C dL_law_1119 (by decide) ?_
  exact ww_wid (by omega) (by omega) (kk tl ct pe kn ac np kc mN pV kV st sn sl scx tT ec er ed eT eb en q_undos q_models PGv_9 f_afterOf f_actMany f_actOf f_whom f_hasIf f_becomes f_goneOf q_taped cr q_people f_secrets f_lanes f_lengths f_cells f_tokens f_afters f_caseMany f_happen f_heard _ hS_7 ⟨hR.1, hR.2.1, hR.2.2.1, hR.2.2.2.1, hR.2.2.2.2.1, hR.2.2.2.2.2.1, hR.2.2.2.2.2.2.1, hR.2.2.2.2.2.2.2.1, (re_turns hE_4 hE_8 hR (ST.tl hS)).1, (re_turns hE_4 hE_8 hR (ST.tl hS)).2, hR.2.2.2.2.2.2.2.2.2.2.1, hR.2.2.2.2.2.2.2.2.2.2.2.1, hR.2.2.2.2.2.2.2.2.2.2.2.2.1, hR.2.2.2.2.2.2.2.2.2.2.2.2.2⟩)
theorem dL_law_1122 : decode cL_law 1122 = .ok (.aload_n 1, 1) := dl_43 (by decide +kernel)
theorem dL_law_1123 : decode cL_law 1123 = .ok (.aload_n 0, 1) := dl_42 (by decide +kernel)
theorem dL_law_1124 : decode cL_law 1124 = .ok (.iload_n 3, 1) := dl_29 (by decide +kernel)
theorem dL_law_1125 : decode cL_law 1125 = .ok (.iconst 1, 1) := dl_4 (by decide +kernel)
theorem dL_law_1126 : decode cL_law 1126 = .ok (.iadd, 1) := dl_96 (by decide +kernel)
theorem dL_law_1127 : decode cL_law 1127 = .ok (.iaload, 1) := dl_46 (by decide +kernel)
theorem dL_law_1128 : decode cL_law 1128 = .ok (.aload_n 0, 1) := dl_42 (by decide +kernel)
theorem dL_law_1129 : decode cL_law 1129 = .ok (.iload_n 3, 1) := dl_29 (by decide +kernel)
theorem dL_law_1130 : decode cL_law 1130 = .ok (.iconst 2, 1) := dl_5 (by decide +kernel)
theorem dL_law_1131 : decode cL_law 1131 = .ok (.iadd, 1) := dl_96 (by decide +kernel)
theorem dL_law_1132 : decode cL_law 1132 = .ok (.iaload, 1) := dl_46 (by decide +kernel)
theorem dL_law_1133 : decode cL_law 1133 = .ok (.aload_n 0, 1) := dl_42 (by decide +kernel)
theorem dL_law_1134 : decode cL_law 1134 = .ok (.iload_n 3, 1) := dl_29 (by decide +kernel)
theorem dL_law_1135 : decode cL_law 1135 = .ok (.iconst 3, 1) := dl_6 (by decide +kernel)
theorem dL_law_1136 : decode cL_law 1136 = .ok (.iadd, 1) := dl_96 (by decide +kernel)
theorem dL_law_1137 : decode cL_law 1137 = .ok (.iaload, 1) := dl_46 (by decide +kernel)
theorem dL_law_1138 : decode cL_law 1138 = .ok (.aload_n 0, 1) := dl_42 (by decide +kernel)
theorem dL_law_1139 : decode cL_law 1139 = .ok (.iload_n 3, 1) := dl_29 (by decide +kernel)
theorem dL_law_1140 : decode cL_law 1140 = .ok (.iconst 4, 1) := dl_7 (by decide +kernel)
theorem dL_law_1141 : decode cL_law 1141 = .ok (.iadd, 1) := dl_96 (by decide +kernel)
theorem dL_law_1142 : decode cL_law 1142 = .ok (.iaload, 1) := dl_46 (by decide +kernel)
theorem dL_law_1146 : decode cL_law 1146 = .ok (.pop, 1) := dl_87 (by decide +kernel)
theorem dL_law_1147 : decode cL_law 1147 = .ok (.aload_n 2, 1) := dl_44 (by decide +kernel)
theorem dL_law_1148 : decode cL_law 1148 = .ok (.aload_n 0, 1) := dl_42 (by decide +kernel)
theorem dL_law_1149 : decode cL_law 1149 = .ok (.iload_n 3, 1) := dl_29 (by decide +kernel)
theorem dL_law_1150 : decode cL_law 1150 = .ok (.iconst 1, 1) := dl_4 (by decide +kernel)
theorem dL_law_1151 : decode cL_law 1151 = .ok (.iadd, 1) := dl_96 (by decide +kernel)
theorem dL_law_1152 : decode cL_law 1152 = .ok (.iaload, 1) := dl_46 (by decide +kernel)
theorem dL_law_1153 : decode cL_law 1153 = .ok (.aload_n 0, 1) := dl_42 (by decide +kernel)
theorem dL_law_1154 : decode cL_law 1154 = .ok (.iload_n 3, 1) := dl_29 (by decide +kernel)
theorem dL_law_1155 : decode cL_law 1155 = .ok (.iconst 2, 1) := dl_5 (by decide +kernel)
theorem dL_law_1156 : decode cL_law 1156 = .ok (.iadd, 1) := dl_96 (by decide +kernel)
theorem dL_law_1157 : decode cL_law 1157 = .ok (.iaload, 1) := dl_46 (by decide +kernel)
theorem dL_law_1158 : decode cL_law 1158 = .ok (.aload_n 0, 1) := dl_42 (by decide +kernel)
theorem dL_law_1159 : decode cL_law 1159 = .ok (.iload_n 3, 1) := dl_29 (by decide +kernel)
theorem dL_law_1160 : decode cL_law 1160 = .ok (.iconst 3, 1) := dl_6 (by decide +kernel)
theorem dL_law_1161 : decode cL_law 1161 = .ok (.iadd, 1) := dl_96 (by decide +kernel)
theorem dL_law_1162 : decode cL_law 1162 = .ok (.iaload, 1) := dl_46 (by decide +kernel)
theorem dL_law_1163 : decode cL_law 1163 = .ok (.aload_n 0, 1) := dl_42 (by decide +kernel)
theorem dL_law_1164 : decode cL_law 1164 = .ok (.iload_n 3, 1) := dl_29 (by decide +kernel)
theorem dL_law_1165 : decode cL_law 1165 = .ok (.iconst 4, 1) := dl_7 (by decide +kernel)
theorem dL_law_1166 : decode cL_law 1166 = .ok (.iadd, 1) := dl_96 (by decide +kernel)
theorem dL_law_1167 : decode cL_law 1167 = .ok (.iaload, 1) := dl_46 (by decide +kernel)
theorem dL_law_1171 : decode cL_law 1171 = .ok (.pop, 1) := dl_87 (by decide +kernel)
theorem dL_law_1172 : decode cL_law 1172 = .ok (.goto 280, 3) := dl_167 (by decide +kernel)
set_option maxRecDepth 100000 in
set_option maxHeartbeats 4000000 in
theorem lawc_plan {X : XT} {E : EV} {xs : Nat → Int32} {ws : va_W} {bb L hx hm i1 kC nC : Nat} {tl : Nat} {ct : Nat → Int} {pe : Nat} {kn : Int32} {ac : Nat} {np : Nat} {kc : Nat} {mN : AM} {pV : Nat → AM} {kV : Nat → AM} {st : Nat → Nat} {sn : Nat → Nat} {sl : Nat → Nat} {scx : Nat → Nat → Int32} {tT : Nat → Option SVal} {ec : Nat → Nat} {er : Nat → Nat} {ed : Nat → Nat → Int32} {eT : Nat → Nat → Option SVal} {eb : Nat → Nat → Int32} {en : Nat → Nat → Int32} {q_undos : Nat} {q_models : Nat} {PGv : Nat → AM} {f_afterOf : Nat → Int32} {f_actMany : Nat → Int32} {f_actOf : Nat → Int32} {f_whom : Nat → Int32} {f_hasIf : Nat → Int32} {f_becomes : Nat → Int32} {f_goneOf : Nat → Int32} {q_taped : Nat} {cr : Nat → Int} {q_people : Nat} {f_secrets : Nat → Int32} {f_lanes : Nat → Int32} {f_lengths : Nat → Int32} {f_cells : Nat → Int32} {f_tokens : Nat → Int32} {f_afters : Nat → Int32} {f_caseMany : Nat → Int32} {f_happen : Nat → Int32} {f_heard : Nat → Int32} (C : CX X room_1 cL_law 4 RL ret E) (hs : SX X bb L xs) (hi : i1 + 6 ≤ L) (hL : L ≤ 3072) (hk : kC + 4 ≤ 600000 ∧ nC + 73 ≤ 7302250) (hS : ST E hx hm tl ct pe kn ac np kc mN pV kV st sn sl scx tT ec er ed eT eb en q_undos q_models PGv f_afterOf f_actMany f_actOf f_whom f_hasIf f_becomes f_goneOf q_taped cr q_people f_secrets f_lanes f_lengths f_cells f_tokens f_afters f_caseMany f_happen f_heard ws) (hR : RL_ tl ct pe kn ac np kc mN pV kV st sn sl scx tT ec er ed eT eb en q_undos q_models PGv f_afterOf f_actMany f_actOf f_whom f_hasIf f_becomes f_goneOf q_taped cr q_people f_secrets f_lanes f_lengths f_cells f_tokens f_afters f_caseMany f_happen f_heard) (kk : ∀ (tl : Nat) (ct : Nat → Int) (pe : Nat) (kn : Int32) (ac : Nat) (np : Nat) (kc : Nat) (mN : AM) (pV : Nat → AM) (kV : Nat → AM) (st : Nat → Nat) (sn : Nat → Nat) (sl : Nat → Nat) (scx : Nat → Nat → Int32) (tT : Nat → Option SVal) (ec : Nat → Nat) (er : Nat → Nat) (ed : Nat → Nat → Int32) (eT : Nat → Nat → Option SVal) (eb : Nat → Nat → Int32) (en : Nat → Nat → Int32) (q_undos : Nat) (q_models : Nat) (PGv : Nat → AM) (f_afterOf : Nat → Int32) (f_actMany : Nat → Int32) (f_actOf : Nat → Int32) (f_whom : Nat → Int32) (f_hasIf : Nat → Int32) (f_becomes : Nat → Int32) (f_goneOf : Nat → Int32) (q_taped : Nat) (cr : Nat → Int) (q_people : Nat) (f_secrets : Nat → Int32) (f_lanes : Nat → Int32) (f_lengths : Nat → Int32) (f_cells : Nat → Int32) (f_tokens : Nat → Int32) (f_afters : Nat → Int32) (f_caseMany : Nat → Int32) (f_happen : Nat → Int32) (f_heard : Nat → Int32) (wsZ : va_W), ST E hx hm tl ct pe kn ac np kc mN pV kV st sn sl scx tT ec er ed eT eb en q_undos q_models PGv f_afterOf f_actMany f_actOf f_whom f_hasIf f_becomes f_goneOf q_taped cr q_people f_secrets f_lanes f_lengths f_cells f_tokens f_afters f_caseMany f_happen f_heard wsZ → RL_ tl ct pe kn ac np kc mN pV kV st sn sl scx tT ec er ed eT eb en q_undos q_models PGv f_afterOf f_actMany f_actOf f_whom f_hasIf f_becomes f_goneOf q_taped cr q_people f_secrets f_lanes f_lengths f_cells f_tokens f_afters f_caseMany f_happen f_heard → WW X 4 E 1452 [(3, .int (nI i1)), (2, .ref hm), (1, .ref hx), (0, .ref bb)] [] wsZ (kC + 4) (nC + 73)) : WW X 4 E 1122 [(3, .int (nI i1)), (2, .ref hm), (1, .ref hx), (0, .ref bb)] [] ws kC nC := by
  obtain ⟨a0, ea0⟩ : ∃ z : Int32, xs (i1 + 1) = z := ⟨_, rfl⟩
  obtain ⟨a1, ea1⟩ : ∃ z : Int32, xs (i1 + 2) = z := ⟨_, rfl⟩
  obtain ⟨a2, ea2⟩ : ∃ z : Int32, xs (i1 + 3) = z := ⟨_, rfl⟩
  obtain ⟨a3, ea3⟩ : ∃ z : Int32, xs (i1 + 4) = z := ⟨_, rfl⟩
  refine ww_aload_n C dL_law_1122 2 rfl rfl ?_
  refine ww_aload_n C dL_law_1123 3 rfl rfl ?_
  refine ww_iload_n C dL_law_1124 0 rfl rfl ?_
  refine ww_iconst (v := 1) C dL_law_1125 rfl ?_
  refine ww_iadd (v := (nI (i1 + 1))) C dL_law_1126 (nI_add i1 1) ?_
  refine ww_sld (v := a0) C hs (vp_in_nI (by omega) (by omega)) (ldn (by omega) ea0) dL_law_1127 ?_
  refine ww_aload_n C dL_law_1128 3 rfl rfl ?_
  refine ww_iload_n C dL_law_1129 0 rfl rfl ?_
  refine ww_iconst (v := 2) C dL_law_1130 rfl ?_
  refine ww_iadd (v := (nI (i1 + 2))) C dL_law_1131 (nI_add i1 2) ?_
  refine ww_sld (v := a1) C hs (vp_in_nI (by omega) (by omega)) (ldn (by omega) ea1) dL_law_1132 ?_
  refine ww_aload_n C dL_law_1133 3 rfl rfl ?_
  refine ww_iload_n C dL_law_1134 0 rfl rfl ?_
  refine ww_iconst (v := 3) C dL_law_1135 rfl ?_
  refine ww_iadd (v := (nI (i1 + 3))) C dL_law_1136 (nI_add i1 3) ?_
  refine ww_sld (v := a2) C hs (vp_in_nI (by omega) (by omega)) (ldn (by omega) ea2) dL_law_1137 ?_
  refine ww_aload_n C dL_law_1138 3 rfl rfl ?_
  refine ww_iload_n C dL_law_1139 0 rfl rfl ?_
  refine ww_iconst (v := 4) C dL_law_1140 rfl ?_
  refine ww_iadd (v := (nI (i1 + 4))) C dL_law_1141 (nI_add i1 4) ?_
  refine ww_sld (v := a3) C hs (vp_in_nI (by omega) (by omega)) (ldn (by omega) ea3) dL_law_1142 ?_
  refine cx_plan C rfl ⟨by omega, by omega⟩ hS (fun r_1 ws_2 hS_3 hE_4 => ?_)
  replace hE_4 := hd_mk hE_4
  refine ww_pop C dL_law_1146 rfl ?_
  refine ww_aload_n C dL_law_1147 1 rfl rfl ?_
  refine ww_aload_n C dL_law_1148 3 rfl rfl ?_
  refine ww_iload_n C dL_law_1149 0 rfl rfl ?_
  refine ww_iconst (v := 1) C dL_law_1150 rfl ?_
  refine ww_iadd (v := (nI (i1 + 1))) C dL_law_1151 (nI_add i1 1) ?_
  refine ww_sld (v := a0) C hs (vp_in_nI (by omega) (by omega)) (ldn (by omega) ea0) dL_law_1152 ?_
  refine ww_aload_n C dL_law_1153 3 rfl rfl ?_
  refine ww_iload_n C dL_law_1154 0 rfl rfl ?_
  refine ww_iconst (v := 2) C dL_law_1155 rfl ?_
  refine ww_iadd (v := (nI (i1 + 2))) C dL_law_1156 (nI_add i1 2) ?_
  refine ww_sld (v := a1) C hs (vp_in_nI (by omega) (by omega)) (ldn (by omega) ea1) dL_law_1157 ?_
  refine ww_aload_n C dL_law_1158 3 rfl rfl ?_
  refine ww_iload_n C dL_law_1159 0 rfl rfl ?_
  refine ww_iconst (v := 3) C dL_law_1160 rfl ?_
  refine ww_iadd (v := (nI (i1 + 3))) C dL_law_1161 (nI_add i1 3) ?_
  refine ww_sld (v := a2) C hs (vp_in_nI (by omega) (by omega)) (ldn (by omega) ea2) dL_law_1162 ?_
  refine ww_aload_n C dL_law_1163 3 rfl rfl ?_
  refine ww_iload_n C dL_law_1164 0 rfl rfl ?_
  refine ww_iconst (v := 4) C dL_law_1165 rfl ?_
  refine ww_iadd (v := (nI (i1 + 4))) C dL_law_1166 (nI_add i1 4) ?_
  refine ww_sld (v := a3) C hs (vp_in_nI (by omega) (by omega)) (ldn (by omega) ea3) dL_law_1167 ?_
  refine my_plan C rfl ⟨by omega, by omega⟩ hS_3 (IVQ.whi hR.2.2.2.2.2.2.2.2.2.2.2.1) (TVQ.wht hR.2.2.2.2.2.2.2.2.2.2.1) (fun r_5 PGv_9 ws_6 hS_7 hE_8 => ?_)
  replace hE_8 := hd_mk hE_8
  refine ww_pop C dL_law_1171 rfl ?_
  refine ww_goto (tgt := 1452) C dL_law_1172 (by decide) ?_
  exact ww_wid (by omega) (by omega) (kk tl ct pe kn ac np kc mN pV kV st sn sl scx tT ec er ed eT eb en q_undos q_models PGv_9 f_afterOf f_actMany f_actOf f_whom f_hasIf f_becomes f_goneOf q_taped cr q_people f_secrets f_lanes f_lengths f_cells f_tokens f_afters f_caseMany f_happen f_heard _ hS_7 ⟨hR.1, hR.2.1, hR.2.2.1, hR.2.2.2.1, hR.2.2.2.2.1, hR.2.2.2.2.2.1, hR.2.2.2.2.2.2.1, hR.2.2.2.2.2.2.2.1, (re_plan hE_4 hE_8 hR (ST.tl hS)).1, (re_plan hE_4 hE_8 hR (ST.tl hS)).2, hR.2.2.2.2.2.2.2.2.2.2.1, hR.2.2.2.2.2.2.2.2.2.2.2.1, hR.2.2.2.2.2.2.2.2.2.2.2.2.1, hR.2.2.2.2.2.2.2.2.2.2.2.2.2⟩)
end
section
theorem dL_law_1175 : decode cL_law 1175 = .ok (.aload_n 1, 1) := dl_43 (by decide +kernel)
theorem dL_law_1176 : decode cL_law 1176 = .ok (.aload_n 0, 1) := dl_42 (by decide +kernel)
theorem dL_law_1177 : decode cL_law 1177 = .ok (.iload_n 3, 1) := dl_29 (by decide +kernel)
theorem dL_law_1178 : decode cL_law 1178 = .ok (.iconst 1, 1) := dl_4 (by decide +kernel)
theorem dL_law_1179 : decode cL_law 1179 = .ok (.iadd, 1) := dl_96 (by decide +kernel)
theorem dL_law_1180 : decode cL_law 1180 = .ok (.iaload, 1) := dl_46 (by decide +kernel)
theorem dL_law_1184 : decode cL_law 1184 = .ok (.pop, 1) := dl_87 (by decide +kernel)
theorem dL_law_1185 : decode cL_law 1185 = .ok (.aload_n 2, 1) := dl_44 (by decide +kernel)
theorem dL_law_1186 : decode cL_law 1186 = .ok (.aload_n 0, 1) := dl_42 (by decide +kernel)
theorem dL_law_1187 : decode cL_law 1187 = .ok (.iload_n 3, 1) := dl_29 (by decide +kernel)
theorem dL_law_1188 : decode cL_law 1188 = .ok (.iconst 1, 1) := dl_4 (by decide +kernel)
theorem dL_law_1189 : decode cL_law 1189 = .ok (.iadd, 1) := dl_96 (by decide +kernel)
theorem dL_law_1190 : decode cL_law 1190 = .ok (.iaload, 1) := dl_46 (by decide +kernel)
theorem dL_law_1194 : decode cL_law 1194 = .ok (.pop, 1) := dl_87 (by decide +kernel)
theorem dL_law_1195 : decode cL_law 1195 = .ok (.goto 257, 3) := dl_167 (by decide +kernel)
set_option maxRecDepth 100000 in
set_option maxHeartbeats 4000000 in
theorem lawc_people {X : XT} {E : EV} {xs : Nat → Int32} {ws : va_W} {bb L hx hm i1 kC nC : Nat} {tl : Nat} {ct : Nat → Int} {pe : Nat} {kn : Int32} {ac : Nat} {np : Nat} {kc : Nat} {mN : AM} {pV : Nat → AM} {kV : Nat → AM} {st : Nat → Nat} {sn : Nat → Nat} {sl : Nat → Nat} {scx : Nat → Nat → Int32} {tT : Nat → Option SVal} {ec : Nat → Nat} {er : Nat → Nat} {ed : Nat → Nat → Int32} {eT : Nat → Nat → Option SVal} {eb : Nat → Nat → Int32} {en : Nat → Nat → Int32} {q_undos : Nat} {q_models : Nat} {PGv : Nat → AM} {f_afterOf : Nat → Int32} {f_actMany : Nat → Int32} {f_actOf : Nat → Int32} {f_whom : Nat → Int32} {f_hasIf : Nat → Int32} {f_becomes : Nat → Int32} {f_goneOf : Nat → Int32} {q_taped : Nat} {cr : Nat → Int} {q_people : Nat} {f_secrets : Nat → Int32} {f_lanes : Nat → Int32} {f_lengths : Nat → Int32} {f_cells : Nat → Int32} {f_tokens : Nat → Int32} {f_afters : Nat → Int32} {f_caseMany : Nat → Int32} {f_happen : Nat → Int32} {f_heard : Nat → Int32} (C : CX X room_1 cL_law 4 RL ret E) (hs : SX X bb L xs) (hi : i1 + 6 ≤ L) (hL : L ≤ 3072) (hk : kC + 4 ≤ 600000 ∧ nC + 73 ≤ 7302250) (hS : ST E hx hm tl ct pe kn ac np kc mN pV kV st sn sl scx tT ec er ed eT eb en q_undos q_models PGv f_afterOf f_actMany f_actOf f_whom f_hasIf f_becomes f_goneOf q_taped cr q_people f_secrets f_lanes f_lengths f_cells f_tokens f_afters f_caseMany f_happen f_heard ws) (hR : RL_ tl ct pe kn ac np kc mN pV kV st sn sl scx tT ec er ed eT eb en q_undos q_models PGv f_afterOf f_actMany f_actOf f_whom f_hasIf f_becomes f_goneOf q_taped cr q_people f_secrets f_lanes f_lengths f_cells f_tokens f_afters f_caseMany f_happen f_heard) (kk : ∀ (tl : Nat) (ct : Nat → Int) (pe : Nat) (kn : Int32) (ac : Nat) (np : Nat) (kc : Nat) (mN : AM) (pV : Nat → AM) (kV : Nat → AM) (st : Nat → Nat) (sn : Nat → Nat) (sl : Nat → Nat) (scx : Nat → Nat → Int32) (tT : Nat → Option SVal) (ec : Nat → Nat) (er : Nat → Nat) (ed : Nat → Nat → Int32) (eT : Nat → Nat → Option SVal) (eb : Nat → Nat → Int32) (en : Nat → Nat → Int32) (q_undos : Nat) (q_models : Nat) (PGv : Nat → AM) (f_afterOf : Nat → Int32) (f_actMany : Nat → Int32) (f_actOf : Nat → Int32) (f_whom : Nat → Int32) (f_hasIf : Nat → Int32) (f_becomes : Nat → Int32) (f_goneOf : Nat → Int32) (q_taped : Nat) (cr : Nat → Int) (q_people : Nat) (f_secrets : Nat → Int32) (f_lanes : Nat → Int32) (f_lengths : Nat → Int32) (f_cells : Nat → Int32) (f_tokens : Nat → Int32) (f_afters : Nat → Int32) (f_caseMany : Nat → Int32) (f_happen : Nat → Int32) (f_heard : Nat → Int32) (wsZ : va_W), ST E hx hm tl ct pe kn ac np kc mN pV kV st sn sl scx tT ec er ed eT eb en q_undos q_models PGv f_afterOf f_actMany f_actOf f_whom f_hasIf f_becomes f_goneOf q_taped cr q_people f_secrets f_lanes f_lengths f_cells f_tokens f_afters f_caseMany f_happen f_heard wsZ → RL_ tl ct pe kn ac np kc mN pV kV st sn sl scx tT ec er ed eT eb en q_undos q_models PGv f_afterOf f_actMany f_actOf f_whom f_hasIf f_becomes f_goneOf q_taped cr q_people f_secrets f_lanes f_lengths f_cells f_tokens f_afters f_caseMany f_happen f_heard → WW X 4 E 1452 [(3, .int (nI i1)), (2, .ref hm), (1, .ref hx), (0, .ref bb)] [] wsZ (kC + 4) (nC + 73)) : WW X 4 E 1175 [(3, .int (nI i1)), (2, .ref hm), (1, .ref hx), (0, .ref bb)] [] ws kC nC := by
  obtain ⟨a0, ea0⟩ : ∃ z : Int32, xs (i1 + 1) = z := ⟨_, rfl⟩
  refine ww_aload_n C dL_law_1175 2 rfl rfl ?_
  refine ww_aload_n C dL_law_1176 3 rfl rfl ?_
  refine ww_iload_n C dL_law_1177 0 rfl rfl ?_
  refine ww_iconst (v := 1) C dL_law_1178 rfl ?_
  refine ww_iadd (v := (nI (i1 + 1))) C dL_law_1179 (nI_add i1 1) ?_
  refine ww_sld (v := a0) C hs (vp_in_nI (by omega) (by omega)) (ldn (by omega) ea0) dL_law_1180 ?_
  refine cx_people C rfl ⟨by omega, by omega⟩ hS (fun r_1 pe_5 kn_6 ws_2 hS_3 hE_4 => ?_)
  replace hE_4 := hd_mk hE_4
  refine ww_pop C dL_law_1184 rfl ?_
  refine ww_aload_n C dL_law_1185 1 rfl rfl ?_
  refine ww_aload_n C dL_law_1186 3 rfl rfl ?_
  refine ww_iload_n C dL_law_1187 0 rfl rfl ?_
  refine ww_iconst (v := 1) C dL_law_1188 rfl ?_
  refine ww_iadd (v := (nI (i1 + 1))) C dL_law_1189 (nI_add i1 1) ?_
  refine ww_sld (v := a0) C hs (vp_in_nI (by omega) (by omega)) (ldn (by omega) ea0) dL_law_1190 ?_
  refine my_people C rfl ⟨by omega, by omega⟩ hS_3 (fun r_7 q_people_11 f_secrets_12 ws_8 hS_9 hE_10 => ?_)
  replace hE_10 := hd_mk hE_10
  refine ww_pop C dL_law_1194 rfl ?_
  refine ww_goto (tgt := 1452) C dL_law_1195 (by decide) ?_
  exact ww_wid (by omega) (by omega) (kk tl ct pe_5 kn_6 ac np kc mN pV kV st sn sl scx tT ec er ed eT eb en q_undos q_models PGv f_afterOf f_actMany f_actOf f_whom f_hasIf f_becomes f_goneOf q_taped cr q_people_11 f_secrets_12 f_lanes f_lengths f_cells f_tokens f_afters f_caseMany f_happen f_heard _ hS_9 ⟨hR.1, hR.2.1, (re_people hE_4 hE_10 hR (ST.tl hS)).1, (re_people hE_4 hE_10 hR (ST.tl hS)).2.1, hR.2.2.2.2.1, hR.2.2.2.2.2.1, hR.2.2.2.2.2.2.1, hR.2.2.2.2.2.2.2.1, hR.2.2.2.2.2.2.2.2.1, hR.2.2.2.2.2.2.2.2.2.1, hR.2.2.2.2.2.2.2.2.2.2.1, hR.2.2.2.2.2.2.2.2.2.2.2.1, hR.2.2.2.2.2.2.2.2.2.2.2.2.1, (re_people hE_4 hE_10 hR (ST.tl hS)).2.2⟩)
end
