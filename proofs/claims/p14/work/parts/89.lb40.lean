section
theorem dL_law_1198 : decode cL_law 1198 = .ok (.aload_n 1, 1) := dl_43 (by decide +kernel)
theorem dL_law_1199 : decode cL_law 1199 = .ok (.aload_n 0, 1) := dl_42 (by decide +kernel)
theorem dL_law_1200 : decode cL_law 1200 = .ok (.iload_n 3, 1) := dl_29 (by decide +kernel)
theorem dL_law_1201 : decode cL_law 1201 = .ok (.iconst 1, 1) := dl_4 (by decide +kernel)
theorem dL_law_1202 : decode cL_law 1202 = .ok (.iadd, 1) := dl_96 (by decide +kernel)
theorem dL_law_1203 : decode cL_law 1203 = .ok (.iaload, 1) := dl_46 (by decide +kernel)
theorem dL_law_1204 : decode cL_law 1204 = .ok (.aload_n 0, 1) := dl_42 (by decide +kernel)
theorem dL_law_1205 : decode cL_law 1205 = .ok (.iload_n 3, 1) := dl_29 (by decide +kernel)
theorem dL_law_1206 : decode cL_law 1206 = .ok (.iconst 2, 1) := dl_5 (by decide +kernel)
theorem dL_law_1207 : decode cL_law 1207 = .ok (.iadd, 1) := dl_96 (by decide +kernel)
theorem dL_law_1208 : decode cL_law 1208 = .ok (.iaload, 1) := dl_46 (by decide +kernel)
theorem dL_law_1212 : decode cL_law 1212 = .ok (.pop, 1) := dl_87 (by decide +kernel)
theorem dL_law_1213 : decode cL_law 1213 = .ok (.aload_n 2, 1) := dl_44 (by decide +kernel)
theorem dL_law_1214 : decode cL_law 1214 = .ok (.aload_n 0, 1) := dl_42 (by decide +kernel)
theorem dL_law_1215 : decode cL_law 1215 = .ok (.iload_n 3, 1) := dl_29 (by decide +kernel)
theorem dL_law_1216 : decode cL_law 1216 = .ok (.iconst 1, 1) := dl_4 (by decide +kernel)
theorem dL_law_1217 : decode cL_law 1217 = .ok (.iadd, 1) := dl_96 (by decide +kernel)
theorem dL_law_1218 : decode cL_law 1218 = .ok (.iaload, 1) := dl_46 (by decide +kernel)
theorem dL_law_1219 : decode cL_law 1219 = .ok (.aload_n 0, 1) := dl_42 (by decide +kernel)
theorem dL_law_1220 : decode cL_law 1220 = .ok (.iload_n 3, 1) := dl_29 (by decide +kernel)
theorem dL_law_1221 : decode cL_law 1221 = .ok (.iconst 2, 1) := dl_5 (by decide +kernel)
theorem dL_law_1222 : decode cL_law 1222 = .ok (.iadd, 1) := dl_96 (by decide +kernel)
theorem dL_law_1223 : decode cL_law 1223 = .ok (.iaload, 1) := dl_46 (by decide +kernel)
theorem dL_law_1227 : decode cL_law 1227 = .ok (.pop, 1) := dl_87 (by decide +kernel)
theorem dL_law_1228 : decode cL_law 1228 = .ok (.goto 224, 3) := dl_167 (by decide +kernel)
set_option maxRecDepth 100000 in
set_option maxHeartbeats 4000000 in
theorem lawc_call {X : XT} {E : EV} {xs : Nat → Int32} {ws : va_W} {bb L hx hm i1 kC nC : Nat} {tl : Nat} {ct : Nat → Int} {pe : Nat} {kn : Int32} {ac : Nat} {np : Nat} {kc : Nat} {mN : AM} {pV : Nat → AM} {kV : Nat → AM} {st : Nat → Nat} {sn : Nat → Nat} {sl : Nat → Nat} {scx : Nat → Nat → Int32} {tT : Nat → Option SVal} {ec : Nat → Nat} {er : Nat → Nat} {ed : Nat → Nat → Int32} {eT : Nat → Nat → Option SVal} {eb : Nat → Nat → Int32} {en : Nat → Nat → Int32} {q_undos : Nat} {q_models : Nat} {PGv : Nat → AM} {f_afterOf : Nat → Int32} {f_actMany : Nat → Int32} {f_actOf : Nat → Int32} {f_whom : Nat → Int32} {f_hasIf : Nat → Int32} {f_becomes : Nat → Int32} {f_goneOf : Nat → Int32} {q_taped : Nat} {cr : Nat → Int} {q_people : Nat} {f_secrets : Nat → Int32} {f_lanes : Nat → Int32} {f_lengths : Nat → Int32} {f_cells : Nat → Int32} {f_tokens : Nat → Int32} {f_afters : Nat → Int32} {f_caseMany : Nat → Int32} {f_happen : Nat → Int32} {f_heard : Nat → Int32} (C : CX X room_1 cL_law 4 RL ret E) (hs : SX X bb L xs) (hi : i1 + 6 ≤ L) (hL : L ≤ 3072) (hk : kC + 4 ≤ 600000 ∧ nC + 73 ≤ 7302250) (hS : ST E hx hm tl ct pe kn ac np kc mN pV kV st sn sl scx tT ec er ed eT eb en q_undos q_models PGv f_afterOf f_actMany f_actOf f_whom f_hasIf f_becomes f_goneOf q_taped cr q_people f_secrets f_lanes f_lengths f_cells f_tokens f_afters f_caseMany f_happen f_heard ws) (hR : RL_ tl ct pe kn ac np kc mN pV kV st sn sl scx tT ec er ed eT eb en q_undos q_models PGv f_afterOf f_actMany f_actOf f_whom f_hasIf f_becomes f_goneOf q_taped cr q_people f_secrets f_lanes f_lengths f_cells f_tokens f_afters f_caseMany f_happen f_heard) (kk : ∀ (tl : Nat) (ct : Nat → Int) (pe : Nat) (kn : Int32) (ac : Nat) (np : Nat) (kc : Nat) (mN : AM) (pV : Nat → AM) (kV : Nat → AM) (st : Nat → Nat) (sn : Nat → Nat) (sl : Nat → Nat) (scx : Nat → Nat → Int32) (tT : Nat → Option SVal) (ec : Nat → Nat) (er : Nat → Nat) (ed : Nat → Nat → Int32) (eT : Nat → Nat → Option SVal) (eb : Nat → Nat → Int32) (en : Nat → Nat → Int32) (q_undos : Nat) (q_models : Nat) (PGv : Nat → AM) (f_afterOf : Nat → Int32) (f_actMany : Nat → Int32) (f_actOf : Nat → Int32) (f_whom : Nat → Int32) (f_hasIf : Nat → Int32) (f_becomes : Nat → Int32) (f_goneOf : Nat → Int32) (q_taped : Nat) (cr : Nat → Int) (q_people : Nat) (f_secrets : Nat → Int32) (f_lanes : Nat → Int32) (f_lengths : Nat → Int32) (f_cells : Nat → Int32) (f_tokens : Nat → Int32) (f_afters : Nat → Int32) (f_caseMany : Nat → Int32) (f_happen : Nat → Int32) (f_heard : Nat → Int32) (wsZ : va_W), ST E hx hm tl ct pe kn ac np kc mN pV kV st sn sl scx tT ec er ed eT eb en q_undos q_models PGv f_afterOf f_actMany f_actOf f_whom f_hasIf f_becomes f_goneOf q_taped cr q_people f_secrets f_lanes f_lengths f_cells f_tokens f_afters f_caseMany f_happen f_heard wsZ → RL_ tl ct pe kn ac np kc mN pV kV st sn sl scx tT ec er ed eT eb en q_undos q_models PGv f_afterOf f_actMany f_actOf f_whom f_hasIf f_becomes f_goneOf q_taped cr q_people f_secrets f_lanes f_lengths f_cells f_tokens f_afters f_caseMany f_happen f_heard → WW X 4 E 1452 [(3, .int (nI i1)), (2, .ref hm), (1, .ref hx), (0, .ref bb)] [] wsZ (kC + 4) (nC + 73)) : WW X 4 E 1198 [(3, .int (nI i1)), (2, .ref hm), (1, .ref hx), (0, .ref bb)] [] ws kC nC := by
  obtain ⟨a0, ea0⟩ : ∃ z : Int32, xs (i1 + 1) = z := ⟨_, rfl⟩
  obtain ⟨a1, ea1⟩ : ∃ z : Int32, xs (i1 + 2) = z := ⟨_, rfl⟩
  refine ww_aload_n C dL_law_1198 2 rfl rfl ?_
  refine ww_aload_n C dL_law_1199 3 rfl rfl ?_
  refine ww_iload_n C dL_law_1200 0 rfl rfl ?_
  refine ww_iconst (v := 1) C dL_law_1201 rfl ?_
  refine ww_iadd (v := (nI (i1 + 1))) C dL_law_1202 (nI_add i1 1) ?_
  refine ww_sld (v := a0) C hs (vp_in_nI (by omega) (by omega)) (ldn (by omega) ea0) dL_law_1203 ?_
  refine ww_aload_n C dL_law_1204 3 rfl rfl ?_
  refine ww_iload_n C dL_law_1205 0 rfl rfl ?_
  refine ww_iconst (v := 2) C dL_law_1206 rfl ?_
  refine ww_iadd (v := (nI (i1 + 2))) C dL_law_1207 (nI_add i1 2) ?_
  refine ww_sld (v := a1) C hs (vp_in_nI (by omega) (by omega)) (ldn (by omega) ea1) dL_law_1208 ?_
  refine cx_call C rfl ⟨by omega, by omega⟩ hS (fun r_1 kn_5 ws_2 hS_3 hE_4 => ?_)
  replace hE_4 := hd_mk hE_4
  refine ww_pop C dL_law_1212 rfl ?_
  refine ww_aload_n C dL_law_1213 1 rfl rfl ?_
  refine ww_aload_n C dL_law_1214 3 rfl rfl ?_
  refine ww_iload_n C dL_law_1215 0 rfl rfl ?_
  refine ww_iconst (v := 1) C dL_law_1216 rfl ?_
  refine ww_iadd (v := (nI (i1 + 1))) C dL_law_1217 (nI_add i1 1) ?_
  refine ww_sld (v := a0) C hs (vp_in_nI (by omega) (by omega)) (ldn (by omega) ea0) dL_law_1218 ?_
  refine ww_aload_n C dL_law_1219 3 rfl rfl ?_
  refine ww_iload_n C dL_law_1220 0 rfl rfl ?_
  refine ww_iconst (v := 2) C dL_law_1221 rfl ?_
  refine ww_iadd (v := (nI (i1 + 2))) C dL_law_1222 (nI_add i1 2) ?_
  refine ww_sld (v := a1) C hs (vp_in_nI (by omega) (by omega)) (ldn (by omega) ea1) dL_law_1223 ?_
  refine my_call C rfl ⟨by omega, by omega⟩ hS_3 (fun r_6 f_secrets_10 ws_7 hS_8 hE_9 => ?_)
  replace hE_9 := hd_mk hE_9
  refine ww_pop C dL_law_1227 rfl ?_
  refine ww_goto (tgt := 1452) C dL_law_1228 (by decide) ?_
  exact ww_wid (by omega) (by omega) (kk tl ct pe kn_5 ac np kc mN pV kV st sn sl scx tT ec er ed eT eb en q_undos q_models PGv f_afterOf f_actMany f_actOf f_whom f_hasIf f_becomes f_goneOf q_taped cr q_people f_secrets_10 f_lanes f_lengths f_cells f_tokens f_afters f_caseMany f_happen f_heard _ hS_8 ⟨hR.1, hR.2.1, hR.2.2.1, (re_call hE_4 hE_9 hR (ST.tl hS)).1, hR.2.2.2.2.1, hR.2.2.2.2.2.1, hR.2.2.2.2.2.2.1, hR.2.2.2.2.2.2.2.1, hR.2.2.2.2.2.2.2.2.1, hR.2.2.2.2.2.2.2.2.2.1, hR.2.2.2.2.2.2.2.2.2.2.1, hR.2.2.2.2.2.2.2.2.2.2.2.1, hR.2.2.2.2.2.2.2.2.2.2.2.2.1, (re_call hE_4 hE_9 hR (ST.tl hS)).2⟩)
theorem dL_law_1231 : decode cL_law 1231 = .ok (.aload_n 1, 1) := dl_43 (by decide +kernel)
theorem dL_law_1232 : decode cL_law 1232 = .ok (.aload_n 0, 1) := dl_42 (by decide +kernel)
theorem dL_law_1233 : decode cL_law 1233 = .ok (.iload_n 3, 1) := dl_29 (by decide +kernel)
theorem dL_law_1234 : decode cL_law 1234 = .ok (.iconst 1, 1) := dl_4 (by decide +kernel)
theorem dL_law_1235 : decode cL_law 1235 = .ok (.iadd, 1) := dl_96 (by decide +kernel)
theorem dL_law_1236 : decode cL_law 1236 = .ok (.iaload, 1) := dl_46 (by decide +kernel)
theorem dL_law_1240 : decode cL_law 1240 = .ok (.pop, 1) := dl_87 (by decide +kernel)
theorem dL_law_1241 : decode cL_law 1241 = .ok (.aload_n 2, 1) := dl_44 (by decide +kernel)
theorem dL_law_1242 : decode cL_law 1242 = .ok (.aload_n 0, 1) := dl_42 (by decide +kernel)
theorem dL_law_1243 : decode cL_law 1243 = .ok (.iload_n 3, 1) := dl_29 (by decide +kernel)
theorem dL_law_1244 : decode cL_law 1244 = .ok (.iconst 1, 1) := dl_4 (by decide +kernel)
theorem dL_law_1245 : decode cL_law 1245 = .ok (.iadd, 1) := dl_96 (by decide +kernel)
theorem dL_law_1246 : decode cL_law 1246 = .ok (.iaload, 1) := dl_46 (by decide +kernel)
theorem dL_law_1250 : decode cL_law 1250 = .ok (.pop, 1) := dl_87 (by decide +kernel)
theorem dL_law_1251 : decode cL_law 1251 = .ok (.goto 201, 3) := dl_167 (by decide +kernel)
set_option maxRecDepth 100000 in
set_option maxHeartbeats 4000000 in
theorem lawc_secrets {X : XT} {E : EV} {xs : Nat → Int32} {ws : va_W} {bb L hx hm i1 kC nC : Nat} {tl : Nat} {ct : Nat → Int} {pe : Nat} {kn : Int32} {ac : Nat} {np : Nat} {kc : Nat} {mN : AM} {pV : Nat → AM} {kV : Nat → AM} {st : Nat → Nat} {sn : Nat → Nat} {sl : Nat → Nat} {scx : Nat → Nat → Int32} {tT : Nat → Option SVal} {ec : Nat → Nat} {er : Nat → Nat} {ed : Nat → Nat → Int32} {eT : Nat → Nat → Option SVal} {eb : Nat → Nat → Int32} {en : Nat → Nat → Int32} {q_undos : Nat} {q_models : Nat} {PGv : Nat → AM} {f_afterOf : Nat → Int32} {f_actMany : Nat → Int32} {f_actOf : Nat → Int32} {f_whom : Nat → Int32} {f_hasIf : Nat → Int32} {f_becomes : Nat → Int32} {f_goneOf : Nat → Int32} {q_taped : Nat} {cr : Nat → Int} {q_people : Nat} {f_secrets : Nat → Int32} {f_lanes : Nat → Int32} {f_lengths : Nat → Int32} {f_cells : Nat → Int32} {f_tokens : Nat → Int32} {f_afters : Nat → Int32} {f_caseMany : Nat → Int32} {f_happen : Nat → Int32} {f_heard : Nat → Int32} (C : CX X room_1 cL_law 4 RL ret E) (hs : SX X bb L xs) (hi : i1 + 6 ≤ L) (hL : L ≤ 3072) (hk : kC + 4 ≤ 600000 ∧ nC + 73 ≤ 7302250) (hS : ST E hx hm tl ct pe kn ac np kc mN pV kV st sn sl scx tT ec er ed eT eb en q_undos q_models PGv f_afterOf f_actMany f_actOf f_whom f_hasIf f_becomes f_goneOf q_taped cr q_people f_secrets f_lanes f_lengths f_cells f_tokens f_afters f_caseMany f_happen f_heard ws) (hR : RL_ tl ct pe kn ac np kc mN pV kV st sn sl scx tT ec er ed eT eb en q_undos q_models PGv f_afterOf f_actMany f_actOf f_whom f_hasIf f_becomes f_goneOf q_taped cr q_people f_secrets f_lanes f_lengths f_cells f_tokens f_afters f_caseMany f_happen f_heard) (kk : ∀ (tl : Nat) (ct : Nat → Int) (pe : Nat) (kn : Int32) (ac : Nat) (np : Nat) (kc : Nat) (mN : AM) (pV : Nat → AM) (kV : Nat → AM) (st : Nat → Nat) (sn : Nat → Nat) (sl : Nat → Nat) (scx : Nat → Nat → Int32) (tT : Nat → Option SVal) (ec : Nat → Nat) (er : Nat → Nat) (ed : Nat → Nat → Int32) (eT : Nat → Nat → Option SVal) (eb : Nat → Nat → Int32) (en : Nat → Nat → Int32) (q_undos : Nat) (q_models : Nat) (PGv : Nat → AM) (f_afterOf : Nat → Int32) (f_actMany : Nat → Int32) (f_actOf : Nat → Int32) (f_whom : Nat → Int32) (f_hasIf : Nat → Int32) (f_becomes : Nat → Int32) (f_goneOf : Nat → Int32) (q_taped : Nat) (cr : Nat → Int) (q_people : Nat) (f_secrets : Nat → Int32) (f_lanes : Nat → Int32) (f_lengths : Nat → Int32) (f_cells : Nat → Int32) (f_tokens : Nat → Int32) (f_afters : Nat → Int32) (f_caseMany : Nat → Int32) (f_happen : Nat → Int32) (f_heard : Nat → Int32) (wsZ : va_W), ST E hx hm tl ct pe kn ac np kc mN pV kV st sn sl scx tT ec er ed eT eb en q_undos q_models PGv f_afterOf f_actMany f_actOf f_whom f_hasIf f_becomes f_goneOf q_taped cr q_people f_secrets f_lanes f_lengths f_cells f_tokens f_afters f_caseMany f_happen f_heard wsZ → RL_ tl ct pe kn ac np kc mN pV kV st sn sl scx tT ec er ed eT eb en q_undos q_models PGv f_afterOf f_actMany f_actOf f_whom f_hasIf f_becomes f_goneOf q_taped cr q_people f_secrets f_lanes f_lengths f_cells f_tokens f_afters f_caseMany f_happen f_heard → WW X 4 E 1452 [(3, .int (nI i1)), (2, .ref hm), (1, .ref hx), (0, .ref bb)] [] wsZ (kC + 4) (nC + 73)) : WW X 4 E 1231 [(3, .int (nI i1)), (2, .ref hm), (1, .ref hx), (0, .ref bb)] [] ws kC nC := by
  obtain ⟨a0, ea0⟩ : ∃ z : Int32, xs (i1 + 1) = z := ⟨_, rfl⟩
  refine ww_aload_n C dL_law_1231 2 rfl rfl ?_
  refine ww_aload_n C dL_law_1232 3 rfl rfl ?_
  refine ww_iload_n C dL_law_1233 0 rfl rfl ?_
  refine ww_iconst (v := 1) C dL_law_1234 rfl ?_
  refine ww_iadd (v := (nI (i1 + 1))) C dL_law_1235 (nI_add i1 1) ?_
  refine ww_sld (v := a0) C hs (vp_in_nI (by omega) (by omega)) (ldn (by omega) ea0) dL_law_1236 ?_
  refine cx_secrets C rfl ⟨by omega, by omega⟩ hS (fun r_1 ws_2 hS_3 hE_4 => ?_)
  replace hE_4 := hd_mk hE_4
  refine ww_pop C dL_law_1240 rfl ?_
  refine ww_aload_n C dL_law_1241 1 rfl rfl ?_
  refine ww_aload_n C dL_law_1242 3 rfl rfl ?_
  refine ww_iload_n C dL_law_1243 0 rfl rfl ?_
  refine ww_iconst (v := 1) C dL_law_1244 rfl ?_
  refine ww_iadd (v := (nI (i1 + 1))) C dL_law_1245 (nI_add i1 1) ?_
  refine ww_sld (v := a0) C hs (vp_in_nI (by omega) (by omega)) (ldn (by omega) ea0) dL_law_1246 ?_
  refine my_secrets C rfl ⟨by omega, by omega⟩ hS_3 (fun r_5 ws_6 hS_7 hE_8 => ?_)
  replace hE_8 := hd_mk hE_8
  refine ww_pop C dL_law_1250 rfl ?_
  refine ww_goto (tgt := 1452) C dL_law_1251 (by decide) ?_
  exact ww_wid (by omega) (by omega) (kk tl ct pe kn ac np kc mN pV kV st sn sl scx tT ec er ed eT eb en q_undos q_models PGv f_afterOf f_actMany f_actOf f_whom f_hasIf f_becomes f_goneOf q_taped cr q_people f_secrets f_lanes f_lengths f_cells f_tokens f_afters f_caseMany f_happen f_heard _ hS_7 hR)
theorem dL_law_1254 : decode cL_law 1254 = .ok (.aload_n 1, 1) := dl_43 (by decide +kernel)
theorem dL_law_1255 : decode cL_law 1255 = .ok (.aload_n 0, 1) := dl_42 (by decide +kernel)
theorem dL_law_1256 : decode cL_law 1256 = .ok (.iload_n 3, 1) := dl_29 (by decide +kernel)
theorem dL_law_1257 : decode cL_law 1257 = .ok (.iconst 1, 1) := dl_4 (by decide +kernel)
theorem dL_law_1258 : decode cL_law 1258 = .ok (.iadd, 1) := dl_96 (by decide +kernel)
theorem dL_law_1259 : decode cL_law 1259 = .ok (.iaload, 1) := dl_46 (by decide +kernel)
theorem dL_law_1263 : decode cL_law 1263 = .ok (.pop, 1) := dl_87 (by decide +kernel)
theorem dL_law_1264 : decode cL_law 1264 = .ok (.aload_n 2, 1) := dl_44 (by decide +kernel)
theorem dL_law_1265 : decode cL_law 1265 = .ok (.aload_n 0, 1) := dl_42 (by decide +kernel)
theorem dL_law_1266 : decode cL_law 1266 = .ok (.iload_n 3, 1) := dl_29 (by decide +kernel)
theorem dL_law_1267 : decode cL_law 1267 = .ok (.iconst 1, 1) := dl_4 (by decide +kernel)
theorem dL_law_1268 : decode cL_law 1268 = .ok (.iadd, 1) := dl_96 (by decide +kernel)
theorem dL_law_1269 : decode cL_law 1269 = .ok (.iaload, 1) := dl_46 (by decide +kernel)
theorem dL_law_1273 : decode cL_law 1273 = .ok (.pop, 1) := dl_87 (by decide +kernel)
theorem dL_law_1274 : decode cL_law 1274 = .ok (.goto 178, 3) := dl_167 (by decide +kernel)
set_option maxRecDepth 100000 in
set_option maxHeartbeats 4000000 in
theorem lawc_fewest {X : XT} {E : EV} {xs : Nat → Int32} {ws : va_W} {bb L hx hm i1 kC nC : Nat} {tl : Nat} {ct : Nat → Int} {pe : Nat} {kn : Int32} {ac : Nat} {np : Nat} {kc : Nat} {mN : AM} {pV : Nat → AM} {kV : Nat → AM} {st : Nat → Nat} {sn : Nat → Nat} {sl : Nat → Nat} {scx : Nat → Nat → Int32} {tT : Nat → Option SVal} {ec : Nat → Nat} {er : Nat → Nat} {ed : Nat → Nat → Int32} {eT : Nat → Nat → Option SVal} {eb : Nat → Nat → Int32} {en : Nat → Nat → Int32} {q_undos : Nat} {q_models : Nat} {PGv : Nat → AM} {f_afterOf : Nat → Int32} {f_actMany : Nat → Int32} {f_actOf : Nat → Int32} {f_whom : Nat → Int32} {f_hasIf : Nat → Int32} {f_becomes : Nat → Int32} {f_goneOf : Nat → Int32} {q_taped : Nat} {cr : Nat → Int} {q_people : Nat} {f_secrets : Nat → Int32} {f_lanes : Nat → Int32} {f_lengths : Nat → Int32} {f_cells : Nat → Int32} {f_tokens : Nat → Int32} {f_afters : Nat → Int32} {f_caseMany : Nat → Int32} {f_happen : Nat → Int32} {f_heard : Nat → Int32} (C : CX X room_1 cL_law 4 RL ret E) (hs : SX X bb L xs) (hi : i1 + 6 ≤ L) (hL : L ≤ 3072) (hk : kC + 4 ≤ 600000 ∧ nC + 73 ≤ 7302250) (hS : ST E hx hm tl ct pe kn ac np kc mN pV kV st sn sl scx tT ec er ed eT eb en q_undos q_models PGv f_afterOf f_actMany f_actOf f_whom f_hasIf f_becomes f_goneOf q_taped cr q_people f_secrets f_lanes f_lengths f_cells f_tokens f_afters f_caseMany f_happen f_heard ws) (hR : RL_ tl ct pe kn ac np kc mN pV kV st sn sl scx tT ec er ed eT eb en q_undos q_models PGv f_afterOf f_actMany f_actOf f_whom f_hasIf f_becomes f_goneOf q_taped cr q_people f_secrets f_lanes f_lengths f_cells f_tokens f_afters f_caseMany f_happen f_heard) (kk : ∀ (tl : Nat) (ct : Nat → Int) (pe : Nat) (kn : Int32) (ac : Nat) (np : Nat) (kc : Nat) (mN : AM) (pV : Nat → AM) (kV : Nat → AM) (st : Nat → Nat) (sn : Nat → Nat) (sl : Nat → Nat) (scx : Nat → Nat → Int32) (tT : Nat → Option SVal) (ec : Nat → Nat) (er : Nat → Nat) (ed : Nat → Nat → Int32) (eT : Nat → Nat → Option SVal) (eb : Nat → Nat → Int32) (en : Nat → Nat → Int32) (q_undos : Nat) (q_models : Nat) (PGv : Nat → AM) (f_afterOf : Nat → Int32) (f_actMany : Nat → Int32) (f_actOf : Nat → Int32) (f_whom : Nat → Int32) (f_hasIf : Nat → Int32) (f_becomes : Nat → Int32) (f_goneOf : Nat → Int32) (q_taped : Nat) (cr : Nat → Int) (q_people : Nat) (f_secrets : Nat → Int32) (f_lanes : Nat → Int32) (f_lengths : Nat → Int32) (f_cells : Nat → Int32) (f_tokens : Nat → Int32) (f_afters : Nat → Int32) (f_caseMany : Nat → Int32) (f_happen : Nat → Int32) (f_heard : Nat → Int32) (wsZ : va_W), ST E hx hm tl ct pe kn ac np kc mN pV kV st sn sl scx tT ec er ed eT eb en q_undos q_models PGv f_afterOf f_actMany f_actOf f_whom f_hasIf f_becomes f_goneOf q_taped cr q_people f_secrets f_lanes f_lengths f_cells f_tokens f_afters f_caseMany f_happen f_heard wsZ → RL_ tl ct pe kn ac np kc mN pV kV st sn sl scx tT ec er ed eT eb en q_undos q_models PGv f_afterOf f_actMany f_actOf f_whom f_hasIf f_becomes f_goneOf q_taped cr q_people f_secrets f_lanes f_lengths f_cells f_tokens f_afters f_caseMany f_happen f_heard → WW X 4 E 1452 [(3, .int (nI i1)), (2, .ref hm), (1, .ref hx), (0, .ref bb)] [] wsZ (kC + 4) (nC + 73)) : WW X 4 E 1254 [(3, .int (nI i1)), (2, .ref hm), (1, .ref hx), (0, .ref bb)] [] ws kC nC := by
  obtain ⟨a0, ea0⟩ : ∃ z : Int32, xs (i1 + 1) = z := ⟨_, rfl⟩
  refine ww_aload_n C dL_law_1254 2 rfl rfl ?_
  refine ww_aload_n C dL_law_1255 3 rfl rfl ?_
  refine ww_iload_n C dL_law_1256 0 rfl rfl ?_
  refine ww_iconst (v := 1) C dL_law_1257 rfl ?_
  refine ww_iadd (v := (nI (i1 + 1))) C dL_law_1258 (nI_add i1 1) ?_
  refine ww_sld (v := a0) C hs (vp_in_nI (by omega) (by omega)) (ldn (by omega) ea0) dL_law_1259 ?_
  refine cx_fewest C rfl ⟨by omega, by omega⟩ hS (fun r_1 ws_2 hS_3 hE_4 => ?_)
  replace hE_4 := hd_mk hE_4
  refine ww_pop C dL_law_1263 rfl ?_
  refine ww_aload_n C dL_law_1264 1 rfl rfl ?_
  refine ww_aload_n C dL_law_1265 3 rfl rfl ?_
  refine ww_iload_n C dL_law_1266 0 rfl rfl ?_
  refine ww_iconst (v := 1) C dL_law_1267 rfl ?_
  refine ww_iadd (v := (nI (i1 + 1))) C dL_law_1268 (nI_add i1 1) ?_
  refine ww_sld (v := a0) C hs (vp_in_nI (by omega) (by omega)) (ldn (by omega) ea0) dL_law_1269 ?_
  refine my_fewest C rfl ⟨by omega, by omega⟩ hS_3 (fun r_5 ws_6 hS_7 hE_8 => ?_)
  replace hE_8 := hd_mk hE_8
  refine ww_pop C dL_law_1273 rfl ?_
  refine ww_goto (tgt := 1452) C dL_law_1274 (by decide) ?_
  exact ww_wid (by omega) (by omega) (kk tl ct pe kn ac np kc mN pV kV st sn sl scx tT ec er ed eT eb en q_undos q_models PGv f_afterOf f_actMany f_actOf f_whom f_hasIf f_becomes f_goneOf q_taped cr q_people f_secrets f_lanes f_lengths f_cells f_tokens f_afters f_caseMany f_happen f_heard _ hS_7 hR)
theorem dL_law_1277 : decode cL_law 1277 = .ok (.aload_n 1, 1) := dl_43 (by decide +kernel)
theorem dL_law_1278 : decode cL_law 1278 = .ok (.aload_n 0, 1) := dl_42 (by decide +kernel)
theorem dL_law_1279 : decode cL_law 1279 = .ok (.iload_n 3, 1) := dl_29 (by decide +kernel)
theorem dL_law_1280 : decode cL_law 1280 = .ok (.iconst 1, 1) := dl_4 (by decide +kernel)
theorem dL_law_1281 : decode cL_law 1281 = .ok (.iadd, 1) := dl_96 (by decide +kernel)
theorem dL_law_1282 : decode cL_law 1282 = .ok (.iaload, 1) := dl_46 (by decide +kernel)
theorem dL_law_1283 : decode cL_law 1283 = .ok (.aload_n 0, 1) := dl_42 (by decide +kernel)
theorem dL_law_1284 : decode cL_law 1284 = .ok (.iload_n 3, 1) := dl_29 (by decide +kernel)
theorem dL_law_1285 : decode cL_law 1285 = .ok (.iconst 2, 1) := dl_5 (by decide +kernel)
theorem dL_law_1286 : decode cL_law 1286 = .ok (.iadd, 1) := dl_96 (by decide +kernel)
theorem dL_law_1287 : decode cL_law 1287 = .ok (.iaload, 1) := dl_46 (by decide +kernel)
theorem dL_law_1288 : decode cL_law 1288 = .ok (.aload_n 0, 1) := dl_42 (by decide +kernel)
theorem dL_law_1289 : decode cL_law 1289 = .ok (.iload_n 3, 1) := dl_29 (by decide +kernel)
theorem dL_law_1290 : decode cL_law 1290 = .ok (.iconst 3, 1) := dl_6 (by decide +kernel)
theorem dL_law_1291 : decode cL_law 1291 = .ok (.iadd, 1) := dl_96 (by decide +kernel)
theorem dL_law_1292 : decode cL_law 1292 = .ok (.iaload, 1) := dl_46 (by decide +kernel)
theorem dL_law_1296 : decode cL_law 1296 = .ok (.pop, 1) := dl_87 (by decide +kernel)
theorem dL_law_1297 : decode cL_law 1297 = .ok (.aload_n 2, 1) := dl_44 (by decide +kernel)
theorem dL_law_1298 : decode cL_law 1298 = .ok (.aload_n 0, 1) := dl_42 (by decide +kernel)
theorem dL_law_1299 : decode cL_law 1299 = .ok (.iload_n 3, 1) := dl_29 (by decide +kernel)
theorem dL_law_1300 : decode cL_law 1300 = .ok (.iconst 1, 1) := dl_4 (by decide +kernel)
theorem dL_law_1301 : decode cL_law 1301 = .ok (.iadd, 1) := dl_96 (by decide +kernel)
theorem dL_law_1302 : decode cL_law 1302 = .ok (.iaload, 1) := dl_46 (by decide +kernel)
theorem dL_law_1303 : decode cL_law 1303 = .ok (.aload_n 0, 1) := dl_42 (by decide +kernel)
theorem dL_law_1304 : decode cL_law 1304 = .ok (.iload_n 3, 1) := dl_29 (by decide +kernel)
theorem dL_law_1305 : decode cL_law 1305 = .ok (.iconst 2, 1) := dl_5 (by decide +kernel)
theorem dL_law_1306 : decode cL_law 1306 = .ok (.iadd, 1) := dl_96 (by decide +kernel)
theorem dL_law_1307 : decode cL_law 1307 = .ok (.iaload, 1) := dl_46 (by decide +kernel)
theorem dL_law_1308 : decode cL_law 1308 = .ok (.aload_n 0, 1) := dl_42 (by decide +kernel)
theorem dL_law_1309 : decode cL_law 1309 = .ok (.iload_n 3, 1) := dl_29 (by decide +kernel)
theorem dL_law_1310 : decode cL_law 1310 = .ok (.iconst 3, 1) := dl_6 (by decide +kernel)
theorem dL_law_1311 : decode cL_law 1311 = .ok (.iadd, 1) := dl_96 (by decide +kernel)
theorem dL_law_1312 : decode cL_law 1312 = .ok (.iaload, 1) := dl_46 (by decide +kernel)
theorem dL_law_1316 : decode cL_law 1316 = .ok (.pop, 1) := dl_87 (by decide +kernel)
theorem dL_law_1317 : decode cL_law 1317 = .ok (.goto 135, 3) := dl_167 (by decide +kernel)
set_option maxRecDepth 100000 in
set_option maxHeartbeats 4000000 in
theorem lawc_sheet {X : XT} {E : EV} {xs : Nat → Int32} {ws : va_W} {bb L hx hm i1 kC nC : Nat} {tl : Nat} {ct : Nat → Int} {pe : Nat} {kn : Int32} {ac : Nat} {np : Nat} {kc : Nat} {mN : AM} {pV : Nat → AM} {kV : Nat → AM} {st : Nat → Nat} {sn : Nat → Nat} {sl : Nat → Nat} {scx : Nat → Nat → Int32} {tT : Nat → Option SVal} {ec : Nat → Nat} {er : Nat → Nat} {ed : Nat → Nat → Int32} {eT : Nat → Nat → Option SVal} {eb : Nat → Nat → Int32} {en : Nat → Nat → Int32} {q_undos : Nat} {q_models : Nat} {PGv : Nat → AM} {f_afterOf : Nat → Int32} {f_actMany : Nat → Int32} {f_actOf : Nat → Int32} {f_whom : Nat → Int32} {f_hasIf : Nat → Int32} {f_becomes : Nat → Int32} {f_goneOf : Nat → Int32} {q_taped : Nat} {cr : Nat → Int} {q_people : Nat} {f_secrets : Nat → Int32} {f_lanes : Nat → Int32} {f_lengths : Nat → Int32} {f_cells : Nat → Int32} {f_tokens : Nat → Int32} {f_afters : Nat → Int32} {f_caseMany : Nat → Int32} {f_happen : Nat → Int32} {f_heard : Nat → Int32} (C : CX X room_1 cL_law 4 RL ret E) (hs : SX X bb L xs) (hi : i1 + 6 ≤ L) (hL : L ≤ 3072) (hk : kC + 4 ≤ 600000 ∧ nC + 73 ≤ 7302250) (hS : ST E hx hm tl ct pe kn ac np kc mN pV kV st sn sl scx tT ec er ed eT eb en q_undos q_models PGv f_afterOf f_actMany f_actOf f_whom f_hasIf f_becomes f_goneOf q_taped cr q_people f_secrets f_lanes f_lengths f_cells f_tokens f_afters f_caseMany f_happen f_heard ws) (hR : RL_ tl ct pe kn ac np kc mN pV kV st sn sl scx tT ec er ed eT eb en q_undos q_models PGv f_afterOf f_actMany f_actOf f_whom f_hasIf f_becomes f_goneOf q_taped cr q_people f_secrets f_lanes f_lengths f_cells f_tokens f_afters f_caseMany f_happen f_heard) (kk : ∀ (tl : Nat) (ct : Nat → Int) (pe : Nat) (kn : Int32) (ac : Nat) (np : Nat) (kc : Nat) (mN : AM) (pV : Nat → AM) (kV : Nat → AM) (st : Nat → Nat) (sn : Nat → Nat) (sl : Nat → Nat) (scx : Nat → Nat → Int32) (tT : Nat → Option SVal) (ec : Nat → Nat) (er : Nat → Nat) (ed : Nat → Nat → Int32) (eT : Nat → Nat → Option SVal) (eb : Nat → Nat → Int32) (en : Nat → Nat → Int32) (q_undos : Nat) (q_models : Nat) (PGv : Nat → AM) (f_afterOf : Nat → Int32) (f_actMany : Nat → Int32) (f_actOf : Nat → Int32) (f_whom : Nat → Int32) (f_hasIf : Nat → Int32) (f_becomes : Nat → Int32) (f_goneOf : Nat → Int32) (q_taped : Nat) (cr : Nat → Int) (q_people : Nat) (f_secrets : Nat → Int32) (f_lanes : Nat → Int32) (f_lengths : Nat → Int32) (f_cells : Nat → Int32) (f_tokens : Nat → Int32) (f_afters : Nat → Int32) (f_caseMany : Nat → Int32) (f_happen : Nat → Int32) (f_heard : Nat → Int32) (wsZ : va_W), ST E hx hm tl ct pe kn ac np kc mN pV kV st sn sl scx tT ec er ed eT eb en q_undos q_models PGv f_afterOf f_actMany f_actOf f_whom f_hasIf f_becomes f_goneOf q_taped cr q_people f_secrets f_lanes f_lengths f_cells f_tokens f_afters f_caseMany f_happen f_heard wsZ → RL_ tl ct pe kn ac np kc mN pV kV st sn sl scx tT ec er ed eT eb en q_undos q_models PGv f_afterOf f_actMany f_actOf f_whom f_hasIf f_becomes f_goneOf q_taped cr q_people f_secrets f_lanes f_lengths f_cells f_tokens f_afters f_caseMany f_happen f_heard → WW X 4 E 1452 [(3, .int (nI i1)), (2, .ref hm), (1, .ref hx), (0, .ref bb)] [] wsZ (kC + 4) (nC + 73)) : WW X 4 E 1277 [(3, .int (nI i1)), (2, .ref hm), (1, .ref hx), (0, .ref bb)] [] ws kC nC := by
  obtain ⟨a0, ea0⟩ : ∃ z : Int32, xs (i1 + 1) = z := ⟨_, rfl⟩
  obtain ⟨a1, ea1⟩ : ∃ z : Int32, xs (i1 + 2) = z := ⟨_, rfl⟩
  obtain ⟨a2, ea2⟩ : ∃ z : Int32, xs (i1 + 3) = z := ⟨_, rfl⟩
  refine ww_aload_n C dL_law_1277 2 rfl rfl ?_
  refine ww_aload_n C dL_law_1278 3 rfl rfl ?_
  refine ww_iload_n C dL_law_1279 0 rfl rfl ?_
  refine ww_iconst (v := 1) C dL_law_1280 rfl ?_
  refine ww_iadd (v := (nI (i1 + 1))) C dL_law_1281 (nI_add i1 1) ?_
  refine ww_sld (v := a0) C hs (vp_in_nI (by omega) (by omega)) (ldn (by omega) ea0) dL_law_1282 ?_
  refine ww_aload_n C dL_law_1283 3 rfl rfl ?_
  refine ww_iload_n C dL_law_1284 0 rfl rfl ?_
  refine ww_iconst (v := 2) C dL_law_1285 rfl ?_
  refine ww_iadd (v := (nI (i1 + 2))) C dL_law_1286 (nI_add i1 2) ?_
  refine ww_sld (v := a1) C hs (vp_in_nI (by omega) (by omega)) (ldn (by omega) ea1) dL_law_1287 ?_
  refine ww_aload_n C dL_law_1288 3 rfl rfl ?_
  refine ww_iload_n C dL_law_1289 0 rfl rfl ?_
  refine ww_iconst (v := 3) C dL_law_1290 rfl ?_
  refine ww_iadd (v := (nI (i1 + 3))) C dL_law_1291 (nI_add i1 3) ?_
  refine ww_sld (v := a2) C hs (vp_in_nI (by omega) (by omega)) (ldn (by omega) ea2) dL_law_1292 ?_
  refine cx_sheet C rfl ⟨by omega, by omega⟩ hS (fun r_1 st_5 sn_6 sl_7 scx_8 ws_2 hS_3 hE_4 => ?_)
  replace hE_4 := hd_mk hE_4
  refine ww_pop C dL_law_1296 rfl ?_
  refine ww_aload_n C dL_law_1297 1 rfl rfl ?_
  refine ww_aload_n C dL_law_1298 3 rfl rfl ?_
  refine ww_iload_n C dL_law_1299 0 rfl rfl ?_
  refine ww_iconst (v := 1) C dL_law_1300 rfl ?_
  refine ww_iadd (v := (nI (i1 + 1))) C dL_law_1301 (nI_add i1 1) ?_
  refine ww_sld (v := a0) C hs (vp_in_nI (by omega) (by omega)) (ldn (by omega) ea0) dL_law_1302 ?_
  refine ww_aload_n C dL_law_1303 3 rfl rfl ?_
  refine ww_iload_n C dL_law_1304 0 rfl rfl ?_
  refine ww_iconst (v := 2) C dL_law_1305 rfl ?_
  refine ww_iadd (v := (nI (i1 + 2))) C dL_law_1306 (nI_add i1 2) ?_
  refine ww_sld (v := a1) C hs (vp_in_nI (by omega) (by omega)) (ldn (by omega) ea1) dL_law_1307 ?_
  refine ww_aload_n C dL_law_1308 3 rfl rfl ?_
  refine ww_iload_n C dL_law_1309 0 rfl rfl ?_
  refine ww_iconst (v := 3) C dL_law_1310 rfl ?_
  refine ww_iadd (v := (nI (i1 + 3))) C dL_law_1311 (nI_add i1 3) ?_
  refine ww_sld (v := a2) C hs (vp_in_nI (by omega) (by omega)) (ldn (by omega) ea2) dL_law_1312 ?_
  refine my_sheet C rfl ⟨by omega, by omega⟩ hS_3 (fun r_9 f_lanes_13 f_lengths_14 f_cells_15 ws_10 hS_11 hE_12 => ?_)
  replace hE_12 := hd_mk hE_12
  refine ww_pop C dL_law_1316 rfl ?_
  refine ww_goto (tgt := 1452) C dL_law_1317 (by decide) ?_
  exact ww_wid (by omega) (by omega) (kk tl ct pe kn ac np kc mN pV kV st_5 sn_6 sl_7 scx_8 tT ec er ed eT eb en q_undos q_models PGv f_afterOf f_actMany f_actOf f_whom f_hasIf f_becomes f_goneOf q_taped cr q_people f_secrets f_lanes_13 f_lengths_14 f_cells_15 f_tokens f_afters f_caseMany f_happen f_heard _ hS_11 ⟨hR.1, hR.2.1, hR.2.2.1, hR.2.2.2.1, (re_sheet hE_4 hE_12 hR (ST.tl hS)).1, (re_sheet hE_4 hE_12 hR (ST.tl hS)).2, hR.2.2.2.2.2.2.1, hR.2.2.2.2.2.2.2.1, hR.2.2.2.2.2.2.2.2.1, hR.2.2.2.2.2.2.2.2.2.1, hR.2.2.2.2.2.2.2.2.2.2.1, hR.2.2.2.2.2.2.2.2.2.2.2.1, hR.2.2.2.2.2.2.2.2.2.2.2.2.1, hR.2.2.2.2.2.2.2.2.2.2.2.2.2⟩)
theorem dL_law_1320 : decode cL_law 1320 = .ok (.aload_n 1, 1) := dl_43 (by decide +kernel)
theorem dL_law_1321 : decode cL_law 1321 = .ok (.aload_n 0, 1) := dl_42 (by decide +kernel)
theorem dL_law_1322 : decode cL_law 1322 = .ok (.iload_n 3, 1) := dl_29 (by decide +kernel)
theorem dL_law_1323 : decode cL_law 1323 = .ok (.iconst 1, 1) := dl_4 (by decide +kernel)
theorem dL_law_1324 : decode cL_law 1324 = .ok (.iadd, 1) := dl_96 (by decide +kernel)
theorem dL_law_1325 : decode cL_law 1325 = .ok (.iaload, 1) := dl_46 (by decide +kernel)
theorem dL_law_1326 : decode cL_law 1326 = .ok (.aload_n 0, 1) := dl_42 (by decide +kernel)
theorem dL_law_1327 : decode cL_law 1327 = .ok (.iload_n 3, 1) := dl_29 (by decide +kernel)
theorem dL_law_1328 : decode cL_law 1328 = .ok (.iconst 2, 1) := dl_5 (by decide +kernel)
theorem dL_law_1329 : decode cL_law 1329 = .ok (.iadd, 1) := dl_96 (by decide +kernel)
theorem dL_law_1330 : decode cL_law 1330 = .ok (.iaload, 1) := dl_46 (by decide +kernel)
theorem dL_law_1331 : decode cL_law 1331 = .ok (.aload_n 0, 1) := dl_42 (by decide +kernel)
theorem dL_law_1332 : decode cL_law 1332 = .ok (.iload_n 3, 1) := dl_29 (by decide +kernel)
theorem dL_law_1333 : decode cL_law 1333 = .ok (.iconst 3, 1) := dl_6 (by decide +kernel)
theorem dL_law_1334 : decode cL_law 1334 = .ok (.iadd, 1) := dl_96 (by decide +kernel)
theorem dL_law_1335 : decode cL_law 1335 = .ok (.iaload, 1) := dl_46 (by decide +kernel)
theorem dL_law_1339 : decode cL_law 1339 = .ok (.pop, 1) := dl_87 (by decide +kernel)
theorem dL_law_1340 : decode cL_law 1340 = .ok (.aload_n 2, 1) := dl_44 (by decide +kernel)
theorem dL_law_1341 : decode cL_law 1341 = .ok (.aload_n 0, 1) := dl_42 (by decide +kernel)
theorem dL_law_1342 : decode cL_law 1342 = .ok (.iload_n 3, 1) := dl_29 (by decide +kernel)
theorem dL_law_1343 : decode cL_law 1343 = .ok (.iconst 1, 1) := dl_4 (by decide +kernel)
theorem dL_law_1344 : decode cL_law 1344 = .ok (.iadd, 1) := dl_96 (by decide +kernel)
theorem dL_law_1345 : decode cL_law 1345 = .ok (.iaload, 1) := dl_46 (by decide +kernel)
theorem dL_law_1346 : decode cL_law 1346 = .ok (.aload_n 0, 1) := dl_42 (by decide +kernel)
theorem dL_law_1347 : decode cL_law 1347 = .ok (.iload_n 3, 1) := dl_29 (by decide +kernel)
theorem dL_law_1348 : decode cL_law 1348 = .ok (.iconst 2, 1) := dl_5 (by decide +kernel)
theorem dL_law_1349 : decode cL_law 1349 = .ok (.iadd, 1) := dl_96 (by decide +kernel)
theorem dL_law_1350 : decode cL_law 1350 = .ok (.iaload, 1) := dl_46 (by decide +kernel)
theorem dL_law_1351 : decode cL_law 1351 = .ok (.aload_n 0, 1) := dl_42 (by decide +kernel)
theorem dL_law_1352 : decode cL_law 1352 = .ok (.iload_n 3, 1) := dl_29 (by decide +kernel)
theorem dL_law_1353 : decode cL_law 1353 = .ok (.iconst 3, 1) := dl_6 (by decide +kernel)
theorem dL_law_1354 : decode cL_law 1354 = .ok (.iadd, 1) := dl_96 (by decide +kernel)
theorem dL_law_1355 : decode cL_law 1355 = .ok (.iaload, 1) := dl_46 (by decide +kernel)
theorem dL_law_1359 : decode cL_law 1359 = .ok (.pop, 1) := dl_87 (by decide +kernel)
theorem dL_law_1360 : decode cL_law 1360 = .ok (.goto 92, 3) := dl_167 (by decide +kernel)
set_option maxRecDepth 100000 in
set_option maxHeartbeats 4000000 in
theorem lawc_write {X : XT} {E : EV} {xs : Nat → Int32} {ws : va_W} {bb L hx hm i1 kC nC : Nat} {tl : Nat} {ct : Nat → Int} {pe : Nat} {kn : Int32} {ac : Nat} {np : Nat} {kc : Nat} {mN : AM} {pV : Nat → AM} {kV : Nat → AM} {st : Nat → Nat} {sn : Nat → Nat} {sl : Nat → Nat} {scx : Nat → Nat → Int32} {tT : Nat → Option SVal} {ec : Nat → Nat} {er : Nat → Nat} {ed : Nat → Nat → Int32} {eT : Nat → Nat → Option SVal} {eb : Nat → Nat → Int32} {en : Nat → Nat → Int32} {q_undos : Nat} {q_models : Nat} {PGv : Nat → AM} {f_afterOf : Nat → Int32} {f_actMany : Nat → Int32} {f_actOf : Nat → Int32} {f_whom : Nat → Int32} {f_hasIf : Nat → Int32} {f_becomes : Nat → Int32} {f_goneOf : Nat → Int32} {q_taped : Nat} {cr : Nat → Int} {q_people : Nat} {f_secrets : Nat → Int32} {f_lanes : Nat → Int32} {f_lengths : Nat → Int32} {f_cells : Nat → Int32} {f_tokens : Nat → Int32} {f_afters : Nat → Int32} {f_caseMany : Nat → Int32} {f_happen : Nat → Int32} {f_heard : Nat → Int32} (C : CX X room_1 cL_law 4 RL ret E) (hs : SX X bb L xs) (hi : i1 + 6 ≤ L) (hL : L ≤ 3072) (hk : kC + 4 ≤ 600000 ∧ nC + 73 ≤ 7302250) (hS : ST E hx hm tl ct pe kn ac np kc mN pV kV st sn sl scx tT ec er ed eT eb en q_undos q_models PGv f_afterOf f_actMany f_actOf f_whom f_hasIf f_becomes f_goneOf q_taped cr q_people f_secrets f_lanes f_lengths f_cells f_tokens f_afters f_caseMany f_happen f_heard ws) (hR : RL_ tl ct pe kn ac np kc mN pV kV st sn sl scx tT ec er ed eT eb en q_undos q_models PGv f_afterOf f_actMany f_actOf f_whom f_hasIf f_becomes f_goneOf q_taped cr q_people f_secrets f_lanes f_lengths f_cells f_tokens f_afters f_caseMany f_happen f_heard) (kk : ∀ (tl : Nat) (ct : Nat → Int) (pe : Nat) (kn : Int32) (ac : Nat) (np : Nat) (kc : Nat) (mN : AM) (pV : Nat → AM) (kV : Nat → AM) (st : Nat → Nat) (sn : Nat → Nat) (sl : Nat → Nat) (scx : Nat → Nat → Int32) (tT : Nat → Option SVal) (ec : Nat → Nat) (er : Nat → Nat) (ed : Nat → Nat → Int32) (eT : Nat → Nat → Option SVal) (eb : Nat → Nat → Int32) (en : Nat → Nat → Int32) (q_undos : Nat) (q_models : Nat) (PGv : Nat → AM) (f_afterOf : Nat → Int32) (f_actMany : Nat → Int32) (f_actOf : Nat → Int32) (f_whom : Nat → Int32) (f_hasIf : Nat → Int32) (f_becomes : Nat → Int32) (f_goneOf : Nat → Int32) (q_taped : Nat) (cr : Nat → Int) (q_people : Nat) (f_secrets : Nat → Int32) (f_lanes : Nat → Int32) (f_lengths : Nat → Int32) (f_cells : Nat → Int32) (f_tokens : Nat → Int32) (f_afters : Nat → Int32) (f_caseMany : Nat → Int32) (f_happen : Nat → Int32) (f_heard : Nat → Int32) (wsZ : va_W), ST E hx hm tl ct pe kn ac np kc mN pV kV st sn sl scx tT ec er ed eT eb en q_undos q_models PGv f_afterOf f_actMany f_actOf f_whom f_hasIf f_becomes f_goneOf q_taped cr q_people f_secrets f_lanes f_lengths f_cells f_tokens f_afters f_caseMany f_happen f_heard wsZ → RL_ tl ct pe kn ac np kc mN pV kV st sn sl scx tT ec er ed eT eb en q_undos q_models PGv f_afterOf f_actMany f_actOf f_whom f_hasIf f_becomes f_goneOf q_taped cr q_people f_secrets f_lanes f_lengths f_cells f_tokens f_afters f_caseMany f_happen f_heard → WW X 4 E 1452 [(3, .int (nI i1)), (2, .ref hm), (1, .ref hx), (0, .ref bb)] [] wsZ (kC + 4) (nC + 73)) : WW X 4 E 1320 [(3, .int (nI i1)), (2, .ref hm), (1, .ref hx), (0, .ref bb)] [] ws kC nC := by
  obtain ⟨a0, ea0⟩ : ∃ z : Int32, xs (i1 + 1) = z := ⟨_, rfl⟩
  obtain ⟨a1, ea1⟩ : ∃ z : Int32, xs (i1 + 2) = z := ⟨_, rfl⟩
  obtain ⟨a2, ea2⟩ : ∃ z : Int32, xs (i1 + 3) = z := ⟨_, rfl⟩
  refine ww_aload_n C dL_law_1320 2 rfl rfl ?_
  refine ww_aload_n C dL_law_1321 3 rfl rfl ?_
  refine ww_iload_n C dL_law_1322 0 rfl rfl ?_
  refine ww_iconst (v := 1) C dL_law_1323 rfl ?_
  refine ww_iadd (v := (nI (i1 + 1))) C dL_law_1324 (nI_add i1 1) ?_
  refine ww_sld (v := a0) C hs (vp_in_nI (by omega) (by omega)) (ldn (by omega) ea0) dL_law_1325 ?_
  refine ww_aload_n C dL_law_1326 3 rfl rfl ?_
  refine ww_iload_n C dL_law_1327 0 rfl rfl ?_
  refine ww_iconst (v := 2) C dL_law_1328 rfl ?_
  refine ww_iadd (v := (nI (i1 + 2))) C dL_law_1329 (nI_add i1 2) ?_
  refine ww_sld (v := a1) C hs (vp_in_nI (by omega) (by omega)) (ldn (by omega) ea1) dL_law_1330 ?_
  refine ww_aload_n C dL_law_1331 3 rfl rfl ?_
  refine ww_iload_n C dL_law_1332 0 rfl rfl ?_
  refine ww_iconst (v := 3) C dL_law_1333 rfl ?_
  refine ww_iadd (v := (nI (i1 + 3))) C dL_law_1334 (nI_add i1 3) ?_
  refine ww_sld (v := a2) C hs (vp_in_nI (by omega) (by omega)) (ldn (by omega) ea2) dL_law_1335 ?_
  refine cx_write C rfl ⟨by omega, by omega⟩ hS (fun r_1 scx_5 ws_2 hS_3 hE_4 => ?_)
  replace hE_4 := hd_mk hE_4
  refine ww_pop C dL_law_1339 rfl ?_
  refine ww_aload_n C dL_law_1340 1 rfl rfl ?_
  refine ww_aload_n C dL_law_1341 3 rfl rfl ?_
  refine ww_iload_n C dL_law_1342 0 rfl rfl ?_
  refine ww_iconst (v := 1) C dL_law_1343 rfl ?_
  refine ww_iadd (v := (nI (i1 + 1))) C dL_law_1344 (nI_add i1 1) ?_
  refine ww_sld (v := a0) C hs (vp_in_nI (by omega) (by omega)) (ldn (by omega) ea0) dL_law_1345 ?_
  refine ww_aload_n C dL_law_1346 3 rfl rfl ?_
  refine ww_iload_n C dL_law_1347 0 rfl rfl ?_
  refine ww_iconst (v := 2) C dL_law_1348 rfl ?_
  refine ww_iadd (v := (nI (i1 + 2))) C dL_law_1349 (nI_add i1 2) ?_
  refine ww_sld (v := a1) C hs (vp_in_nI (by omega) (by omega)) (ldn (by omega) ea1) dL_law_1350 ?_
  refine ww_aload_n C dL_law_1351 3 rfl rfl ?_
  refine ww_iload_n C dL_law_1352 0 rfl rfl ?_
  refine ww_iconst (v := 3) C dL_law_1353 rfl ?_
  refine ww_iadd (v := (nI (i1 + 3))) C dL_law_1354 (nI_add i1 3) ?_
  refine ww_sld (v := a2) C hs (vp_in_nI (by omega) (by omega)) (ldn (by omega) ea2) dL_law_1355 ?_
  refine my_write C rfl ⟨by omega, by omega⟩ hS_3 (fun r_6 f_cells_10 ws_7 hS_8 hE_9 => ?_)
  replace hE_9 := hd_mk hE_9
  refine ww_pop C dL_law_1359 rfl ?_
  refine ww_goto (tgt := 1452) C dL_law_1360 (by decide) ?_
  exact ww_wid (by omega) (by omega) (kk tl ct pe kn ac np kc mN pV kV st sn sl scx_5 tT ec er ed eT eb en q_undos q_models PGv f_afterOf f_actMany f_actOf f_whom f_hasIf f_becomes f_goneOf q_taped cr q_people f_secrets f_lanes f_lengths f_cells_10 f_tokens f_afters f_caseMany f_happen f_heard _ hS_8 ⟨hR.1, hR.2.1, hR.2.2.1, hR.2.2.2.1, hR.2.2.2.2.1, (re_write hE_4 hE_9 hR (ST.tl hS)), hR.2.2.2.2.2.2.1, hR.2.2.2.2.2.2.2.1, hR.2.2.2.2.2.2.2.2.1, hR.2.2.2.2.2.2.2.2.2.1, hR.2.2.2.2.2.2.2.2.2.2.1, hR.2.2.2.2.2.2.2.2.2.2.2.1, hR.2.2.2.2.2.2.2.2.2.2.2.2.1, hR.2.2.2.2.2.2.2.2.2.2.2.2.2⟩)
theorem dL_law_1363 : decode cL_law 1363 = .ok (.aload_n 1, 1) := dl_43 (by decide +kernel)
theorem dL_law_1364 : decode cL_law 1364 = .ok (.aload_n 0, 1) := dl_42 (by decide +kernel)
theorem dL_law_1365 : decode cL_law 1365 = .ok (.iload_n 3, 1) := dl_29 (by decide +kernel)
theorem dL_law_1366 : decode cL_law 1366 = .ok (.iconst 1, 1) := dl_4 (by decide +kernel)
theorem dL_law_1367 : decode cL_law 1367 = .ok (.iadd, 1) := dl_96 (by decide +kernel)
theorem dL_law_1368 : decode cL_law 1368 = .ok (.iaload, 1) := dl_46 (by decide +kernel)
theorem dL_law_1369 : decode cL_law 1369 = .ok (.aload_n 0, 1) := dl_42 (by decide +kernel)
theorem dL_law_1370 : decode cL_law 1370 = .ok (.iload_n 3, 1) := dl_29 (by decide +kernel)
theorem dL_law_1371 : decode cL_law 1371 = .ok (.iconst 2, 1) := dl_5 (by decide +kernel)
theorem dL_law_1372 : decode cL_law 1372 = .ok (.iadd, 1) := dl_96 (by decide +kernel)
theorem dL_law_1373 : decode cL_law 1373 = .ok (.iaload, 1) := dl_46 (by decide +kernel)
theorem dL_law_1374 : decode cL_law 1374 = .ok (.aload_n 0, 1) := dl_42 (by decide +kernel)
theorem dL_law_1375 : decode cL_law 1375 = .ok (.iload_n 3, 1) := dl_29 (by decide +kernel)
theorem dL_law_1376 : decode cL_law 1376 = .ok (.iconst 3, 1) := dl_6 (by decide +kernel)
theorem dL_law_1377 : decode cL_law 1377 = .ok (.iadd, 1) := dl_96 (by decide +kernel)
theorem dL_law_1378 : decode cL_law 1378 = .ok (.iaload, 1) := dl_46 (by decide +kernel)
theorem dL_law_1379 : decode cL_law 1379 = .ok (.aload_n 0, 1) := dl_42 (by decide +kernel)
theorem dL_law_1380 : decode cL_law 1380 = .ok (.iload_n 3, 1) := dl_29 (by decide +kernel)
theorem dL_law_1381 : decode cL_law 1381 = .ok (.iconst 4, 1) := dl_7 (by decide +kernel)
theorem dL_law_1382 : decode cL_law 1382 = .ok (.iadd, 1) := dl_96 (by decide +kernel)
theorem dL_law_1383 : decode cL_law 1383 = .ok (.iaload, 1) := dl_46 (by decide +kernel)
theorem dL_law_1387 : decode cL_law 1387 = .ok (.pop, 1) := dl_87 (by decide +kernel)
theorem dL_law_1388 : decode cL_law 1388 = .ok (.aload_n 2, 1) := dl_44 (by decide +kernel)
theorem dL_law_1389 : decode cL_law 1389 = .ok (.aload_n 0, 1) := dl_42 (by decide +kernel)
theorem dL_law_1390 : decode cL_law 1390 = .ok (.iload_n 3, 1) := dl_29 (by decide +kernel)
theorem dL_law_1391 : decode cL_law 1391 = .ok (.iconst 1, 1) := dl_4 (by decide +kernel)
theorem dL_law_1392 : decode cL_law 1392 = .ok (.iadd, 1) := dl_96 (by decide +kernel)
theorem dL_law_1393 : decode cL_law 1393 = .ok (.iaload, 1) := dl_46 (by decide +kernel)
theorem dL_law_1394 : decode cL_law 1394 = .ok (.aload_n 0, 1) := dl_42 (by decide +kernel)
theorem dL_law_1395 : decode cL_law 1395 = .ok (.iload_n 3, 1) := dl_29 (by decide +kernel)
theorem dL_law_1396 : decode cL_law 1396 = .ok (.iconst 2, 1) := dl_5 (by decide +kernel)
theorem dL_law_1397 : decode cL_law 1397 = .ok (.iadd, 1) := dl_96 (by decide +kernel)
theorem dL_law_1398 : decode cL_law 1398 = .ok (.iaload, 1) := dl_46 (by decide +kernel)
theorem dL_law_1399 : decode cL_law 1399 = .ok (.aload_n 0, 1) := dl_42 (by decide +kernel)
theorem dL_law_1400 : decode cL_law 1400 = .ok (.iload_n 3, 1) := dl_29 (by decide +kernel)
theorem dL_law_1401 : decode cL_law 1401 = .ok (.iconst 3, 1) := dl_6 (by decide +kernel)
theorem dL_law_1402 : decode cL_law 1402 = .ok (.iadd, 1) := dl_96 (by decide +kernel)
theorem dL_law_1403 : decode cL_law 1403 = .ok (.iaload, 1) := dl_46 (by decide +kernel)
theorem dL_law_1404 : decode cL_law 1404 = .ok (.aload_n 0, 1) := dl_42 (by decide +kernel)
theorem dL_law_1405 : decode cL_law 1405 = .ok (.iload_n 3, 1) := dl_29 (by decide +kernel)
theorem dL_law_1406 : decode cL_law 1406 = .ok (.iconst 4, 1) := dl_7 (by decide +kernel)
theorem dL_law_1407 : decode cL_law 1407 = .ok (.iadd, 1) := dl_96 (by decide +kernel)
theorem dL_law_1408 : decode cL_law 1408 = .ok (.iaload, 1) := dl_46 (by decide +kernel)
theorem dL_law_1412 : decode cL_law 1412 = .ok (.pop, 1) := dl_87 (by decide +kernel)
theorem dL_law_1413 : decode cL_law 1413 = .ok (.goto 39, 3) := dl_167 (by decide +kernel)
set_option maxRecDepth 100000 in
set_option maxHeartbeats 4000000 in
theorem lawc_read {X : XT} {E : EV} {xs : Nat → Int32} {ws : va_W} {bb L hx hm i1 kC nC : Nat} {tl : Nat} {ct : Nat → Int} {pe : Nat} {kn : Int32} {ac : Nat} {np : Nat} {kc : Nat} {mN : AM} {pV : Nat → AM} {kV : Nat → AM} {st : Nat → Nat} {sn : Nat → Nat} {sl : Nat → Nat} {scx : Nat → Nat → Int32} {tT : Nat → Option SVal} {ec : Nat → Nat} {er : Nat → Nat} {ed : Nat → Nat → Int32} {eT : Nat → Nat → Option SVal} {eb : Nat → Nat → Int32} {en : Nat → Nat → Int32} {q_undos : Nat} {q_models : Nat} {PGv : Nat → AM} {f_afterOf : Nat → Int32} {f_actMany : Nat → Int32} {f_actOf : Nat → Int32} {f_whom : Nat → Int32} {f_hasIf : Nat → Int32} {f_becomes : Nat → Int32} {f_goneOf : Nat → Int32} {q_taped : Nat} {cr : Nat → Int} {q_people : Nat} {f_secrets : Nat → Int32} {f_lanes : Nat → Int32} {f_lengths : Nat → Int32} {f_cells : Nat → Int32} {f_tokens : Nat → Int32} {f_afters : Nat → Int32} {f_caseMany : Nat → Int32} {f_happen : Nat → Int32} {f_heard : Nat → Int32} (C : CX X room_1 cL_law 4 RL ret E) (hs : SX X bb L xs) (hi : i1 + 6 ≤ L) (hL : L ≤ 3072) (hk : kC + 4 ≤ 600000 ∧ nC + 73 ≤ 7302250) (hS : ST E hx hm tl ct pe kn ac np kc mN pV kV st sn sl scx tT ec er ed eT eb en q_undos q_models PGv f_afterOf f_actMany f_actOf f_whom f_hasIf f_becomes f_goneOf q_taped cr q_people f_secrets f_lanes f_lengths f_cells f_tokens f_afters f_caseMany f_happen f_heard ws) (hR : RL_ tl ct pe kn ac np kc mN pV kV st sn sl scx tT ec er ed eT eb en q_undos q_models PGv f_afterOf f_actMany f_actOf f_whom f_hasIf f_becomes f_goneOf q_taped cr q_people f_secrets f_lanes f_lengths f_cells f_tokens f_afters f_caseMany f_happen f_heard) (kk : ∀ (tl : Nat) (ct : Nat → Int) (pe : Nat) (kn : Int32) (ac : Nat) (np : Nat) (kc : Nat) (mN : AM) (pV : Nat → AM) (kV : Nat → AM) (st : Nat → Nat) (sn : Nat → Nat) (sl : Nat → Nat) (scx : Nat → Nat → Int32) (tT : Nat → Option SVal) (ec : Nat → Nat) (er : Nat → Nat) (ed : Nat → Nat → Int32) (eT : Nat → Nat → Option SVal) (eb : Nat → Nat → Int32) (en : Nat → Nat → Int32) (q_undos : Nat) (q_models : Nat) (PGv : Nat → AM) (f_afterOf : Nat → Int32) (f_actMany : Nat → Int32) (f_actOf : Nat → Int32) (f_whom : Nat → Int32) (f_hasIf : Nat → Int32) (f_becomes : Nat → Int32) (f_goneOf : Nat → Int32) (q_taped : Nat) (cr : Nat → Int) (q_people : Nat) (f_secrets : Nat → Int32) (f_lanes : Nat → Int32) (f_lengths : Nat → Int32) (f_cells : Nat → Int32) (f_tokens : Nat → Int32) (f_afters : Nat → Int32) (f_caseMany : Nat → Int32) (f_happen : Nat → Int32) (f_heard : Nat → Int32) (wsZ : va_W), ST E hx hm tl ct pe kn ac np kc mN pV kV st sn sl scx tT ec er ed eT eb en q_undos q_models PGv f_afterOf f_actMany f_actOf f_whom f_hasIf f_becomes f_goneOf q_taped cr q_people f_secrets f_lanes f_lengths f_cells f_tokens f_afters f_caseMany f_happen f_heard wsZ → RL_ tl ct pe kn ac np kc mN pV kV st sn sl scx tT ec er ed eT eb en q_undos q_models PGv f_afterOf f_actMany f_actOf f_whom f_hasIf f_becomes f_goneOf q_taped cr q_people f_secrets f_lanes f_lengths f_cells f_tokens f_afters f_caseMany f_happen f_heard → WW X 4 E 1452 [(3, .int (nI i1)), (2, .ref hm), (1, .ref hx), (0, .ref bb)] [] wsZ (kC + 4) (nC + 73)) : WW X 4 E 1363 [(3, .int (nI i1)), (2, .ref hm), (1, .ref hx), (0, .ref bb)] [] ws kC nC := by
  obtain ⟨a0, ea0⟩ : ∃ z : Int32, xs (i1 + 1) = z := ⟨_, rfl⟩
  obtain ⟨a1, ea1⟩ : ∃ z : Int32, xs (i1 + 2) = z := ⟨_, rfl⟩
  obtain ⟨a2, ea2⟩ : ∃ z : Int32, xs (i1 + 3) = z := ⟨_, rfl⟩
  obtain ⟨a3, ea3⟩ : ∃ z : Int32, xs (i1 + 4) = z := ⟨_, rfl⟩
  refine ww_aload_n C dL_law_1363 2 rfl rfl ?_
  refine ww_aload_n C dL_law_1364 3 rfl rfl ?_
  refine ww_iload_n C dL_law_1365 0 rfl rfl ?_
  refine ww_iconst (v := 1) C dL_law_1366 rfl ?_
  refine ww_iadd (v := (nI (i1 + 1))) C dL_law_1367 (nI_add i1 1) ?_
  refine ww_sld (v := a0) C hs (vp_in_nI (by omega) (by omega)) (ldn (by omega) ea0) dL_law_1368 ?_
  refine ww_aload_n C dL_law_1369 3 rfl rfl ?_
  refine ww_iload_n C dL_law_1370 0 rfl rfl ?_
  refine ww_iconst (v := 2) C dL_law_1371 rfl ?_
  refine ww_iadd (v := (nI (i1 + 2))) C dL_law_1372 (nI_add i1 2) ?_
  refine ww_sld (v := a1) C hs (vp_in_nI (by omega) (by omega)) (ldn (by omega) ea1) dL_law_1373 ?_
  refine ww_aload_n C dL_law_1374 3 rfl rfl ?_
  refine ww_iload_n C dL_law_1375 0 rfl rfl ?_
  refine ww_iconst (v := 3) C dL_law_1376 rfl ?_
  refine ww_iadd (v := (nI (i1 + 3))) C dL_law_1377 (nI_add i1 3) ?_
  refine ww_sld (v := a2) C hs (vp_in_nI (by omega) (by omega)) (ldn (by omega) ea2) dL_law_1378 ?_
  refine ww_aload_n C dL_law_1379 3 rfl rfl ?_
  refine ww_iload_n C dL_law_1380 0 rfl rfl ?_
  refine ww_iconst (v := 4) C dL_law_1381 rfl ?_
  refine ww_iadd (v := (nI (i1 + 4))) C dL_law_1382 (nI_add i1 4) ?_
  refine ww_sld (v := a3) C hs (vp_in_nI (by omega) (by omega)) (ldn (by omega) ea3) dL_law_1383 ?_
  refine cx_read C rfl ⟨by omega, by omega⟩ hS (fun r_1 mN_5 pV_6 ac_7 np_8 ws_2 hS_3 hE_4 => ?_)
  replace hE_4 := hd_mk hE_4
  refine ww_pop C dL_law_1387 rfl ?_
  refine ww_aload_n C dL_law_1388 1 rfl rfl ?_
  refine ww_aload_n C dL_law_1389 3 rfl rfl ?_
  refine ww_iload_n C dL_law_1390 0 rfl rfl ?_
  refine ww_iconst (v := 1) C dL_law_1391 rfl ?_
  refine ww_iadd (v := (nI (i1 + 1))) C dL_law_1392 (nI_add i1 1) ?_
  refine ww_sld (v := a0) C hs (vp_in_nI (by omega) (by omega)) (ldn (by omega) ea0) dL_law_1393 ?_
  refine ww_aload_n C dL_law_1394 3 rfl rfl ?_
  refine ww_iload_n C dL_law_1395 0 rfl rfl ?_
  refine ww_iconst (v := 2) C dL_law_1396 rfl ?_
  refine ww_iadd (v := (nI (i1 + 2))) C dL_law_1397 (nI_add i1 2) ?_
  refine ww_sld (v := a1) C hs (vp_in_nI (by omega) (by omega)) (ldn (by omega) ea1) dL_law_1398 ?_
  refine ww_aload_n C dL_law_1399 3 rfl rfl ?_
  refine ww_iload_n C dL_law_1400 0 rfl rfl ?_
  refine ww_iconst (v := 3) C dL_law_1401 rfl ?_
  refine ww_iadd (v := (nI (i1 + 3))) C dL_law_1402 (nI_add i1 3) ?_
  refine ww_sld (v := a2) C hs (vp_in_nI (by omega) (by omega)) (ldn (by omega) ea2) dL_law_1403 ?_
  refine ww_aload_n C dL_law_1404 3 rfl rfl ?_
  refine ww_iload_n C dL_law_1405 0 rfl rfl ?_
  refine ww_iconst (v := 4) C dL_law_1406 rfl ?_
  refine ww_iadd (v := (nI (i1 + 4))) C dL_law_1407 (nI_add i1 4) ?_
  refine ww_sld (v := a3) C hs (vp_in_nI (by omega) (by omega)) (ldn (by omega) ea3) dL_law_1408 ?_
  refine my_read C rfl ⟨by omega, by omega⟩ hS_3 (fun r_9 q_undos_13 PGv_14 ws_10 hS_11 hE_12 => ?_)
  replace hE_12 := hd_mk hE_12
  refine ww_pop C dL_law_1412 rfl ?_
  refine ww_goto (tgt := 1452) C dL_law_1413 (by decide) ?_
  exact ww_wid (by omega) (by omega) (kk tl ct pe kn ac_7 np_8 kc mN_5 pV_6 kV st sn sl scx tT ec er ed eT eb en q_undos_13 q_models PGv_14 f_afterOf f_actMany f_actOf f_whom f_hasIf f_becomes f_goneOf q_taped cr q_people f_secrets f_lanes f_lengths f_cells f_tokens f_afters f_caseMany f_happen f_heard _ hS_11 ⟨hR.1, hR.2.1, hR.2.2.1, hR.2.2.2.1, hR.2.2.2.2.1, hR.2.2.2.2.2.1, hR.2.2.2.2.2.2.1, hR.2.2.2.2.2.2.2.1, (re_read hE_4 hE_12 hR (ST.tl hS)).1, (re_read hE_4 hE_12 hR (ST.tl hS)).2, hR.2.2.2.2.2.2.2.2.2.2.1, hR.2.2.2.2.2.2.2.2.2.2.2.1, hR.2.2.2.2.2.2.2.2.2.2.2.2.1, hR.2.2.2.2.2.2.2.2.2.2.2.2.2⟩)
theorem dL_law_1416 : decode cL_law 1416 = .ok (.aload_n 1, 1) := dl_43 (by decide +kernel)
theorem dL_law_1420 : decode cL_law 1420 = .ok (.pop, 1) := dl_87 (by decide +kernel)
theorem dL_law_1421 : decode cL_law 1421 = .ok (.aload_n 2, 1) := dl_44 (by decide +kernel)
theorem dL_law_1425 : decode cL_law 1425 = .ok (.pop, 1) := dl_87 (by decide +kernel)
theorem dL_law_1426 : decode cL_law 1426 = .ok (.goto 26, 3) := dl_167 (by decide +kernel)
set_option maxRecDepth 100000 in
set_option maxHeartbeats 4000000 in
theorem lawc_undo {X : XT} {E : EV} {xs : Nat → Int32} {ws : va_W} {bb L hx hm i1 kC nC : Nat} {tl : Nat} {ct : Nat → Int} {pe : Nat} {kn : Int32} {ac : Nat} {np : Nat} {kc : Nat} {mN : AM} {pV : Nat → AM} {kV : Nat → AM} {st : Nat → Nat} {sn : Nat → Nat} {sl : Nat → Nat} {scx : Nat → Nat → Int32} {tT : Nat → Option SVal} {ec : Nat → Nat} {er : Nat → Nat} {ed : Nat → Nat → Int32} {eT : Nat → Nat → Option SVal} {eb : Nat → Nat → Int32} {en : Nat → Nat → Int32} {q_undos : Nat} {q_models : Nat} {PGv : Nat → AM} {f_afterOf : Nat → Int32} {f_actMany : Nat → Int32} {f_actOf : Nat → Int32} {f_whom : Nat → Int32} {f_hasIf : Nat → Int32} {f_becomes : Nat → Int32} {f_goneOf : Nat → Int32} {q_taped : Nat} {cr : Nat → Int} {q_people : Nat} {f_secrets : Nat → Int32} {f_lanes : Nat → Int32} {f_lengths : Nat → Int32} {f_cells : Nat → Int32} {f_tokens : Nat → Int32} {f_afters : Nat → Int32} {f_caseMany : Nat → Int32} {f_happen : Nat → Int32} {f_heard : Nat → Int32} (C : CX X room_1 cL_law 4 RL ret E) (hs : SX X bb L xs) (hi : i1 + 6 ≤ L) (hL : L ≤ 3072) (hk : kC + 4 ≤ 600000 ∧ nC + 73 ≤ 7302250) (hS : ST E hx hm tl ct pe kn ac np kc mN pV kV st sn sl scx tT ec er ed eT eb en q_undos q_models PGv f_afterOf f_actMany f_actOf f_whom f_hasIf f_becomes f_goneOf q_taped cr q_people f_secrets f_lanes f_lengths f_cells f_tokens f_afters f_caseMany f_happen f_heard ws) (hR : RL_ tl ct pe kn ac np kc mN pV kV st sn sl scx tT ec er ed eT eb en q_undos q_models PGv f_afterOf f_actMany f_actOf f_whom f_hasIf f_becomes f_goneOf q_taped cr q_people f_secrets f_lanes f_lengths f_cells f_tokens f_afters f_caseMany f_happen f_heard) (kk : ∀ (tl : Nat) (ct : Nat → Int) (pe : Nat) (kn : Int32) (ac : Nat) (np : Nat) (kc : Nat) (mN : AM) (pV : Nat → AM) (kV : Nat → AM) (st : Nat → Nat) (sn : Nat → Nat) (sl : Nat → Nat) (scx : Nat → Nat → Int32) (tT : Nat → Option SVal) (ec : Nat → Nat) (er : Nat → Nat) (ed : Nat → Nat → Int32) (eT : Nat → Nat → Option SVal) (eb : Nat → Nat → Int32) (en : Nat → Nat → Int32) (q_undos : Nat) (q_models : Nat) (PGv : Nat → AM) (f_afterOf : Nat → Int32) (f_actMany : Nat → Int32) (f_actOf : Nat → Int32) (f_whom : Nat → Int32) (f_hasIf : Nat → Int32) (f_becomes : Nat → Int32) (f_goneOf : Nat → Int32) (q_taped : Nat) (cr : Nat → Int) (q_people : Nat) (f_secrets : Nat → Int32) (f_lanes : Nat → Int32) (f_lengths : Nat → Int32) (f_cells : Nat → Int32) (f_tokens : Nat → Int32) (f_afters : Nat → Int32) (f_caseMany : Nat → Int32) (f_happen : Nat → Int32) (f_heard : Nat → Int32) (wsZ : va_W), ST E hx hm tl ct pe kn ac np kc mN pV kV st sn sl scx tT ec er ed eT eb en q_undos q_models PGv f_afterOf f_actMany f_actOf f_whom f_hasIf f_becomes f_goneOf q_taped cr q_people f_secrets f_lanes f_lengths f_cells f_tokens f_afters f_caseMany f_happen f_heard wsZ → RL_ tl ct pe kn ac np kc mN pV kV st sn sl scx tT ec er ed eT eb en q_undos q_models PGv f_afterOf f_actMany f_actOf f_whom f_hasIf f_becomes f_goneOf q_taped cr q_people f_secrets f_lanes f_lengths f_cells f_tokens f_afters f_caseMany f_happen f_heard → WW X 4 E 1452 [(3, .int (nI i1)), (2, .ref hm), (1, .ref hx), (0, .ref bb)] [] wsZ (kC + 4) (nC + 73)) : WW X 4 E 1416 [(3, .int (nI i1)), (2, .ref hm), (1, .ref hx), (0, .ref bb)] [] ws kC nC := by
  refine ww_aload_n C dL_law_1416 2 rfl rfl ?_
  refine cx_undo C rfl ⟨by omega, by omega⟩ hS (fun r_1 mN_5 pV_6 ac_7 np_8 ws_2 hS_3 hE_4 => ?_)
  replace hE_4 := hd_mk hE_4
  refine ww_pop C dL_law_1420 rfl ?_
  refine ww_aload_n C dL_law_1421 1 rfl rfl ?_
  refine my_undo C rfl ⟨by omega, by omega⟩ hS_3 (fun r_9 q_undos_13 PGv_14 ws_10 hS_11 hE_12 => ?_)
  replace hE_12 := hd_mk hE_12
  refine ww_pop C dL_law_1425 rfl ?_
  refine ww_goto (tgt := 1452) C dL_law_1426 (by decide) ?_
  exact ww_wid (by omega) (by omega) (kk tl ct pe kn ac_7 np_8 kc mN_5 pV_6 kV st sn sl scx tT ec er ed eT eb en q_undos_13 q_models PGv_14 f_afterOf f_actMany f_actOf f_whom f_hasIf f_becomes f_goneOf q_taped cr q_people f_secrets f_lanes f_lengths f_cells f_tokens f_afters f_caseMany f_happen f_heard _ hS_11 ⟨hR.1, hR.2.1, hR.2.2.1, hR.2.2.2.1, hR.2.2.2.2.1, hR.2.2.2.2.2.1, hR.2.2.2.2.2.2.1, hR.2.2.2.2.2.2.2.1, (re_undo hE_4 hE_12 hR (ST.tl hS)).1, (re_undo hE_4 hE_12 hR (ST.tl hS)).2, hR.2.2.2.2.2.2.2.2.2.2.1, hR.2.2.2.2.2.2.2.2.2.2.2.1, hR.2.2.2.2.2.2.2.2.2.2.2.2.1, hR.2.2.2.2.2.2.2.2.2.2.2.2.2⟩)
theorem dL_law_1429 : decode cL_law 1429 = .ok (.aload_n 1, 1) := dl_43 (by decide +kernel)
theorem dL_law_1430 : decode cL_law 1430 = .ok (.aload_n 0, 1) := dl_42 (by decide +kernel)
theorem dL_law_1431 : decode cL_law 1431 = .ok (.iload_n 3, 1) := dl_29 (by decide +kernel)
theorem dL_law_1432 : decode cL_law 1432 = .ok (.iconst 1, 1) := dl_4 (by decide +kernel)
theorem dL_law_1433 : decode cL_law 1433 = .ok (.iadd, 1) := dl_96 (by decide +kernel)
theorem dL_law_1434 : decode cL_law 1434 = .ok (.iaload, 1) := dl_46 (by decide +kernel)
theorem dL_law_1438 : decode cL_law 1438 = .ok (.pop, 1) := dl_87 (by decide +kernel)
theorem dL_law_1439 : decode cL_law 1439 = .ok (.aload_n 2, 1) := dl_44 (by decide +kernel)
theorem dL_law_1440 : decode cL_law 1440 = .ok (.aload_n 0, 1) := dl_42 (by decide +kernel)
theorem dL_law_1441 : decode cL_law 1441 = .ok (.iload_n 3, 1) := dl_29 (by decide +kernel)
theorem dL_law_1442 : decode cL_law 1442 = .ok (.iconst 1, 1) := dl_4 (by decide +kernel)
theorem dL_law_1443 : decode cL_law 1443 = .ok (.iadd, 1) := dl_96 (by decide +kernel)
theorem dL_law_1444 : decode cL_law 1444 = .ok (.iaload, 1) := dl_46 (by decide +kernel)
theorem dL_law_1448 : decode cL_law 1448 = .ok (.pop, 1) := dl_87 (by decide +kernel)
theorem dL_law_1449 : decode cL_law 1449 = .ok (.goto 3, 3) := dl_167 (by decide +kernel)
set_option maxRecDepth 100000 in
set_option maxHeartbeats 4000000 in
theorem lawc_count {X : XT} {E : EV} {xs : Nat → Int32} {ws : va_W} {bb L hx hm i1 kC nC : Nat} {tl : Nat} {ct : Nat → Int} {pe : Nat} {kn : Int32} {ac : Nat} {np : Nat} {kc : Nat} {mN : AM} {pV : Nat → AM} {kV : Nat → AM} {st : Nat → Nat} {sn : Nat → Nat} {sl : Nat → Nat} {scx : Nat → Nat → Int32} {tT : Nat → Option SVal} {ec : Nat → Nat} {er : Nat → Nat} {ed : Nat → Nat → Int32} {eT : Nat → Nat → Option SVal} {eb : Nat → Nat → Int32} {en : Nat → Nat → Int32} {q_undos : Nat} {q_models : Nat} {PGv : Nat → AM} {f_afterOf : Nat → Int32} {f_actMany : Nat → Int32} {f_actOf : Nat → Int32} {f_whom : Nat → Int32} {f_hasIf : Nat → Int32} {f_becomes : Nat → Int32} {f_goneOf : Nat → Int32} {q_taped : Nat} {cr : Nat → Int} {q_people : Nat} {f_secrets : Nat → Int32} {f_lanes : Nat → Int32} {f_lengths : Nat → Int32} {f_cells : Nat → Int32} {f_tokens : Nat → Int32} {f_afters : Nat → Int32} {f_caseMany : Nat → Int32} {f_happen : Nat → Int32} {f_heard : Nat → Int32} (C : CX X room_1 cL_law 4 RL ret E) (hs : SX X bb L xs) (hi : i1 + 6 ≤ L) (hL : L ≤ 3072) (hk : kC + 4 ≤ 600000 ∧ nC + 73 ≤ 7302250) (hS : ST E hx hm tl ct pe kn ac np kc mN pV kV st sn sl scx tT ec er ed eT eb en q_undos q_models PGv f_afterOf f_actMany f_actOf f_whom f_hasIf f_becomes f_goneOf q_taped cr q_people f_secrets f_lanes f_lengths f_cells f_tokens f_afters f_caseMany f_happen f_heard ws) (hR : RL_ tl ct pe kn ac np kc mN pV kV st sn sl scx tT ec er ed eT eb en q_undos q_models PGv f_afterOf f_actMany f_actOf f_whom f_hasIf f_becomes f_goneOf q_taped cr q_people f_secrets f_lanes f_lengths f_cells f_tokens f_afters f_caseMany f_happen f_heard) (kk : ∀ (tl : Nat) (ct : Nat → Int) (pe : Nat) (kn : Int32) (ac : Nat) (np : Nat) (kc : Nat) (mN : AM) (pV : Nat → AM) (kV : Nat → AM) (st : Nat → Nat) (sn : Nat → Nat) (sl : Nat → Nat) (scx : Nat → Nat → Int32) (tT : Nat → Option SVal) (ec : Nat → Nat) (er : Nat → Nat) (ed : Nat → Nat → Int32) (eT : Nat → Nat → Option SVal) (eb : Nat → Nat → Int32) (en : Nat → Nat → Int32) (q_undos : Nat) (q_models : Nat) (PGv : Nat → AM) (f_afterOf : Nat → Int32) (f_actMany : Nat → Int32) (f_actOf : Nat → Int32) (f_whom : Nat → Int32) (f_hasIf : Nat → Int32) (f_becomes : Nat → Int32) (f_goneOf : Nat → Int32) (q_taped : Nat) (cr : Nat → Int) (q_people : Nat) (f_secrets : Nat → Int32) (f_lanes : Nat → Int32) (f_lengths : Nat → Int32) (f_cells : Nat → Int32) (f_tokens : Nat → Int32) (f_afters : Nat → Int32) (f_caseMany : Nat → Int32) (f_happen : Nat → Int32) (f_heard : Nat → Int32) (wsZ : va_W), ST E hx hm tl ct pe kn ac np kc mN pV kV st sn sl scx tT ec er ed eT eb en q_undos q_models PGv f_afterOf f_actMany f_actOf f_whom f_hasIf f_becomes f_goneOf q_taped cr q_people f_secrets f_lanes f_lengths f_cells f_tokens f_afters f_caseMany f_happen f_heard wsZ → RL_ tl ct pe kn ac np kc mN pV kV st sn sl scx tT ec er ed eT eb en q_undos q_models PGv f_afterOf f_actMany f_actOf f_whom f_hasIf f_becomes f_goneOf q_taped cr q_people f_secrets f_lanes f_lengths f_cells f_tokens f_afters f_caseMany f_happen f_heard → WW X 4 E 1452 [(3, .int (nI i1)), (2, .ref hm), (1, .ref hx), (0, .ref bb)] [] wsZ (kC + 4) (nC + 73)) : WW X 4 E 1429 [(3, .int (nI i1)), (2, .ref hm), (1, .ref hx), (0, .ref bb)] [] ws kC nC := by
  obtain ⟨a0, ea0⟩ : ∃ z : Int32, xs (i1 + 1) = z := ⟨_, rfl⟩
  refine ww_aload_n C dL_law_1429 2 rfl rfl ?_
  refine ww_aload_n C dL_law_1430 3 rfl rfl ?_
  refine ww_iload_n C dL_law_1431 0 rfl rfl ?_
  refine ww_iconst (v := 1) C dL_law_1432 rfl ?_
  refine ww_iadd (v := (nI (i1 + 1))) C dL_law_1433 (nI_add i1 1) ?_
  refine ww_sld (v := a0) C hs (vp_in_nI (by omega) (by omega)) (ldn (by omega) ea0) dL_law_1434 ?_
  refine cx_count C rfl ⟨by omega, by omega⟩ hS (fun r_1 ws_2 hS_3 hE_4 => ?_)
  replace hE_4 := hd_mk hE_4
  refine ww_pop C dL_law_1438 rfl ?_
  refine ww_aload_n C dL_law_1439 1 rfl rfl ?_
  refine ww_aload_n C dL_law_1440 3 rfl rfl ?_
  refine ww_iload_n C dL_law_1441 0 rfl rfl ?_
  refine ww_iconst (v := 1) C dL_law_1442 rfl ?_
  refine ww_iadd (v := (nI (i1 + 1))) C dL_law_1443 (nI_add i1 1) ?_
  refine ww_sld (v := a0) C hs (vp_in_nI (by omega) (by omega)) (ldn (by omega) ea0) dL_law_1444 ?_
  refine my_count C rfl ⟨by omega, by omega⟩ hS_3 (fun r_5 ws_6 hS_7 hE_8 => ?_)
  replace hE_8 := hd_mk hE_8
  refine ww_pop C dL_law_1448 rfl ?_
  refine ww_goto (tgt := 1452) C dL_law_1449 (by decide) ?_
  exact ww_wid (by omega) (by omega) (kk tl ct pe kn ac np kc mN pV kV st sn sl scx tT ec er ed eT eb en q_undos q_models PGv f_afterOf f_actMany f_actOf f_whom f_hasIf f_becomes f_goneOf q_taped cr q_people f_secrets f_lanes f_lengths f_cells f_tokens f_afters f_caseMany f_happen f_heard _ hS_7 hR)
end
section
theorem dL_law_18 : decode cL_law 18 = .ok (.iload_n 3, 1) := dl_29 (by decide +kernel)
theorem dL_law_19 : decode cL_law 19 = .ok (.aload_n 0, 1) := dl_42 (by decide +kernel)
theorem dL_law_20 : decode cL_law 20 = .ok (.arraylength, 1) := dl_190 (by decide +kernel)
theorem dL_law_21 : decode cL_law 21 = .ok (.bipush 6, 2) := dl_16 (by decide +kernel)
theorem dL_law_23 : decode cL_law 23 = .ok (.isub, 1) := dl_100 (by decide +kernel)
theorem dL_law_24 : decode cL_law 24 = .ok (.if_icmp .gt 1434, 3) := dl_163 (by decide +kernel)
theorem dL_law_1458 : decode cL_law 1458 = .ok (.iconst 1, 1) := dl_4 (by decide +kernel)
theorem dL_law_1459 : decode cL_law 1459 = .ok (.ireturn, 1) := dl_172 (by decide +kernel)
theorem dL_law_27 : decode cL_law 27 = .ok (.aload_n 0, 1) := dl_42 (by decide +kernel)
theorem dL_law_28 : decode cL_law 28 = .ok (.iload_n 3, 1) := dl_29 (by decide +kernel)
theorem dL_law_29 : decode cL_law 29 = .ok (.iaload, 1) := dl_46 (by decide +kernel)
theorem dL_law_30 : decode cL_law 30 = .ok (.bipush 63, 2) := dl_16 (by decide +kernel)
theorem dL_law_32 : decode cL_law 32 = .ok (.iand, 1) := dl_126 (by decide +kernel)
theorem dL_law_1452 : decode cL_law 1452 = .ok (.iinc 3 6, 3) := dl_132 (by decide +kernel)
theorem dL_law_1455 : decode cL_law 1455 = .ok (.goto (-1437), 3) := dl_167 (by decide +kernel)
theorem dL_law_33 : decode cL_law 33 = .ok (.tableswitch 1419 0 37 #[167, 190, 285, 308, 331, 364, 397, 450, 473, 496, 509, 542, 565, 588, 621, 684, 763, 796, 849, 872, 885, 908, 941, 954, 967, 990, 1013, 1046, 1089, 1142, 1165, 1198, 1221, 1244, 1287, 1330, 1383, 1396], 167) := by decide +kernel
set_option maxRecDepth 100000 in
set_option maxHeartbeats 4000000 in
theorem law_loop {X : XT} {E : EV} {xs : Nat → Int32} {bb L hx hm : Nat} (C : CX X room_1 cL_law 4 RL ret E) (hs : SX X bb L xs) (hL : L ≤ 3072) (hq : X.2.2.2.2.2.2.2.2.2.2.2 = lw_Z X.2.2.2.2.2.2.2.1 X.2.2.2.2.2.2.1 X.2.2.2.2.1 ∧ X.2.2.2.2.2.2.1 = #[Value.ref bb] ∧ X.2.2.2.2.2.2.2.2.2.2.1 = fun q => X.2.2.2.2.1.heap.size ≤ q) : ∀ (fu : Nat) (tl : Nat) (ct : Nat → Int) (pe : Nat) (kn : Int32) (ac : Nat) (np : Nat) (kc : Nat) (mN : AM) (pV : Nat → AM) (kV : Nat → AM) (st : Nat → Nat) (sn : Nat → Nat) (sl : Nat → Nat) (scx : Nat → Nat → Int32) (tT : Nat → Option SVal) (ec : Nat → Nat) (er : Nat → Nat) (ed : Nat → Nat → Int32) (eT : Nat → Nat → Option SVal) (eb : Nat → Nat → Int32) (en : Nat → Nat → Int32) (q_undos : Nat) (q_models : Nat) (PGv : Nat → AM) (f_afterOf : Nat → Int32) (f_actMany : Nat → Int32) (f_actOf : Nat → Int32) (f_whom : Nat → Int32) (f_hasIf : Nat → Int32) (f_becomes : Nat → Int32) (f_goneOf : Nat → Int32) (q_taped : Nat) (cr : Nat → Int) (q_people : Nat) (f_secrets : Nat → Int32) (f_lanes : Nat → Int32) (f_lengths : Nat → Int32) (f_cells : Nat → Int32) (f_tokens : Nat → Int32) (f_afters : Nat → Int32) (f_caseMany : Nat → Int32) (f_happen : Nat → Int32) (f_heard : Nat → Int32) (c : Nat) (ws : va_W), 6 * c ≤ L → ST E hx hm tl ct pe kn ac np kc mN pV kV st sn sl scx tT ec er ed eT eb en q_undos q_models PGv f_afterOf f_actMany f_actOf f_whom f_hasIf f_becomes f_goneOf q_taped cr q_people f_secrets f_lanes f_lengths f_cells f_tokens f_afters f_caseMany f_happen f_heard ws → RL_ tl ct pe kn ac np kc mN pV kV st sn sl scx tT ec er ed eT eb en q_undos q_models PGv f_afterOf f_actMany f_actOf f_whom f_hasIf f_becomes f_goneOf q_taped cr q_people f_secrets f_lanes f_lengths f_cells f_tokens f_afters f_caseMany f_happen f_heard → L - 6 * c < fu → WW X 4 E 18 [(3, .int (nI (6 * c))), (2, .ref hm), (1, .ref hx), (0, .ref bb)] [] ws (168 + 4 * c) (11526 + 73 * c) := by
  intro fu
  induction fu with
  | zero => intro tl ct pe kn ac np kc mN pV kV st sn sl scx tT ec er ed eT eb en q_undos q_models PGv f_afterOf f_actMany f_actOf f_whom f_hasIf f_becomes f_goneOf q_taped cr q_people f_secrets f_lanes f_lengths f_cells f_tokens f_afters f_caseMany f_happen f_heard c ws hc hS hR hm9; exact absurd hm9 (Nat.not_lt_zero _)
  | succ fu ih =>
    intro tl ct pe kn ac np kc mN pV kV st sn sl scx tT ec er ed eT eb en q_undos q_models PGv f_afterOf f_actMany f_actOf f_whom f_hasIf f_becomes f_goneOf q_taped cr q_people f_secrets f_lanes f_lengths f_cells f_tokens f_afters f_caseMany f_happen f_heard c ws hc hS hR hm9
    refine ww_iload_n C dL_law_18 0 rfl rfl ?_
    refine ww_aload_n C dL_law_19 3 rfl rfl ?_
    refine ww_slen (v := (nI L)) C hs rfl dL_law_20 ?_
    refine ww_bipush (v := 6) C dL_law_21 rfl ?_
    obtain ⟨x_1, ex_1⟩ : ∃ z : Int32, (nI L) - (6 : Int32) = z := ⟨_, rfl⟩
    have zx_1 : x_1.toInt = ((L : Nat) : Int) - 6 := by rw [← ex_1]; exact i_sub (nI_toInt (n := L) (by omega)) rfl (by omega) (by omega)
    refine ww_isub (v := x_1) C dL_law_23 ex_1 ?_
    refine ww_icmp_gt (tgt := 1458) C dL_law_24 (by decide) (fun c_2 => ?_) (fun c_2 => ?_)
    · have zc_2 : (((6 * c) : Nat) : Int) > (((L : Nat) : Int) - 6) := i_lt zx_1 (nI_toInt (n := (6 * c)) (by omega)) c_2
      refine ww_iconst (v := 1) C dL_law_1458 rfl ?_
      exact ww_lawret C hq (Nat.ble_eq_true_of_le (by omega)) (Nat.ble_eq_true_of_le (by omega)) dL_law_1459
    · have zc_2 : (((6 * c) : Nat) : Int) ≤ (((L : Nat) : Int) - 6) := i_nlt zx_1 (nI_toInt (n := (6 * c)) (by omega)) c_2
      refine ww_aload_n C dL_law_27 3 rfl rfl ?_
      refine ww_iload_n C dL_law_28 0 rfl rfl ?_
      obtain ⟨a_3, ea_3⟩ : ∃ z : Int32, xs (6 * c) = z := ⟨_, rfl⟩
      refine ww_sld (v := a_3) C hs (vp_in_nI (by omega) (by omega)) (ldn (by omega) ea_3) dL_law_29 ?_
      refine ww_bipush (v := 63) C dL_law_30 rfl ?_
      obtain ⟨x_4, ex_4⟩ : ∃ z : Int32, a_3 &&& (63 : Int32) = z := ⟨_, rfl⟩
      refine ww_iand (v := x_4) C dL_law_32 ex_4 ?_
      have kk : ∀ (tlZ : Nat) (ctZ : Nat → Int) (peZ : Nat) (knZ : Int32) (acZ : Nat) (npZ : Nat) (kcZ : Nat) (mNZ : AM) (pVZ : Nat → AM) (kVZ : Nat → AM) (stZ : Nat → Nat) (snZ : Nat → Nat) (slZ : Nat → Nat) (scxZ : Nat → Nat → Int32) (tTZ : Nat → Option SVal) (ecZ : Nat → Nat) (erZ : Nat → Nat) (edZ : Nat → Nat → Int32) (eTZ : Nat → Nat → Option SVal) (ebZ : Nat → Nat → Int32) (enZ : Nat → Nat → Int32) (q_undosZ : Nat) (q_modelsZ : Nat) (PGvZ : Nat → AM) (f_afterOfZ : Nat → Int32) (f_actManyZ : Nat → Int32) (f_actOfZ : Nat → Int32) (f_whomZ : Nat → Int32) (f_hasIfZ : Nat → Int32) (f_becomesZ : Nat → Int32) (f_goneOfZ : Nat → Int32) (q_tapedZ : Nat) (crZ : Nat → Int) (q_peopleZ : Nat) (f_secretsZ : Nat → Int32) (f_lanesZ : Nat → Int32) (f_lengthsZ : Nat → Int32) (f_cellsZ : Nat → Int32) (f_tokensZ : Nat → Int32) (f_aftersZ : Nat → Int32) (f_caseManyZ : Nat → Int32) (f_happenZ : Nat → Int32) (f_heardZ : Nat → Int32) (wsZ : va_W), ST E hx hm tlZ ctZ peZ knZ acZ npZ kcZ mNZ pVZ kVZ stZ snZ slZ scxZ tTZ ecZ erZ edZ eTZ ebZ enZ q_undosZ q_modelsZ PGvZ f_afterOfZ f_actManyZ f_actOfZ f_whomZ f_hasIfZ f_becomesZ f_goneOfZ q_tapedZ crZ q_peopleZ f_secretsZ f_lanesZ f_lengthsZ f_cellsZ f_tokensZ f_aftersZ f_caseManyZ f_happenZ f_heardZ wsZ → RL_ tlZ ctZ peZ knZ acZ npZ kcZ mNZ pVZ kVZ stZ snZ slZ scxZ tTZ ecZ erZ edZ eTZ ebZ enZ q_undosZ q_modelsZ PGvZ f_afterOfZ f_actManyZ f_actOfZ f_whomZ f_hasIfZ f_becomesZ f_goneOfZ q_tapedZ crZ q_peopleZ f_secretsZ f_lanesZ f_lengthsZ f_cellsZ f_tokensZ f_aftersZ f_caseManyZ f_happenZ f_heardZ → WW X 4 E 1452 [(3, .int (nI (6 * c))), (2, .ref hm), (1, .ref hx), (0, .ref bb)] [] wsZ (168 + 4 * c + 4) (11526 + 73 * c + 73) := by
        intro tlZ ctZ peZ knZ acZ npZ kcZ mNZ pVZ kVZ stZ snZ slZ scxZ tTZ ecZ erZ edZ eTZ ebZ enZ q_undosZ q_modelsZ PGvZ f_afterOfZ f_actManyZ f_actOfZ f_whomZ f_hasIfZ f_becomesZ f_goneOfZ q_tapedZ crZ q_peopleZ f_secretsZ f_lanesZ f_lengthsZ f_cellsZ f_tokensZ f_aftersZ f_caseManyZ f_happenZ f_heardZ wsZ hSZ hRZ
        refine ww_iinc (j := 0) (v := (nI ((6 * c) + 6))) (lv' := [(3, .int (nI ((6 * c) + 6))), (2, .ref hm), (1, .ref hx), (0, .ref bb)]) C dL_law_1452 rfl (nI_add (6 * c) 6) rfl rfl ?_
        refine ww_goto (tgt := 18) C dL_law_1455 (by decide) ?_
        have h9 := ih tlZ ctZ peZ knZ acZ npZ kcZ mNZ pVZ kVZ stZ snZ slZ scxZ tTZ ecZ erZ edZ eTZ ebZ enZ q_undosZ q_modelsZ PGvZ f_afterOfZ f_actManyZ f_actOfZ f_whomZ f_hasIfZ f_becomesZ f_goneOfZ q_tapedZ crZ q_peopleZ f_secretsZ f_lanesZ f_lengthsZ f_cellsZ f_tokensZ f_aftersZ f_caseManyZ f_happenZ f_heardZ (c + 1) _ (by omega) hSZ hRZ (by omega)
        rw [show 6 * (c + 1) = 6 * c + 6 by omega, show 168 + 4 * (c + 1) = 168 + 4 * c + 4 by omega, show 11526 + 73 * (c + 1) = 11526 + 73 * c + 73 by omega] at h9
        exact h9
      by_cases c_5 : (0 : Int) ≤ x_4.toInt ∧ x_4.toInt ≤ 37
      · rcases sp_0_37 (x := x_4) (by omega) (by omega) with rfl | rfl | rfl | rfl | rfl | rfl | rfl | rfl | rfl | rfl | rfl | rfl | rfl | rfl | rfl | rfl | rfl | rfl | rfl | rfl | rfl | rfl | rfl | rfl | rfl | rfl | rfl | rfl | rfl | rfl | rfl | rfl | rfl | rfl | rfl | rfl | rfl | rfl
        · refine ww_tableIn (tgt := 200) C dL_law_33 (by decide) (by decide) rfl (by decide) ?_
          exact lawc_world C hs (by omega) hL (by omega) hS hR kk
        · refine ww_tableIn (tgt := 223) C dL_law_33 (by decide) (by decide) rfl (by decide) ?_
          exact lawc_sees C hs (by omega) hL (by omega) hS hR kk
        · refine ww_tableIn (tgt := 318) C dL_law_33 (by decide) (by decide) rfl (by decide) ?_
          exact lawc_blind C hs (by omega) hL (by omega) hS hR kk
        · refine ww_tableIn (tgt := 341) C dL_law_33 (by decide) (by decide) rfl (by decide) ?_
          exact lawc_real C hs (by omega) hL (by omega) hS hR kk
        · refine ww_tableIn (tgt := 364) C dL_law_33 (by decide) (by decide) rfl (by decide) ?_
          exact lawc_of C hs (by omega) hL (by omega) hS hR kk
        · refine ww_tableIn (tgt := 397) C dL_law_33 (by decide) (by decide) rfl (by decide) ?_
          exact lawc_reach C hs (by omega) hL (by omega) hS hR kk
        · refine ww_tableIn (tgt := 430) C dL_law_33 (by decide) (by decide) rfl (by decide) ?_
          exact lawc_feed C hs (by omega) hL (by omega) hS hR kk
        · refine ww_tableIn (tgt := 483) C dL_law_33 (by decide) (by decide) rfl (by decide) ?_
          exact lawc_end C hs (by omega) hL (by omega) hS hR kk
        · refine ww_tableIn (tgt := 506) C dL_law_33 (by decide) (by decide) rfl (by decide) ?_
          exact lawc_say C hs (by omega) hL (by omega) hS hR kk
        · refine ww_tableIn (tgt := 529) C dL_law_33 (by decide) (by decide) rfl (by decide) ?_
          exact lawc_fault C hs (by omega) hL (by omega) hS hR kk
        · refine ww_tableIn (tgt := 542) C dL_law_33 (by decide) (by decide) rfl (by decide) ?_
          exact lawc_saying C hs (by omega) hL (by omega) hS hR kk
        · refine ww_tableIn (tgt := 575) C dL_law_33 (by decide) (by decide) rfl (by decide) ?_
          exact lawc_truth C hs (by omega) hL (by omega) hS hR kk
        · refine ww_tableIn (tgt := 598) C dL_law_33 (by decide) (by decide) rfl (by decide) ?_
          exact lawc_holds C hs (by omega) hL (by omega) hS hR kk
        · refine ww_tableIn (tgt := 621) C dL_law_33 (by decide) (by decide) rfl (by decide) ?_
          exact lawc_event C hs (by omega) hL (by omega) hS hR kk
        · refine ww_tableIn (tgt := 654) C dL_law_33 (by decide) (by decide) rfl (by decide) ?_
          exact lawc_when C hs (by omega) hL (by omega) hS hR kk
        · refine ww_tableIn (tgt := 717) C dL_law_33 (by decide) (by decide) rfl (by decide) ?_
          exact lawc_hears C hs (by omega) hL (by omega) hS hR kk
        · refine ww_tableIn (tgt := 796) C dL_law_33 (by decide) (by decide) rfl (by decide) ?_
          exact lawc_happens C hs (by omega) hL (by omega) hS hR kk
        · refine ww_tableIn (tgt := 829) C dL_law_33 (by decide) (by decide) rfl (by decide) ?_
          exact lawc_word C hs (by omega) hL (by omega) hS hR kk
        · refine ww_tableIn (tgt := 882) C dL_law_33 (by decide) (by decide) rfl (by decide) ?_
          exact lawc_lay C hs (by omega) hL (by omega) hS hR kk
        · refine ww_tableIn (tgt := 905) C dL_law_33 (by decide) (by decide) rfl (by decide) ?_
          exact lawc_classes C hs (by omega) hL (by omega) hS hR kk
        · refine ww_tableIn (tgt := 918) C dL_law_33 (by decide) (by decide) rfl (by decide) ?_
          exact lawc_classOf C hs (by omega) hL (by omega) hS hR kk
        · refine ww_tableIn (tgt := 941) C dL_law_33 (by decide) (by decide) rfl (by decide) ?_
          exact lawc_depth C hs (by omega) hL (by omega) hS hR kk
        · refine ww_tableIn (tgt := 974) C dL_law_33 (by decide) (by decide) rfl (by decide) ?_
          exact lawc_melt C hs (by omega) hL (by omega) hS hR kk
        · refine ww_tableIn (tgt := 987) C dL_law_33 (by decide) (by decide) rfl (by decide) ?_
          exact lawc_keep C hs (by omega) hL (by omega) hS hR kk
        · refine ww_tableIn (tgt := 1000) C dL_law_33 (by decide) (by decide) rfl (by decide) ?_
          exact lawc_stand C hs (by omega) hL (by omega) hS hR kk
        · refine ww_tableIn (tgt := 1023) C dL_law_33 (by decide) (by decide) rfl (by decide) ?_
          exact lawc_same C hs (by omega) hL (by omega) hS hR kk
        · refine ww_tableIn (tgt := 1046) C dL_law_33 (by decide) (by decide) rfl (by decide) ?_
          exact lawc_turn C hs (by omega) hL (by omega) hS hR kk
        · refine ww_tableIn (tgt := 1079) C dL_law_33 (by decide) (by decide) rfl (by decide) ?_
          exact lawc_turns C hs (by omega) hL (by omega) hS hR kk
        · refine ww_tableIn (tgt := 1122) C dL_law_33 (by decide) (by decide) rfl (by decide) ?_
          exact lawc_plan C hs (by omega) hL (by omega) hS hR kk
        · refine ww_tableIn (tgt := 1175) C dL_law_33 (by decide) (by decide) rfl (by decide) ?_
          exact lawc_people C hs (by omega) hL (by omega) hS hR kk
        · refine ww_tableIn (tgt := 1198) C dL_law_33 (by decide) (by decide) rfl (by decide) ?_
          exact lawc_call C hs (by omega) hL (by omega) hS hR kk
        · refine ww_tableIn (tgt := 1231) C dL_law_33 (by decide) (by decide) rfl (by decide) ?_
          exact lawc_secrets C hs (by omega) hL (by omega) hS hR kk
        · refine ww_tableIn (tgt := 1254) C dL_law_33 (by decide) (by decide) rfl (by decide) ?_
          exact lawc_fewest C hs (by omega) hL (by omega) hS hR kk
        · refine ww_tableIn (tgt := 1277) C dL_law_33 (by decide) (by decide) rfl (by decide) ?_
          exact lawc_sheet C hs (by omega) hL (by omega) hS hR kk
        · refine ww_tableIn (tgt := 1320) C dL_law_33 (by decide) (by decide) rfl (by decide) ?_
          exact lawc_write C hs (by omega) hL (by omega) hS hR kk
        · refine ww_tableIn (tgt := 1363) C dL_law_33 (by decide) (by decide) rfl (by decide) ?_
          exact lawc_read C hs (by omega) hL (by omega) hS hR kk
        · refine ww_tableIn (tgt := 1416) C dL_law_33 (by decide) (by decide) rfl (by decide) ?_
          exact lawc_undo C hs (by omega) hL (by omega) hS hR kk
        · refine ww_tableIn (tgt := 1429) C dL_law_33 (by decide) (by decide) rfl (by decide) ?_
          exact lawc_count C hs (by omega) hL (by omega) hS hR kk
      · refine ww_tableOut (tgt := 1452) C dL_law_33 (by omega) (by decide) ?_
        exact ww_wid (by omega) (by omega) (kk tl ct pe kn ac np kc mN pV kV st sn sl scx tT ec er ed eT eb en q_undos q_models PGv f_afterOf f_actMany f_actOf f_whom f_hasIf f_becomes f_goneOf q_taped cr q_people f_secrets f_lanes f_lengths f_cells f_tokens f_afters f_caseMany f_happen f_heard _ hS hR)
end
