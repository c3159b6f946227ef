theorem dL_law_1175 : decode cL_law 1175 = .ok (.aload_n 1, 1) := by decide +kernel
theorem dL_law_1176 : decode cL_law 1176 = .ok (.aload_n 0, 1) := by decide +kernel
theorem dL_law_1177 : decode cL_law 1177 = .ok (.iload_n 3, 1) := by decide +kernel
theorem dL_law_1178 : decode cL_law 1178 = .ok (.iconst 1, 1) := by decide +kernel
theorem dL_law_1179 : decode cL_law 1179 = .ok (.iadd, 1) := by decide +kernel
theorem dL_law_1180 : decode cL_law 1180 = .ok (.iaload, 1) := by decide +kernel
theorem dL_law_1184 : decode cL_law 1184 = .ok (.pop, 1) := by decide +kernel
theorem dL_law_1185 : decode cL_law 1185 = .ok (.aload_n 2, 1) := by decide +kernel
theorem dL_law_1186 : decode cL_law 1186 = .ok (.aload_n 0, 1) := by decide +kernel
theorem dL_law_1187 : decode cL_law 1187 = .ok (.iload_n 3, 1) := by decide +kernel
theorem dL_law_1188 : decode cL_law 1188 = .ok (.iconst 1, 1) := by decide +kernel
theorem dL_law_1189 : decode cL_law 1189 = .ok (.iadd, 1) := by decide +kernel
theorem dL_law_1190 : decode cL_law 1190 = .ok (.iaload, 1) := by decide +kernel
theorem dL_law_1194 : decode cL_law 1194 = .ok (.pop, 1) := by decide +kernel
theorem dL_law_1195 : decode cL_law 1195 = .ok (.goto 257, 3) := by decide +kernel
set_option maxRecDepth 100000 in
set_option maxHeartbeats 4000000 in
theorem lawc_people {X : XT} {E : EV} {xs : Nat → Int32} {ws : va_W} {bb L hx hm i1 kC nC : Nat} {tl : Nat} {ct : Nat → Int} {pe : Nat} {kn : Int32} {ac : Nat} {np : Nat} {kc : Nat} {mN : AM} {pV : Nat → AM} {kV : Nat → AM} {st : Nat → Nat} {sn : Nat → Nat} {sl : Nat → Nat} {scx : Nat → Nat → Int32} {tT : Nat → Option SVal} {ec : Nat → Nat} {er : Nat → Nat} {ed : Nat → Nat → Int32} {eT : Nat → Nat → Option SVal} {eb : Nat → Nat → Int32} {en : Nat → Nat → Int32} {q_undos : Nat} {q_models : Nat} {PGv : Nat → AM} {f_afterOf : Nat → Int32} {f_actMany : Nat → Int32} {f_actOf : Nat → Int32} {f_whom : Nat → Int32} {f_hasIf : Nat → Int32} {f_becomes : Nat → Int32} {f_goneOf : Nat → Int32} {q_taped : Nat} {cr : Nat → Int} {q_people : Nat} {f_secrets : Nat → Int32} {f_lanes : Nat → Int32} {f_lengths : Nat → Int32} {f_cells : Nat → Int32} {f_tokens : Nat → Int32} {f_afters : Nat → Int32} {f_caseMany : Nat → Int32} {f_happen : Nat → Int32} {f_heard : Nat → Int32} (C : CX X room_1 cL_law 4 RL ret E) (hs : SX X bb L xs) (hi : i1 + 6 ≤ L) (hL : L ≤ 3072) (hk : kC + 4 ≤ 600000 ∧ nC + 73 ≤ 7302250) (hS : ST E hx hm tl ct pe kn ac np kc mN pV kV st sn sl scx tT ec er ed eT eb en q_undos q_models PGv f_afterOf f_actMany f_actOf f_whom f_hasIf f_becomes f_goneOf q_taped cr q_people f_secrets f_lanes f_lengths f_cells f_tokens f_afters f_caseMany f_happen f_heard ws) (hR : RL_ tl ct pe kn ac np kc mN pV kV st sn sl scx tT ec er ed eT eb en q_undos q_models PGv f_afterOf f_actMany f_actOf f_whom f_hasIf f_becomes f_goneOf q_taped cr q_people f_secrets f_lanes f_lengths f_cells f_tokens f_afters f_caseMany f_happen f_heard) (kk : ∀ (tl : Nat) (ct : Nat → Int) (pe : Nat) (kn : Int32) (ac : Nat) (np : Nat) (kc : Nat) (mN : AM) (pV : Nat → AM) (kV : Nat → AM) (st : Nat → Nat) (sn : Nat → Nat) (sl : Nat → Nat) (scx : Nat → Nat → Int32) (tT : Nat → Option SVal) (ec : Nat → Nat) (er : Nat → Nat) (ed : Nat → Nat → Int32) (eT : Nat → Nat → Option SVal) (eb : Nat → Nat → Int32) (en : Nat → Nat → Int32) (q_undos : Nat) (q_models : Nat) (PGv : Nat → AM) (f_afterOf : Nat → Int32) (f_actMany : Nat → Int32) (f_actOf : Nat → Int32) (f_whom : Nat → Int32) (f_hasIf : Nat → Int32) (f_becomes : Nat → Int32) (f_goneOf : Nat → Int32) (q_taped : Nat) (cr : Nat → Int) (q_people : Nat) (f_secrets : Nat → Int32) (f_lanes : Nat → Int32) (f_lengths : Nat → Int32) (f_cells : Nat → Int32) (f_tokens : Nat → Int32) (f_afters : Nat → Int32) (f_caseMany : Nat → Int32) (f_happen : Nat → Int32) (f_heard : Nat → Int32) (wsZ : va_W), ST E hx hm tl ct pe kn ac np kc mN pV kV st sn sl scx tT ec er ed eT eb en q_undos q_models PGv f_afterOf f_actMany f_actOf f_whom f_hasIf f_becomes f_goneOf q_taped cr q_people f_secrets f_lanes f_lengths f_cells f_tokens f_afters f_caseMany f_happen f_heard wsZ → RL_ tl ct pe kn ac np kc mN pV kV st sn sl scx tT ec er ed eT eb en q_undos q_models PGv f_afterOf f_actMany f_actOf f_whom f_hasIf f_becomes f_goneOf q_taped cr q_people f_secrets f_lanes f_lengths f_cells f_tokens f_afters f_caseMany f_happen f_heard → WW X 4 E 1452 [(3, .int (nI i1)), (2, .ref hm), (1, .ref hx), (0, .ref bb)] [] wsZ (kC + 4) (nC + 73)) : WW X 4 E 1175 [(3, .int (nI i1)), (2, .ref hm), (1, .ref hx), (0, .ref bb)] [] ws kC nC := by
  obtain ⟨a0, ea0⟩ : ∃ z : Int32, xs (i1 + 1) = z := ⟨_, rfl⟩
  refine ww_aload_n C dL_law_1175 2 rfl rfl ?_
  refine ww_aload_n C dL_law_1176 3 rfl rfl ?_
  refine ww_iload_n C dL_law_1177 0 rfl rfl ?_
  refine ww_iconst (v := 1) C dL_law_1178 rfl ?_
  refine ww_iadd (v := (nI (i1 + 1))) C dL_law_1179 (nI_add i1 1) ?_
  refine ww_sld (v := a0) C hs (vp_in_nI (by omega) (by omega)) (ldn (by omega) ea0) dL_law_1180 ?_
  refine cx_people C rfl ⟨by omega, by omega⟩ hS (fun r_1 pe_5 kn_6 ws_2 hS_3 hE_4 => ?_)
  replace hE_4 := hd_mk hE_4
  refine ww_pop C dL_law_1184 rfl ?_
  refine ww_aload_n C dL_law_1185 1 rfl rfl ?_
  refine ww_aload_n C dL_law_1186 3 rfl rfl ?_
  refine ww_iload_n C dL_law_1187 0 rfl rfl ?_
  refine ww_iconst (v := 1) C dL_law_1188 rfl ?_
  refine ww_iadd (v := (nI (i1 + 1))) C dL_law_1189 (nI_add i1 1) ?_
  refine ww_sld (v := a0) C hs (vp_in_nI (by omega) (by omega)) (ldn (by omega) ea0) dL_law_1190 ?_
  refine my_people C rfl ⟨by omega, by omega⟩ hS_3 (fun r_7 q_people_11 f_secrets_12 ws_8 hS_9 hE_10 => ?_)
  replace hE_10 := hd_mk hE_10
  refine ww_pop C dL_law_1194 rfl ?_
  refine ww_goto (tgt := 1452) C dL_law_1195 (by decide) ?_
  exact ww_wid (by omega) (by omega) (kk tl ct pe_5 kn_6 ac np kc mN pV kV st sn sl scx tT ec er ed eT eb en q_undos q_models PGv f_afterOf f_actMany f_actOf f_whom f_hasIf f_becomes f_goneOf q_taped cr q_people_11 f_secrets_12 f_lanes f_lengths f_cells f_tokens f_afters f_caseMany f_happen f_heard _ hS_9 ⟨hR.1, hR.2.1, (re_people hE_4 hE_10 hR (ST.tl hS)).1, (re_people hE_4 hE_10 hR (ST.tl hS)).2, hR.2.2.2.2.1, hR.2.2.2.2.2.1, hR.2.2.2.2.2.2.1, hR.2.2.2.2.2.2.2.1, hR.2.2.2.2.2.2.2.2.1, hR.2.2.2.2.2.2.2.2.2.1, hR.2.2.2.2.2.2.2.2.2.2.1, hR.2.2.2.2.2.2.2.2.2.2.2⟩)
