section
set_option maxRecDepth 100000 in
theorem my_world {X : XT} {E : EV} {ws : va_W} {lv : List (Nat × Value)} {rest : List Value} {kC nC : Nat} {hx hm : Nat} {tl : Nat} {ct : Nat → Int} {pe : Nat} {kn : Int32} {ac : Nat} {np : Nat} {kc : Nat} {mN : AM} {pV : Nat → AM} {kV : Nat → AM} {st : Nat → Nat} {sn : Nat → Nat} {sl : Nat → Nat} {scx : Nat → Nat → Int32} {tT : Nat → Option SVal} {ec : Nat → Nat} {er : Nat → Nat} {ed : Nat → Nat → Int32} {eT : Nat → Nat → Option SVal} {eb : Nat → Nat → Int32} {en : Nat → Nat → Int32} {q_undos : Nat} {q_models : Nat} {PGv : Nat → AM} {f_afterOf : Nat → Int32} {f_actMany : Nat → Int32} {f_actOf : Nat → Int32} {f_whom : Nat → Int32} {f_hasIf : Nat → Int32} {f_becomes : Nat → Int32} {f_goneOf : Nat → Int32} {q_taped : Nat} {cr : Nat → Int} {q_people : Nat} {f_secrets : Nat → Int32} {f_lanes : Nat → Int32} {f_lengths : Nat → Int32} {f_cells : Nat → Int32} {f_tokens : Nat → Int32} {f_afters : Nat → Int32} {f_caseMany : Nat → Int32} {f_happen : Nat → Int32} {f_heard : Nat → Int32} {v0 : Int32} (C : CX X room_1 cL_law 4 RL ret E) (hW : Nat.ble (rest.map fun v => v.category).sum 8 = true) (hk : kC ≤ 600000 ∧ nC ≤ 7302250) (hS : ST E hx hm tl ct pe kn ac np kc mN pV kV st sn sl scx tT ec er ed eT eb en q_undos q_models PGv f_afterOf f_actMany f_actOf f_whom f_hasIf f_becomes f_goneOf q_taped cr q_people f_secrets f_lanes f_lengths f_cells f_tokens f_afters f_caseMany f_happen f_heard ws) (kont : ∀ (rr : Int32) (q_undosZ : Nat) (PGvZ : Nat → AM) (wsZ : va_W), ST E hx hm tl ct pe kn ac np kc mN pV kV st sn sl scx tT ec er ed eT eb en q_undosZ q_models PGvZ f_afterOf f_actMany f_actOf f_whom f_hasIf f_becomes f_goneOf q_taped cr q_people f_secrets f_lanes f_lengths f_cells f_tokens f_afters f_caseMany f_happen f_heard wsZ → (((asM q_undosZ PGvZ), rr) = opWorld (asM q_undos PGv) v0 ∧ KP6 PGv PGvZ) → WW X 4 E 219 lv (.int rr :: rest) wsZ kC nC) : WW X 4 E 216 lv (.int v0 :: .ref hm :: rest) ws kC nC := by
  unfold ST at hS
  refine ex8 hS ?_
  clear hS
  intro h qp qs qj ly qh kk rd hS
  refine ex8 hS ?_
  clear hS
  intro pg ss w_now w_past w_pars w_judg w_layr w_heap hS
  refine ex6 hS ?_
  clear hS
  intro w_kept w_rnds w_plnr w_shts wm ro hS
  refine an8 hS ?_
  clear hS
  intro hac hnp hkc hpe H_now H_past H_pars H_judg hS
  refine an7 hS ?_
  clear hS
  intro H_layr H_heap H_kept H_rnds H_plnr H_shts H_ref hS
  have we_st := hS
  clear hS
  subst we_st
  refine ww_perm (ws' := wm ++ ([(hx, .inr (11, [.ref h, .ref qp, .int (nI ac), .int (nI np), .ref qs, .ref qj, .ref ly, .ref qh, .ref kk, .int (nI kc), .ref rd, .ref pg, .int (nI pe), .int kn, .ref ss]))] ++ (w_now ++ (w_past ++ (w_pars ++ (w_judg ++ (w_layr ++ (w_heap ++ (w_kept ++ (w_rnds ++ (w_plnr ++ (w_shts ++ ro)))))))))))) ((List.Perm.append_left _ ((List.Perm.append_left _ ((List.Perm.append_left _ ((List.Perm.append_left _ ((List.Perm.append_left _ ((List.Perm.append_left _ ((List.Perm.append_left _ ((List.Perm.append_left _ ((List.Perm.append_left _ ((List.Perm.append_left _ ((List.Perm.append_left _ (List.Perm.refl _)).trans (List.perm_append_comm_assoc _ _ _))).trans (List.perm_append_comm_assoc _ _ _))).trans (List.perm_append_comm_assoc _ _ _))).trans (List.perm_append_comm_assoc _ _ _))).trans (List.perm_append_comm_assoc _ _ _))).trans (List.perm_append_comm_assoc _ _ _))).trans (List.perm_append_comm_assoc _ _ _))).trans (List.perm_append_comm_assoc _ _ _))).trans (List.perm_append_comm_assoc _ _ _))).trans (List.perm_append_comm_assoc _ _ _))).trans (List.perm_append_comm_assoc _ _ _)) ?_
  refine lm_world C hW hk H_ref (fun rr q_undosZ PGvZ wmZ H_refZ hE => ?_)
  refine ww_perm (ws' := [(hx, .inr (11, [.ref h, .ref qp, .int (nI ac), .int (nI np), .ref qs, .ref qj, .ref ly, .ref qh, .ref kk, .int (nI kc), .ref rd, .ref pg, .int (nI pe), .int kn, .ref ss]))] ++ (w_now ++ (w_past ++ (w_pars ++ (w_judg ++ (w_layr ++ (w_heap ++ (w_kept ++ (w_rnds ++ (w_plnr ++ (w_shts ++ (wmZ ++ ro)))))))))))) ((List.Perm.append_left _ ((List.Perm.append_left _ ((List.Perm.append_left _ ((List.Perm.append_left _ ((List.Perm.append_left _ ((List.Perm.append_left _ ((List.Perm.append_left _ ((List.Perm.append_left _ ((List.Perm.append_left _ ((List.Perm.append_left _ ((List.Perm.append_left _ (List.Perm.refl _)).trans (List.perm_append_comm_assoc _ _ _))).trans (List.perm_append_comm_assoc _ _ _))).trans (List.perm_append_comm_assoc _ _ _))).trans (List.perm_append_comm_assoc _ _ _))).trans (List.perm_append_comm_assoc _ _ _))).trans (List.perm_append_comm_assoc _ _ _))).trans (List.perm_append_comm_assoc _ _ _))).trans (List.perm_append_comm_assoc _ _ _))).trans (List.perm_append_comm_assoc _ _ _))).trans (List.perm_append_comm_assoc _ _ _))).trans (List.perm_append_comm_assoc _ _ _)).symm ?_
  exact kont rr q_undosZ PGvZ _ ⟨h, qp, qs, qj, ly, qh, kk, rd, pg, ss, w_now, w_past, w_pars, w_judg, w_layr, w_heap, w_kept, w_rnds, w_plnr, w_shts, wmZ, ro, hac, hnp, hkc, hpe, H_now, H_past, H_pars, H_judg, H_layr, H_heap, H_kept, H_rnds, H_plnr, H_shts, H_refZ, rfl⟩ hE
set_option maxRecDepth 100000 in
theorem my_sees {X : XT} {E : EV} {ws : va_W} {lv : List (Nat × Value)} {rest : List Value} {kC nC : Nat} {hx hm : Nat} {tl : Nat} {ct : Nat → Int} {pe : Nat} {kn : Int32} {ac : Nat} {np : Nat} {kc : Nat} {mN : AM} {pV : Nat → AM} {kV : Nat → AM} {st : Nat → Nat} {sn : Nat → Nat} {sl : Nat → Nat} {scx : Nat → Nat → Int32} {tT : Nat → Option SVal} {ec : Nat → Nat} {er : Nat → Nat} {ed : Nat → Nat → Int32} {eT : Nat → Nat → Option SVal} {eb : Nat → Nat → Int32} {en : Nat → Nat → Int32} {q_undos : Nat} {q_models : Nat} {PGv : Nat → AM} {f_afterOf : Nat → Int32} {f_actMany : Nat → Int32} {f_actOf : Nat → Int32} {f_whom : Nat → Int32} {f_hasIf : Nat → Int32} {f_becomes : Nat → Int32} {f_goneOf : Nat → Int32} {q_taped : Nat} {cr : Nat → Int} {q_people : Nat} {f_secrets : Nat → Int32} {f_lanes : Nat → Int32} {f_lengths : Nat → Int32} {f_cells : Nat → Int32} {f_tokens : Nat → Int32} {f_afters : Nat → Int32} {f_caseMany : Nat → Int32} {f_happen : Nat → Int32} {f_heard : Nat → Int32} {v0 : Int32} {v1 : Int32} {v2 : Int32} {v3 : Int32} {v4 : Int32} (C : CX X room_1 cL_law 4 RL ret E) (hW : Nat.ble (rest.map fun v => v.category).sum 8 = true) (hk : kC ≤ 600000 ∧ nC ≤ 7302250) (hS : ST E hx hm tl ct pe kn ac np kc mN pV kV st sn sl scx tT ec er ed eT eb en q_undos q_models PGv f_afterOf f_actMany f_actOf f_whom f_hasIf f_becomes f_goneOf q_taped cr q_people f_secrets f_lanes f_lengths f_cells f_tokens f_afters f_caseMany f_happen f_heard ws) (kont : ∀ (rr : Int32) (q_undosZ : Nat) (PGvZ : Nat → AM) (wsZ : va_W), ST E hx hm tl ct pe kn ac np kc mN pV kV st sn sl scx tT ec er ed eT eb en q_undosZ q_models PGvZ f_afterOf f_actMany f_actOf f_whom f_hasIf f_becomes f_goneOf q_taped cr q_people f_secrets f_lanes f_lengths f_cells f_tokens f_afters f_caseMany f_happen f_heard wsZ → (((asM q_undosZ PGvZ), rr) = opSees (asM q_undos PGv) v0 v1 v2 v3 v4 ∧ KP6 PGv PGvZ) → WW X 4 E 314 lv (.int rr :: rest) wsZ kC nC) : WW X 4 E 311 lv (.int v4 :: .int v3 :: .int v2 :: .int v1 :: .int v0 :: .ref hm :: rest) ws kC nC := by
  unfold ST at hS
  refine ex8 hS ?_
  clear hS
  intro h qp qs qj ly qh kk rd hS
  refine ex8 hS ?_
  clear hS
  intro pg ss w_now w_past w_pars w_judg w_layr w_heap hS
  refine ex6 hS ?_
  clear hS
  intro w_kept w_rnds w_plnr w_shts wm ro hS
  refine an8 hS ?_
  clear hS
  intro hac hnp hkc hpe H_now H_past H_pars H_judg hS
  refine an7 hS ?_
  clear hS
  intro H_layr H_heap H_kept H_rnds H_plnr H_shts H_ref hS
  have we_st := hS
  clear hS
  subst we_st
  refine ww_perm (ws' := wm ++ ([(hx, .inr (11, [.ref h, .ref qp, .int (nI ac), .int (nI np), .ref qs, .ref qj, .ref ly, .ref qh, .ref kk, .int (nI kc), .ref rd, .ref pg, .int (nI pe), .int kn, .ref ss]))] ++ (w_now ++ (w_past ++ (w_pars ++ (w_judg ++ (w_layr ++ (w_heap ++ (w_kept ++ (w_rnds ++ (w_plnr ++ (w_shts ++ ro)))))))))))) ((List.Perm.append_left _ ((List.Perm.append_left _ ((List.Perm.append_left _ ((List.Perm.append_left _ ((List.Perm.append_left _ ((List.Perm.append_left _ ((List.Perm.append_left _ ((List.Perm.append_left _ ((List.Perm.append_left _ ((List.Perm.append_left _ ((List.Perm.append_left _ (List.Perm.refl _)).trans (List.perm_append_comm_assoc _ _ _))).trans (List.perm_append_comm_assoc _ _ _))).trans (List.perm_append_comm_assoc _ _ _))).trans (List.perm_append_comm_assoc _ _ _))).trans (List.perm_append_comm_assoc _ _ _))).trans (List.perm_append_comm_assoc _ _ _))).trans (List.perm_append_comm_assoc _ _ _))).trans (List.perm_append_comm_assoc _ _ _))).trans (List.perm_append_comm_assoc _ _ _))).trans (List.perm_append_comm_assoc _ _ _))).trans (List.perm_append_comm_assoc _ _ _)) ?_
  refine lm_sees C hW hk H_ref (fun rr q_undosZ PGvZ wmZ H_refZ hE => ?_)
  refine ww_perm (ws' := [(hx, .inr (11, [.ref h, .ref qp, .int (nI ac), .int (nI np), .ref qs, .ref qj, .ref ly, .ref qh, .ref kk, .int (nI kc), .ref rd, .ref pg, .int (nI pe), .int kn, .ref ss]))] ++ (w_now ++ (w_past ++ (w_pars ++ (w_judg ++ (w_layr ++ (w_heap ++ (w_kept ++ (w_rnds ++ (w_plnr ++ (w_shts ++ (wmZ ++ ro)))))))))))) ((List.Perm.append_left _ ((List.Perm.append_left _ ((List.Perm.append_left _ ((List.Perm.append_left _ ((List.Perm.append_left _ ((List.Perm.append_left _ ((List.Perm.append_left _ ((List.Perm.append_left _ ((List.Perm.append_left _ ((List.Perm.append_left _ ((List.Perm.append_left _ (List.Perm.refl _)).trans (List.perm_append_comm_assoc _ _ _))).trans (List.perm_append_comm_assoc _ _ _))).trans (List.perm_append_comm_assoc _ _ _))).trans (List.perm_append_comm_assoc _ _ _))).trans (List.perm_append_comm_assoc _ _ _))).trans (List.perm_append_comm_assoc _ _ _))).trans (List.perm_append_comm_assoc _ _ _))).trans (List.perm_append_comm_assoc _ _ _))).trans (List.perm_append_comm_assoc _ _ _))).trans (List.perm_append_comm_assoc _ _ _))).trans (List.perm_append_comm_assoc _ _ _)).symm ?_
  exact kont rr q_undosZ PGvZ _ ⟨h, qp, qs, qj, ly, qh, kk, rd, pg, ss, w_now, w_past, w_pars, w_judg, w_layr, w_heap, w_kept, w_rnds, w_plnr, w_shts, wmZ, ro, hac, hnp, hkc, hpe, H_now, H_past, H_pars, H_judg, H_layr, H_heap, H_kept, H_rnds, H_plnr, H_shts, H_refZ, rfl⟩ hE
set_option maxRecDepth 100000 in
theorem my_blind {X : XT} {E : EV} {ws : va_W} {lv : List (Nat × Value)} {rest : List Value} {kC nC : Nat} {hx hm : Nat} {tl : Nat} {ct : Nat → Int} {pe : Nat} {kn : Int32} {ac : Nat} {np : Nat} {kc : Nat} {mN : AM} {pV : Nat → AM} {kV : Nat → AM} {st : Nat → Nat} {sn : Nat → Nat} {sl : Nat → Nat} {scx : Nat → Nat → Int32} {tT : Nat → Option SVal} {ec : Nat → Nat} {er : Nat → Nat} {ed : Nat → Nat → Int32} {eT : Nat → Nat → Option SVal} {eb : Nat → Nat → Int32} {en : Nat → Nat → Int32} {q_undos : Nat} {q_models : Nat} {PGv : Nat → AM} {f_afterOf : Nat → Int32} {f_actMany : Nat → Int32} {f_actOf : Nat → Int32} {f_whom : Nat → Int32} {f_hasIf : Nat → Int32} {f_becomes : Nat → Int32} {f_goneOf : Nat → Int32} {q_taped : Nat} {cr : Nat → Int} {q_people : Nat} {f_secrets : Nat → Int32} {f_lanes : Nat → Int32} {f_lengths : Nat → Int32} {f_cells : Nat → Int32} {f_tokens : Nat → Int32} {f_afters : Nat → Int32} {f_caseMany : Nat → Int32} {f_happen : Nat → Int32} {f_heard : Nat → Int32} {v0 : Int32} (C : CX X room_1 cL_law 4 RL ret E) (hW : Nat.ble (rest.map fun v => v.category).sum 8 = true) (hk : kC ≤ 600000 ∧ nC ≤ 7302250) (hS : ST E hx hm tl ct pe kn ac np kc mN pV kV st sn sl scx tT ec er ed eT eb en q_undos q_models PGv f_afterOf f_actMany f_actOf f_whom f_hasIf f_becomes f_goneOf q_taped cr q_people f_secrets f_lanes f_lengths f_cells f_tokens f_afters f_caseMany f_happen f_heard ws) (kont : ∀ (rr : Int32) (q_undosZ : Nat) (PGvZ : Nat → AM) (wsZ : va_W), ST E hx hm tl ct pe kn ac np kc mN pV kV st sn sl scx tT ec er ed eT eb en q_undosZ q_models PGvZ f_afterOf f_actMany f_actOf f_whom f_hasIf f_becomes f_goneOf q_taped cr q_people f_secrets f_lanes f_lengths f_cells f_tokens f_afters f_caseMany f_happen f_heard wsZ → (((asM q_undosZ PGvZ), rr) = opBlind (asM q_undos PGv) v0 ∧ KP6 PGv PGvZ) → WW X 4 E 337 lv (.int rr :: rest) wsZ kC nC) : WW X 4 E 334 lv (.int v0 :: .ref hm :: rest) ws kC nC := by
  unfold ST at hS
  refine ex8 hS ?_
  clear hS
  intro h qp qs qj ly qh kk rd hS
  refine ex8 hS ?_
  clear hS
  intro pg ss w_now w_past w_pars w_judg w_layr w_heap hS
  refine ex6 hS ?_
  clear hS
  intro w_kept w_rnds w_plnr w_shts wm ro hS
  refine an8 hS ?_
  clear hS
  intro hac hnp hkc hpe H_now H_past H_pars H_judg hS
  refine an7 hS ?_
  clear hS
  intro H_layr H_heap H_kept H_rnds H_plnr H_shts H_ref hS
  have we_st := hS
  clear hS
  subst we_st
  refine ww_perm (ws' := wm ++ ([(hx, .inr (11, [.ref h, .ref qp, .int (nI ac), .int (nI np), .ref qs, .ref qj, .ref ly, .ref qh, .ref kk, .int (nI kc), .ref rd, .ref pg, .int (nI pe), .int kn, .ref ss]))] ++ (w_now ++ (w_past ++ (w_pars ++ (w_judg ++ (w_layr ++ (w_heap ++ (w_kept ++ (w_rnds ++ (w_plnr ++ (w_shts ++ ro)))))))))))) ((List.Perm.append_left _ ((List.Perm.append_left _ ((List.Perm.append_left _ ((List.Perm.append_left _ ((List.Perm.append_left _ ((List.Perm.append_left _ ((List.Perm.append_left _ ((List.Perm.append_left _ ((List.Perm.append_left _ ((List.Perm.append_left _ ((List.Perm.append_left _ (List.Perm.refl _)).trans (List.perm_append_comm_assoc _ _ _))).trans (List.perm_append_comm_assoc _ _ _))).trans (List.perm_append_comm_assoc _ _ _))).trans (List.perm_append_comm_assoc _ _ _))).trans (List.perm_append_comm_assoc _ _ _))).trans (List.perm_append_comm_assoc _ _ _))).trans (List.perm_append_comm_assoc _ _ _))).trans (List.perm_append_comm_assoc _ _ _))).trans (List.perm_append_comm_assoc _ _ _))).trans (List.perm_append_comm_assoc _ _ _))).trans (List.perm_append_comm_assoc _ _ _)) ?_
  refine lm_blind C hW hk H_ref (fun rr q_undosZ PGvZ wmZ H_refZ hE => ?_)
  refine ww_perm (ws' := [(hx, .inr (11, [.ref h, .ref qp, .int (nI ac), .int (nI np), .ref qs, .ref qj, .ref ly, .ref qh, .ref kk, .int (nI kc), .ref rd, .ref pg, .int (nI pe), .int kn, .ref ss]))] ++ (w_now ++ (w_past ++ (w_pars ++ (w_judg ++ (w_layr ++ (w_heap ++ (w_kept ++ (w_rnds ++ (w_plnr ++ (w_shts ++ (wmZ ++ ro)))))))))))) ((List.Perm.append_left _ ((List.Perm.append_left _ ((List.Perm.append_left _ ((List.Perm.append_left _ ((List.Perm.append_left _ ((List.Perm.append_left _ ((List.Perm.append_left _ ((List.Perm.append_left _ ((List.Perm.append_left _ ((List.Perm.append_left _ ((List.Perm.append_left _ (List.Perm.refl _)).trans (List.perm_append_comm_assoc _ _ _))).trans (List.perm_append_comm_assoc _ _ _))).trans (List.perm_append_comm_assoc _ _ _))).trans (List.perm_append_comm_assoc _ _ _))).trans (List.perm_append_comm_assoc _ _ _))).trans (List.perm_append_comm_assoc _ _ _))).trans (List.perm_append_comm_assoc _ _ _))).trans (List.perm_append_comm_assoc _ _ _))).trans (List.perm_append_comm_assoc _ _ _))).trans (List.perm_append_comm_assoc _ _ _))).trans (List.perm_append_comm_assoc _ _ _)).symm ?_
  exact kont rr q_undosZ PGvZ _ ⟨h, qp, qs, qj, ly, qh, kk, rd, pg, ss, w_now, w_past, w_pars, w_judg, w_layr, w_heap, w_kept, w_rnds, w_plnr, w_shts, wmZ, ro, hac, hnp, hkc, hpe, H_now, H_past, H_pars, H_judg, H_layr, H_heap, H_kept, H_rnds, H_plnr, H_shts, H_refZ, rfl⟩ hE
set_option maxRecDepth 100000 in
theorem my_real {X : XT} {E : EV} {ws : va_W} {lv : List (Nat × Value)} {rest : List Value} {kC nC : Nat} {hx hm : Nat} {tl : Nat} {ct : Nat → Int} {pe : Nat} {kn : Int32} {ac : Nat} {np : Nat} {kc : Nat} {mN : AM} {pV : Nat → AM} {kV : Nat → AM} {st : Nat → Nat} {sn : Nat → Nat} {sl : Nat → Nat} {scx : Nat → Nat → Int32} {tT : Nat → Option SVal} {ec : Nat → Nat} {er : Nat → Nat} {ed : Nat → Nat → Int32} {eT : Nat → Nat → Option SVal} {eb : Nat → Nat → Int32} {en : Nat → Nat → Int32} {q_undos : Nat} {q_models : Nat} {PGv : Nat → AM} {f_afterOf : Nat → Int32} {f_actMany : Nat → Int32} {f_actOf : Nat → Int32} {f_whom : Nat → Int32} {f_hasIf : Nat → Int32} {f_becomes : Nat → Int32} {f_goneOf : Nat → Int32} {q_taped : Nat} {cr : Nat → Int} {q_people : Nat} {f_secrets : Nat → Int32} {f_lanes : Nat → Int32} {f_lengths : Nat → Int32} {f_cells : Nat → Int32} {f_tokens : Nat → Int32} {f_afters : Nat → Int32} {f_caseMany : Nat → Int32} {f_happen : Nat → Int32} {f_heard : Nat → Int32} {v0 : Int32} (C : CX X room_1 cL_law 4 RL ret E) (hW : Nat.ble (rest.map fun v => v.category).sum 8 = true) (hk : kC ≤ 600000 ∧ nC ≤ 7302250) (hS : ST E hx hm tl ct pe kn ac np kc mN pV kV st sn sl scx tT ec er ed eT eb en q_undos q_models PGv f_afterOf f_actMany f_actOf f_whom f_hasIf f_becomes f_goneOf q_taped cr q_people f_secrets f_lanes f_lengths f_cells f_tokens f_afters f_caseMany f_happen f_heard ws) (kont : ∀ (rr : Int32) (q_undosZ : Nat) (PGvZ : Nat → AM) (wsZ : va_W), ST E hx hm tl ct pe kn ac np kc mN pV kV st sn sl scx tT ec er ed eT eb en q_undosZ q_models PGvZ f_afterOf f_actMany f_actOf f_whom f_hasIf f_becomes f_goneOf q_taped cr q_people f_secrets f_lanes f_lengths f_cells f_tokens f_afters f_caseMany f_happen f_heard wsZ → (((asM q_undosZ PGvZ), rr) = opReal (asM q_undos PGv) v0 ∧ KP6 PGv PGvZ) → WW X 4 E 360 lv (.int rr :: rest) wsZ kC nC) : WW X 4 E 357 lv (.int v0 :: .ref hm :: rest) ws kC nC := by
  unfold ST at hS
  refine ex8 hS ?_
  clear hS
  intro h qp qs qj ly qh kk rd hS
  refine ex8 hS ?_
  clear hS
  intro pg ss w_now w_past w_pars w_judg w_layr w_heap hS
  refine ex6 hS ?_
  clear hS
  intro w_kept w_rnds w_plnr w_shts wm ro hS
  refine an8 hS ?_
  clear hS
  intro hac hnp hkc hpe H_now H_past H_pars H_judg hS
  refine an7 hS ?_
  clear hS
  intro H_layr H_heap H_kept H_rnds H_plnr H_shts H_ref hS
  have we_st := hS
  clear hS
  subst we_st
  refine ww_perm (ws' := wm ++ ([(hx, .inr (11, [.ref h, .ref qp, .int (nI ac), .int (nI np), .ref qs, .ref qj, .ref ly, .ref qh, .ref kk, .int (nI kc), .ref rd, .ref pg, .int (nI pe), .int kn, .ref ss]))] ++ (w_now ++ (w_past ++ (w_pars ++ (w_judg ++ (w_layr ++ (w_heap ++ (w_kept ++ (w_rnds ++ (w_plnr ++ (w_shts ++ ro)))))))))))) ((List.Perm.append_left _ ((List.Perm.append_left _ ((List.Perm.append_left _ ((List.Perm.append_left _ ((List.Perm.append_left _ ((List.Perm.append_left _ ((List.Perm.append_left _ ((List.Perm.append_left _ ((List.Perm.append_left _ ((List.Perm.append_left _ ((List.Perm.append_left _ (List.Perm.refl _)).trans (List.perm_append_comm_assoc _ _ _))).trans (List.perm_append_comm_assoc _ _ _))).trans (List.perm_append_comm_assoc _ _ _))).trans (List.perm_append_comm_assoc _ _ _))).trans (List.perm_append_comm_assoc _ _ _))).trans (List.perm_append_comm_assoc _ _ _))).trans (List.perm_append_comm_assoc _ _ _))).trans (List.perm_append_comm_assoc _ _ _))).trans (List.perm_append_comm_assoc _ _ _))).trans (List.perm_append_comm_assoc _ _ _))).trans (List.perm_append_comm_assoc _ _ _)) ?_
  refine lm_real C hW hk H_ref (fun rr q_undosZ PGvZ wmZ H_refZ hE => ?_)
  refine ww_perm (ws' := [(hx, .inr (11, [.ref h, .ref qp, .int (nI ac), .int (nI np), .ref qs, .ref qj, .ref ly, .ref qh, .ref kk, .int (nI kc), .ref rd, .ref pg, .int (nI pe), .int kn, .ref ss]))] ++ (w_now ++ (w_past ++ (w_pars ++ (w_judg ++ (w_layr ++ (w_heap ++ (w_kept ++ (w_rnds ++ (w_plnr ++ (w_shts ++ (wmZ ++ ro)))))))))))) ((List.Perm.append_left _ ((List.Perm.append_left _ ((List.Perm.append_left _ ((List.Perm.append_left _ ((List.Perm.append_left _ ((List.Perm.append_left _ ((List.Perm.append_left _ ((List.Perm.append_left _ ((List.Perm.append_left _ ((List.Perm.append_left _ ((List.Perm.append_left _ (List.Perm.refl _)).trans (List.perm_append_comm_assoc _ _ _))).trans (List.perm_append_comm_assoc _ _ _))).trans (List.perm_append_comm_assoc _ _ _))).trans (List.perm_append_comm_assoc _ _ _))).trans (List.perm_append_comm_assoc _ _ _))).trans (List.perm_append_comm_assoc _ _ _))).trans (List.perm_append_comm_assoc _ _ _))).trans (List.perm_append_comm_assoc _ _ _))).trans (List.perm_append_comm_assoc _ _ _))).trans (List.perm_append_comm_assoc _ _ _))).trans (List.perm_append_comm_assoc _ _ _)).symm ?_
  exact kont rr q_undosZ PGvZ _ ⟨h, qp, qs, qj, ly, qh, kk, rd, pg, ss, w_now, w_past, w_pars, w_judg, w_layr, w_heap, w_kept, w_rnds, w_plnr, w_shts, wmZ, ro, hac, hnp, hkc, hpe, H_now, H_past, H_pars, H_judg, H_layr, H_heap, H_kept, H_rnds, H_plnr, H_shts, H_refZ, rfl⟩ hE
set_option maxRecDepth 100000 in
theorem my_of {X : XT} {E : EV} {ws : va_W} {lv : List (Nat × Value)} {rest : List Value} {kC nC : Nat} {hx hm : Nat} {tl : Nat} {ct : Nat → Int} {pe : Nat} {kn : Int32} {ac : Nat} {np : Nat} {kc : Nat} {mN : AM} {pV : Nat → AM} {kV : Nat → AM} {st : Nat → Nat} {sn : Nat → Nat} {sl : Nat → Nat} {scx : Nat → Nat → Int32} {tT : Nat → Option SVal} {ec : Nat → Nat} {er : Nat → Nat} {ed : Nat → Nat → Int32} {eT : Nat → Nat → Option SVal} {eb : Nat → Nat → Int32} {en : Nat → Nat → Int32} {q_undos : Nat} {q_models : Nat} {PGv : Nat → AM} {f_afterOf : Nat → Int32} {f_actMany : Nat → Int32} {f_actOf : Nat → Int32} {f_whom : Nat → Int32} {f_hasIf : Nat → Int32} {f_becomes : Nat → Int32} {f_goneOf : Nat → Int32} {q_taped : Nat} {cr : Nat → Int} {q_people : Nat} {f_secrets : Nat → Int32} {f_lanes : Nat → Int32} {f_lengths : Nat → Int32} {f_cells : Nat → Int32} {f_tokens : Nat → Int32} {f_afters : Nat → Int32} {f_caseMany : Nat → Int32} {f_happen : Nat → Int32} {f_heard : Nat → Int32} {v0 : Int32} {v1 : Int32} (C : CX X room_1 cL_law 4 RL ret E) (hW : Nat.ble (rest.map fun v => v.category).sum 8 = true) (hk : kC ≤ 600000 ∧ nC ≤ 7302250) (hS : ST E hx hm tl ct pe kn ac np kc mN pV kV st sn sl scx tT ec er ed eT eb en q_undos q_models PGv f_afterOf f_actMany f_actOf f_whom f_hasIf f_becomes f_goneOf q_taped cr q_people f_secrets f_lanes f_lengths f_cells f_tokens f_afters f_caseMany f_happen f_heard ws) (kont : ∀ (rr : Int32) (wsZ : va_W), ST E hx hm tl ct pe kn ac np kc mN pV kV st sn sl scx tT ec er ed eT eb en q_undos q_models PGv f_afterOf f_actMany f_actOf f_whom f_hasIf f_becomes f_goneOf q_taped cr q_people f_secrets f_lanes f_lengths f_cells f_tokens f_afters f_caseMany f_happen f_heard wsZ → (rr = ansOf (PGv 0) v0 v1) → WW X 4 E 393 lv (.int rr :: rest) wsZ kC nC) : WW X 4 E 390 lv (.int v1 :: .int v0 :: .ref hm :: rest) ws kC nC := by
  unfold ST at hS
  refine ex8 hS ?_
  clear hS
  intro h qp qs qj ly qh kk rd hS
  refine ex8 hS ?_
  clear hS
  intro pg ss w_now w_past w_pars w_judg w_layr w_heap hS
  refine ex6 hS ?_
  clear hS
  intro w_kept w_rnds w_plnr w_shts wm ro hS
  refine an8 hS ?_
  clear hS
  intro hac hnp hkc hpe H_now H_past H_pars H_judg hS
  refine an7 hS ?_
  clear hS
  intro H_layr H_heap H_kept H_rnds H_plnr H_shts H_ref hS
  have we_st := hS
  clear hS
  subst we_st
  refine ww_perm (ws' := wm ++ ([(hx, .inr (11, [.ref h, .ref qp, .int (nI ac), .int (nI np), .ref qs, .ref qj, .ref ly, .ref qh, .ref kk, .int (nI kc), .ref rd, .ref pg, .int (nI pe), .int kn, .ref ss]))] ++ (w_now ++ (w_past ++ (w_pars ++ (w_judg ++ (w_layr ++ (w_heap ++ (w_kept ++ (w_rnds ++ (w_plnr ++ (w_shts ++ ro)))))))))))) ((List.Perm.append_left _ ((List.Perm.append_left _ ((List.Perm.append_left _ ((List.Perm.append_left _ ((List.Perm.append_left _ ((List.Perm.append_left _ ((List.Perm.append_left _ ((List.Perm.append_left _ ((List.Perm.append_left _ ((List.Perm.append_left _ ((List.Perm.append_left _ (List.Perm.refl _)).trans (List.perm_append_comm_assoc _ _ _))).trans (List.perm_append_comm_assoc _ _ _))).trans (List.perm_append_comm_assoc _ _ _))).trans (List.perm_append_comm_assoc _ _ _))).trans (List.perm_append_comm_assoc _ _ _))).trans (List.perm_append_comm_assoc _ _ _))).trans (List.perm_append_comm_assoc _ _ _))).trans (List.perm_append_comm_assoc _ _ _))).trans (List.perm_append_comm_assoc _ _ _))).trans (List.perm_append_comm_assoc _ _ _))).trans (List.perm_append_comm_assoc _ _ _)) ?_
  refine lm_of C hW hk H_ref (fun rr wmZ H_refZ hE => ?_)
  refine ww_perm (ws' := [(hx, .inr (11, [.ref h, .ref qp, .int (nI ac), .int (nI np), .ref qs, .ref qj, .ref ly, .ref qh, .ref kk, .int (nI kc), .ref rd, .ref pg, .int (nI pe), .int kn, .ref ss]))] ++ (w_now ++ (w_past ++ (w_pars ++ (w_judg ++ (w_layr ++ (w_heap ++ (w_kept ++ (w_rnds ++ (w_plnr ++ (w_shts ++ (wmZ ++ ro)))))))))))) ((List.Perm.append_left _ ((List.Perm.append_left _ ((List.Perm.append_left _ ((List.Perm.append_left _ ((List.Perm.append_left _ ((List.Perm.append_left _ ((List.Perm.append_left _ ((List.Perm.append_left _ ((List.Perm.append_left _ ((List.Perm.append_left _ ((List.Perm.append_left _ (List.Perm.refl _)).trans (List.perm_append_comm_assoc _ _ _))).trans (List.perm_append_comm_assoc _ _ _))).trans (List.perm_append_comm_assoc _ _ _))).trans (List.perm_append_comm_assoc _ _ _))).trans (List.perm_append_comm_assoc _ _ _))).trans (List.perm_append_comm_assoc _ _ _))).trans (List.perm_append_comm_assoc _ _ _))).trans (List.perm_append_comm_assoc _ _ _))).trans (List.perm_append_comm_assoc _ _ _))).trans (List.perm_append_comm_assoc _ _ _))).trans (List.perm_append_comm_assoc _ _ _)).symm ?_
  exact kont rr  _ ⟨h, qp, qs, qj, ly, qh, kk, rd, pg, ss, w_now, w_past, w_pars, w_judg, w_layr, w_heap, w_kept, w_rnds, w_plnr, w_shts, wmZ, ro, hac, hnp, hkc, hpe, H_now, H_past, H_pars, H_judg, H_layr, H_heap, H_kept, H_rnds, H_plnr, H_shts, H_refZ, rfl⟩ hE
set_option maxRecDepth 100000 in
theorem my_reach {X : XT} {E : EV} {ws : va_W} {lv : List (Nat × Value)} {rest : List Value} {kC nC : Nat} {hx hm : Nat} {tl : Nat} {ct : Nat → Int} {pe : Nat} {kn : Int32} {ac : Nat} {np : Nat} {kc : Nat} {mN : AM} {pV : Nat → AM} {kV : Nat → AM} {st : Nat → Nat} {sn : Nat → Nat} {sl : Nat → Nat} {scx : Nat → Nat → Int32} {tT : Nat → Option SVal} {ec : Nat → Nat} {er : Nat → Nat} {ed : Nat → Nat → Int32} {eT : Nat → Nat → Option SVal} {eb : Nat → Nat → Int32} {en : Nat → Nat → Int32} {q_undos : Nat} {q_models : Nat} {PGv : Nat → AM} {f_afterOf : Nat → Int32} {f_actMany : Nat → Int32} {f_actOf : Nat → Int32} {f_whom : Nat → Int32} {f_hasIf : Nat → Int32} {f_becomes : Nat → Int32} {f_goneOf : Nat → Int32} {q_taped : Nat} {cr : Nat → Int} {q_people : Nat} {f_secrets : Nat → Int32} {f_lanes : Nat → Int32} {f_lengths : Nat → Int32} {f_cells : Nat → Int32} {f_tokens : Nat → Int32} {f_afters : Nat → Int32} {f_caseMany : Nat → Int32} {f_happen : Nat → Int32} {f_heard : Nat → Int32} {v0 : Int32} {v1 : Int32} (C : CX X room_1 cL_law 4 RL ret E) (hW : Nat.ble (rest.map fun v => v.category).sum 8 = true) (hk : kC ≤ 600000 ∧ nC ≤ 7302250) (hS : ST E hx hm tl ct pe kn ac np kc mN pV kV st sn sl scx tT ec er ed eT eb en q_undos q_models PGv f_afterOf f_actMany f_actOf f_whom f_hasIf f_becomes f_goneOf q_taped cr q_people f_secrets f_lanes f_lengths f_cells f_tokens f_afters f_caseMany f_happen f_heard ws) (kont : ∀ (rr : Int32) (wsZ : va_W), ST E hx hm tl ct pe kn ac np kc mN pV kV st sn sl scx tT ec er ed eT eb en q_undos q_models PGv f_afterOf f_actMany f_actOf f_whom f_hasIf f_becomes f_goneOf q_taped cr q_people f_secrets f_lanes f_lengths f_cells f_tokens f_afters f_caseMany f_happen f_heard wsZ → (rr = ansReach (PGv 0) v0 v1) → WW X 4 E 426 lv (.int rr :: rest) wsZ kC nC) : WW X 4 E 423 lv (.int v1 :: .int v0 :: .ref hm :: rest) ws kC nC := by
  unfold ST at hS
  refine ex8 hS ?_
  clear hS
  intro h qp qs qj ly qh kk rd hS
  refine ex8 hS ?_
  clear hS
  intro pg ss w_now w_past w_pars w_judg w_layr w_heap hS
  refine ex6 hS ?_
  clear hS
  intro w_kept w_rnds w_plnr w_shts wm ro hS
  refine an8 hS ?_
  clear hS
  intro hac hnp hkc hpe H_now H_past H_pars H_judg hS
  refine an7 hS ?_
  clear hS
  intro H_layr H_heap H_kept H_rnds H_plnr H_shts H_ref hS
  have we_st := hS
  clear hS
  subst we_st
  refine ww_perm (ws' := wm ++ ([(hx, .inr (11, [.ref h, .ref qp, .int (nI ac), .int (nI np), .ref qs, .ref qj, .ref ly, .ref qh, .ref kk, .int (nI kc), .ref rd, .ref pg, .int (nI pe), .int kn, .ref ss]))] ++ (w_now ++ (w_past ++ (w_pars ++ (w_judg ++ (w_layr ++ (w_heap ++ (w_kept ++ (w_rnds ++ (w_plnr ++ (w_shts ++ ro)))))))))))) ((List.Perm.append_left _ ((List.Perm.append_left _ ((List.Perm.append_left _ ((List.Perm.append_left _ ((List.Perm.append_left _ ((List.Perm.append_left _ ((List.Perm.append_left _ ((List.Perm.append_left _ ((List.Perm.append_left _ ((List.Perm.append_left _ ((List.Perm.append_left _ (List.Perm.refl _)).trans (List.perm_append_comm_assoc _ _ _))).trans (List.perm_append_comm_assoc _ _ _))).trans (List.perm_append_comm_assoc _ _ _))).trans (List.perm_append_comm_assoc _ _ _))).trans (List.perm_append_comm_assoc _ _ _))).trans (List.perm_append_comm_assoc _ _ _))).trans (List.perm_append_comm_assoc _ _ _))).trans (List.perm_append_comm_assoc _ _ _))).trans (List.perm_append_comm_assoc _ _ _))).trans (List.perm_append_comm_assoc _ _ _))).trans (List.perm_append_comm_assoc _ _ _)) ?_
  refine lm_reach C hW hk H_ref (fun rr wmZ H_refZ hE => ?_)
  refine ww_perm (ws' := [(hx, .inr (11, [.ref h, .ref qp, .int (nI ac), .int (nI np), .ref qs, .ref qj, .ref ly, .ref qh, .ref kk, .int (nI kc), .ref rd, .ref pg, .int (nI pe), .int kn, .ref ss]))] ++ (w_now ++ (w_past ++ (w_pars ++ (w_judg ++ (w_layr ++ (w_heap ++ (w_kept ++ (w_rnds ++ (w_plnr ++ (w_shts ++ (wmZ ++ ro)))))))))))) ((List.Perm.append_left _ ((List.Perm.append_left _ ((List.Perm.append_left _ ((List.Perm.append_left _ ((List.Perm.append_left _ ((List.Perm.append_left _ ((List.Perm.append_left _ ((List.Perm.append_left _ ((List.Perm.append_left _ ((List.Perm.append_left _ ((List.Perm.append_left _ (List.Perm.refl _)).trans (List.perm_append_comm_assoc _ _ _))).trans (List.perm_append_comm_assoc _ _ _))).trans (List.perm_append_comm_assoc _ _ _))).trans (List.perm_append_comm_assoc _ _ _))).trans (List.perm_append_comm_assoc _ _ _))).trans (List.perm_append_comm_assoc _ _ _))).trans (List.perm_append_comm_assoc _ _ _))).trans (List.perm_append_comm_assoc _ _ _))).trans (List.perm_append_comm_assoc _ _ _))).trans (List.perm_append_comm_assoc _ _ _))).trans (List.perm_append_comm_assoc _ _ _)).symm ?_
  exact kont rr  _ ⟨h, qp, qs, qj, ly, qh, kk, rd, pg, ss, w_now, w_past, w_pars, w_judg, w_layr, w_heap, w_kept, w_rnds, w_plnr, w_shts, wmZ, ro, hac, hnp, hkc, hpe, H_now, H_past, H_pars, H_judg, H_layr, H_heap, H_kept, H_rnds, H_plnr, H_shts, H_refZ, rfl⟩ hE
set_option maxRecDepth 100000 in
theorem my_feed {X : XT} {E : EV} {ws : va_W} {lv : List (Nat × Value)} {rest : List Value} {kC nC : Nat} {hx hm : Nat} {tl : Nat} {ct : Nat → Int} {pe : Nat} {kn : Int32} {ac : Nat} {np : Nat} {kc : Nat} {mN : AM} {pV : Nat → AM} {kV : Nat → AM} {st : Nat → Nat} {sn : Nat → Nat} {sl : Nat → Nat} {scx : Nat → Nat → Int32} {tT : Nat → Option SVal} {ec : Nat → Nat} {er : Nat → Nat} {ed : Nat → Nat → Int32} {eT : Nat → Nat → Option SVal} {eb : Nat → Nat → Int32} {en : Nat → Nat → Int32} {q_undos : Nat} {q_models : Nat} {PGv : Nat → AM} {f_afterOf : Nat → Int32} {f_actMany : Nat → Int32} {f_actOf : Nat → Int32} {f_whom : Nat → Int32} {f_hasIf : Nat → Int32} {f_becomes : Nat → Int32} {f_goneOf : Nat → Int32} {q_taped : Nat} {cr : Nat → Int} {q_people : Nat} {f_secrets : Nat → Int32} {f_lanes : Nat → Int32} {f_lengths : Nat → Int32} {f_cells : Nat → Int32} {f_tokens : Nat → Int32} {f_afters : Nat → Int32} {f_caseMany : Nat → Int32} {f_happen : Nat → Int32} {f_heard : Nat → Int32} {v : Int64} (C : CX X room_1 cL_law 4 RL ret E) (hW : Nat.ble (rest.map fun v => v.category).sum 8 = true) (hk : kC ≤ 600000 ∧ nC ≤ 7302250) (hS : ST E hx hm tl ct pe kn ac np kc mN pV kV st sn sl scx tT ec er ed eT eb en q_undos q_models PGv f_afterOf f_actMany f_actOf f_whom f_hasIf f_becomes f_goneOf q_taped cr q_people f_secrets f_lanes f_lengths f_cells f_tokens f_afters f_caseMany f_happen f_heard ws) (kont : ∀ (rr : Int32) (q_tapedZ : Nat) (crZ : Nat → Int) (wsZ : va_W), ST E hx hm tl ct pe kn ac np kc mN pV kV st sn sl scx tT ec er ed eT eb en q_undos q_models PGv f_afterOf f_actMany f_actOf f_whom f_hasIf f_becomes f_goneOf q_tapedZ crZ q_people f_secrets f_lanes f_lengths f_cells f_tokens f_afters f_caseMany f_happen f_heard wsZ → ((q_taped + 8 ≤ 160 ∧ q_tapedZ = q_taped + 8 ∧ crZ = czf cr q_taped v ∧ rr = nI (q_taped + 8)) ∨ (160 < q_taped + 8 ∧ q_tapedZ = q_taped ∧ crZ = cr ∧ rr = -3)) → WW X 4 E 479 lv (.int rr :: rest) wsZ kC nC) : WW X 4 E 476 lv (.long v :: .ref hm :: rest) ws kC nC := by
  unfold ST at hS
  refine ex8 hS ?_
  clear hS
  intro h qp qs qj ly qh kk rd hS
  refine ex8 hS ?_
  clear hS
  intro pg ss w_now w_past w_pars w_judg w_layr w_heap hS
  refine ex6 hS ?_
  clear hS
  intro w_kept w_rnds w_plnr w_shts wm ro hS
  refine an8 hS ?_
  clear hS
  intro hac hnp hkc hpe H_now H_past H_pars H_judg hS
  refine an7 hS ?_
  clear hS
  intro H_layr H_heap H_kept H_rnds H_plnr H_shts H_ref hS
  have we_st := hS
  clear hS
  subst we_st
  refine ww_perm (ws' := wm ++ ([(hx, .inr (11, [.ref h, .ref qp, .int (nI ac), .int (nI np), .ref qs, .ref qj, .ref ly, .ref qh, .ref kk, .int (nI kc), .ref rd, .ref pg, .int (nI pe), .int kn, .ref ss]))] ++ (w_now ++ (w_past ++ (w_pars ++ (w_judg ++ (w_layr ++ (w_heap ++ (w_kept ++ (w_rnds ++ (w_plnr ++ (w_shts ++ ro)))))))))))) ((List.Perm.append_left _ ((List.Perm.append_left _ ((List.Perm.append_left _ ((List.Perm.append_left _ ((List.Perm.append_left _ ((List.Perm.append_left _ ((List.Perm.append_left _ ((List.Perm.append_left _ ((List.Perm.append_left _ ((List.Perm.append_left _ ((List.Perm.append_left _ (List.Perm.refl _)).trans (List.perm_append_comm_assoc _ _ _))).trans (List.perm_append_comm_assoc _ _ _))).trans (List.perm_append_comm_assoc _ _ _))).trans (List.perm_append_comm_assoc _ _ _))).trans (List.perm_append_comm_assoc _ _ _))).trans (List.perm_append_comm_assoc _ _ _))).trans (List.perm_append_comm_assoc _ _ _))).trans (List.perm_append_comm_assoc _ _ _))).trans (List.perm_append_comm_assoc _ _ _))).trans (List.perm_append_comm_assoc _ _ _))).trans (List.perm_append_comm_assoc _ _ _)) ?_
  refine lm_feed C hW hk H_ref (fun rr q_tapedZ crZ wmZ H_refZ hE => ?_)
  refine ww_perm (ws' := [(hx, .inr (11, [.ref h, .ref qp, .int (nI ac), .int (nI np), .ref qs, .ref qj, .ref ly, .ref qh, .ref kk, .int (nI kc), .ref rd, .ref pg, .int (nI pe), .int kn, .ref ss]))] ++ (w_now ++ (w_past ++ (w_pars ++ (w_judg ++ (w_layr ++ (w_heap ++ (w_kept ++ (w_rnds ++ (w_plnr ++ (w_shts ++ (wmZ ++ ro)))))))))))) ((List.Perm.append_left _ ((List.Perm.append_left _ ((List.Perm.append_left _ ((List.Perm.append_left _ ((List.Perm.append_left _ ((List.Perm.append_left _ ((List.Perm.append_left _ ((List.Perm.append_left _ ((List.Perm.append_left _ ((List.Perm.append_left _ ((List.Perm.append_left _ (List.Perm.refl _)).trans (List.perm_append_comm_assoc _ _ _))).trans (List.perm_append_comm_assoc _ _ _))).trans (List.perm_append_comm_assoc _ _ _))).trans (List.perm_append_comm_assoc _ _ _))).trans (List.perm_append_comm_assoc _ _ _))).trans (List.perm_append_comm_assoc _ _ _))).trans (List.perm_append_comm_assoc _ _ _))).trans (List.perm_append_comm_assoc _ _ _))).trans (List.perm_append_comm_assoc _ _ _))).trans (List.perm_append_comm_assoc _ _ _))).trans (List.perm_append_comm_assoc _ _ _)).symm ?_
  exact kont rr q_tapedZ crZ _ ⟨h, qp, qs, qj, ly, qh, kk, rd, pg, ss, w_now, w_past, w_pars, w_judg, w_layr, w_heap, w_kept, w_rnds, w_plnr, w_shts, wmZ, ro, hac, hnp, hkc, hpe, H_now, H_past, H_pars, H_judg, H_layr, H_heap, H_kept, H_rnds, H_plnr, H_shts, H_refZ, rfl⟩ hE
set_option maxRecDepth 100000 in
theorem my_end {X : XT} {E : EV} {ws : va_W} {lv : List (Nat × Value)} {rest : List Value} {kC nC : Nat} {hx hm : Nat} {tl : Nat} {ct : Nat → Int} {pe : Nat} {kn : Int32} {ac : Nat} {np : Nat} {kc : Nat} {mN : AM} {pV : Nat → AM} {kV : Nat → AM} {st : Nat → Nat} {sn : Nat → Nat} {sl : Nat → Nat} {scx : Nat → Nat → Int32} {tT : Nat → Option SVal} {ec : Nat → Nat} {er : Nat → Nat} {ed : Nat → Nat → Int32} {eT : Nat → Nat → Option SVal} {eb : Nat → Nat → Int32} {en : Nat → Nat → Int32} {q_undos : Nat} {q_models : Nat} {PGv : Nat → AM} {f_afterOf : Nat → Int32} {f_actMany : Nat → Int32} {f_actOf : Nat → Int32} {f_whom : Nat → Int32} {f_hasIf : Nat → Int32} {f_becomes : Nat → Int32} {f_goneOf : Nat → Int32} {q_taped : Nat} {cr : Nat → Int} {q_people : Nat} {f_secrets : Nat → Int32} {f_lanes : Nat → Int32} {f_lengths : Nat → Int32} {f_cells : Nat → Int32} {f_tokens : Nat → Int32} {f_afters : Nat → Int32} {f_caseMany : Nat → Int32} {f_happen : Nat → Int32} {f_heard : Nat → Int32} {v0 : Int32} (C : CX X room_1 cL_law 4 RL ret E) (hW : Nat.ble (rest.map fun v => v.category).sum 8 = true) (hk : kC ≤ 600000 ∧ nC ≤ 7302250) (hS : ST E hx hm tl ct pe kn ac np kc mN pV kV st sn sl scx tT ec er ed eT eb en q_undos q_models PGv f_afterOf f_actMany f_actOf f_whom f_hasIf f_becomes f_goneOf q_taped cr q_people f_secrets f_lanes f_lengths f_cells f_tokens f_afters f_caseMany f_happen f_heard ws) (kont : ∀ (rr : Int32) (q_tapedZ : Nat) (crZ : Nat → Int) (wsZ : va_W), ST E hx hm tl ct pe kn ac np kc mN pV kV st sn sl scx tT ec er ed eT eb en q_undos q_models PGv f_afterOf f_actMany f_actOf f_whom f_hasIf f_becomes f_goneOf q_tapedZ crZ q_people f_secrets f_lanes f_lengths f_cells f_tokens f_afters f_caseMany f_happen f_heard wsZ → (((v0.toInt < 0 ∨ (q_taped : Int) < v0.toInt) ∧ q_tapedZ = q_taped ∧ crZ = cr ∧ rr = -1) ∨ (v0 = nI q_tapedZ ∧ q_tapedZ ≤ q_taped ∧ crZ = cze cr q_tapedZ ∧ rr = nI q_taped)) → WW X 4 E 502 lv (.int rr :: rest) wsZ kC nC) : WW X 4 E 499 lv (.int v0 :: .ref hm :: rest) ws kC nC := by
  unfold ST at hS
  refine ex8 hS ?_
  clear hS
  intro h qp qs qj ly qh kk rd hS
  refine ex8 hS ?_
  clear hS
  intro pg ss w_now w_past w_pars w_judg w_layr w_heap hS
  refine ex6 hS ?_
  clear hS
  intro w_kept w_rnds w_plnr w_shts wm ro hS
  refine an8 hS ?_
  clear hS
  intro hac hnp hkc hpe H_now H_past H_pars H_judg hS
  refine an7 hS ?_
  clear hS
  intro H_layr H_heap H_kept H_rnds H_plnr H_shts H_ref hS
  have we_st := hS
  clear hS
  subst we_st
  refine ww_perm (ws' := wm ++ ([(hx, .inr (11, [.ref h, .ref qp, .int (nI ac), .int (nI np), .ref qs, .ref qj, .ref ly, .ref qh, .ref kk, .int (nI kc), .ref rd, .ref pg, .int (nI pe), .int kn, .ref ss]))] ++ (w_now ++ (w_past ++ (w_pars ++ (w_judg ++ (w_layr ++ (w_heap ++ (w_kept ++ (w_rnds ++ (w_plnr ++ (w_shts ++ ro)))))))))))) ((List.Perm.append_left _ ((List.Perm.append_left _ ((List.Perm.append_left _ ((List.Perm.append_left _ ((List.Perm.append_left _ ((List.Perm.append_left _ ((List.Perm.append_left _ ((List.Perm.append_left _ ((List.Perm.append_left _ ((List.Perm.append_left _ ((List.Perm.append_left _ (List.Perm.refl _)).trans (List.perm_append_comm_assoc _ _ _))).trans (List.perm_append_comm_assoc _ _ _))).trans (List.perm_append_comm_assoc _ _ _))).trans (List.perm_append_comm_assoc _ _ _))).trans (List.perm_append_comm_assoc _ _ _))).trans (List.perm_append_comm_assoc _ _ _))).trans (List.perm_append_comm_assoc _ _ _))).trans (List.perm_append_comm_assoc _ _ _))).trans (List.perm_append_comm_assoc _ _ _))).trans (List.perm_append_comm_assoc _ _ _))).trans (List.perm_append_comm_assoc _ _ _)) ?_
  refine lm_end C hW hk H_ref (fun rr q_tapedZ crZ wmZ H_refZ hE => ?_)
  refine ww_perm (ws' := [(hx, .inr (11, [.ref h, .ref qp, .int (nI ac), .int (nI np), .ref qs, .ref qj, .ref ly, .ref qh, .ref kk, .int (nI kc), .ref rd, .ref pg, .int (nI pe), .int kn, .ref ss]))] ++ (w_now ++ (w_past ++ (w_pars ++ (w_judg ++ (w_layr ++ (w_heap ++ (w_kept ++ (w_rnds ++ (w_plnr ++ (w_shts ++ (wmZ ++ ro)))))))))))) ((List.Perm.append_left _ ((List.Perm.append_left _ ((List.Perm.append_left _ ((List.Perm.append_left _ ((List.Perm.append_left _ ((List.Perm.append_left _ ((List.Perm.append_left _ ((List.Perm.append_left _ ((List.Perm.append_left _ ((List.Perm.append_left _ ((List.Perm.append_left _ (List.Perm.refl _)).trans (List.perm_append_comm_assoc _ _ _))).trans (List.perm_append_comm_assoc _ _ _))).trans (List.perm_append_comm_assoc _ _ _))).trans (List.perm_append_comm_assoc _ _ _))).trans (List.perm_append_comm_assoc _ _ _))).trans (List.perm_append_comm_assoc _ _ _))).trans (List.perm_append_comm_assoc _ _ _))).trans (List.perm_append_comm_assoc _ _ _))).trans (List.perm_append_comm_assoc _ _ _))).trans (List.perm_append_comm_assoc _ _ _))).trans (List.perm_append_comm_assoc _ _ _)).symm ?_
  exact kont rr q_tapedZ crZ _ ⟨h, qp, qs, qj, ly, qh, kk, rd, pg, ss, w_now, w_past, w_pars, w_judg, w_layr, w_heap, w_kept, w_rnds, w_plnr, w_shts, wmZ, ro, hac, hnp, hkc, hpe, H_now, H_past, H_pars, H_judg, H_layr, H_heap, H_kept, H_rnds, H_plnr, H_shts, H_refZ, rfl⟩ hE
set_option maxRecDepth 100000 in
theorem my_say {X : XT} {E : EV} {ws : va_W} {lv : List (Nat × Value)} {rest : List Value} {kC nC : Nat} {hx hm : Nat} {tl : Nat} {ct : Nat → Int} {pe : Nat} {kn : Int32} {ac : Nat} {np : Nat} {kc : Nat} {mN : AM} {pV : Nat → AM} {kV : Nat → AM} {st : Nat → Nat} {sn : Nat → Nat} {sl : Nat → Nat} {scx : Nat → Nat → Int32} {tT : Nat → Option SVal} {ec : Nat → Nat} {er : Nat → Nat} {ed : Nat → Nat → Int32} {eT : Nat → Nat → Option SVal} {eb : Nat → Nat → Int32} {en : Nat → Nat → Int32} {q_undos : Nat} {q_models : Nat} {PGv : Nat → AM} {f_afterOf : Nat → Int32} {f_actMany : Nat → Int32} {f_actOf : Nat → Int32} {f_whom : Nat → Int32} {f_hasIf : Nat → Int32} {f_becomes : Nat → Int32} {f_goneOf : Nat → Int32} {q_taped : Nat} {cr : Nat → Int} {q_people : Nat} {f_secrets : Nat → Int32} {f_lanes : Nat → Int32} {f_lengths : Nat → Int32} {f_cells : Nat → Int32} {f_tokens : Nat → Int32} {f_afters : Nat → Int32} {f_caseMany : Nat → Int32} {f_happen : Nat → Int32} {f_heard : Nat → Int32} {v0 : Int32} (C : CX X room_1 cL_law 4 RL ret E) (hW : Nat.ble (rest.map fun v => v.category).sum 8 = true) (hk : kC ≤ 600000 ∧ nC ≤ 7302250) (hS : ST E hx hm tl ct pe kn ac np kc mN pV kV st sn sl scx tT ec er ed eT eb en q_undos q_models PGv f_afterOf f_actMany f_actOf f_whom f_hasIf f_becomes f_goneOf q_taped cr q_people f_secrets f_lanes f_lengths f_cells f_tokens f_afters f_caseMany f_happen f_heard ws) (kont : ∀ (rr : Int32) (f_afterOfZ : Nat → Int32) (f_actManyZ : Nat → Int32) (f_actOfZ : Nat → Int32) (f_whomZ : Nat → Int32) (q_tapedZ : Nat) (crZ : Nat → Int) (f_tokensZ : Nat → Int32) (f_aftersZ : Nat → Int32) (wsZ : va_W), ST E hx hm tl ct pe kn ac np kc mN pV kV st sn sl scx tT ec er ed eT eb en q_undos q_models PGv f_afterOfZ f_actManyZ f_actOfZ f_whomZ f_hasIf f_becomes f_goneOf q_tapedZ crZ q_people f_secrets f_lanes f_lengths f_cells f_tokensZ f_aftersZ f_caseMany f_happen f_heard wsZ → (((v0.toInt < 0 ∨ 7 < v0.toInt) ∧ q_tapedZ = q_taped ∧ crZ = cr ∧ (f_tokensZ = f_tokens ∧ f_aftersZ = f_afters ∧ f_actOfZ = f_actOf ∧ f_whomZ = f_whom ∧ f_actManyZ = f_actMany ∧ f_afterOfZ = f_afterOf) ∧ rr = -1) ∨ (0 ≤ v0.toInt ∧ v0.toInt ≤ 7 ∧ q_tapedZ = 0 ∧ crZ = cze cr 0 ∧ ((∃ l, SBAD cr l ∧ rr = (-10 : Int32) - nI l ∧ f_tokensZ = f_tokens ∧ KP 8 f_afters f_aftersZ ∧ KP 768 f_actOf f_actOfZ ∧ KP 768 f_whom f_whomZ ∧ KP 24 f_actMany f_actManyZ ∧ KP 16 f_afterOf f_afterOfZ) ∨ ∃ jk p n v w K m, v0 = nI jk ∧ jk ≤ 7 ∧ SOK cr p n v w K m ∧ rr = nI m ∧ upd f_tokens jk (nI m) = f_tokensZ ∧ (f_aftersZ jk = nI n ∧ ∀ j, j < 8 → j ≠ jk → f_aftersZ j = f_afters j) ∧ m ≤ 32 ∧ n ≤ 2 ∧ K ≤ m ∧ (∀ i, i < K → f_actOfZ (32 * jk + i) = nI (aI cr p i)) ∧ (∀ i, i < K → f_whomZ (32 * jk + i) = nI (gI cr p i)) ∧ (∀ j, j < 768 → (j < 32 * jk ∨ 32 * jk + 32 ≤ j) → f_actOfZ j = f_actOf j) ∧ (∀ j, j < 768 → (j < 32 * jk ∨ 32 * jk + 32 ≤ j) → f_whomZ j = f_whom j) ∧ (cN f_actManyZ jk = K ∧ ∀ j, j < 24 → j ≠ jk → cN f_actManyZ j = cN f_actMany j) ∧ ((0 < n → f_afterOfZ (2 * jk) = nI v) ∧ (1 < n → f_afterOfZ (2 * jk + 1) = nI w) ∧ ∀ j, j < 16 → j ≠ 2 * jk → j ≠ 2 * jk + 1 → f_afterOfZ j = f_afterOf j)))) → WW X 4 E 525 lv (.int rr :: rest) wsZ kC nC) : WW X 4 E 522 lv (.int v0 :: .ref hm :: rest) ws kC nC := by
  unfold ST at hS
  refine ex8 hS ?_
  clear hS
  intro h qp qs qj ly qh kk rd hS
  refine ex8 hS ?_
  clear hS
  intro pg ss w_now w_past w_pars w_judg w_layr w_heap hS
  refine ex6 hS ?_
  clear hS
  intro w_kept w_rnds w_plnr w_shts wm ro hS
  refine an8 hS ?_
  clear hS
  intro hac hnp hkc hpe H_now H_past H_pars H_judg hS
  refine an7 hS ?_
  clear hS
  intro H_layr H_heap H_kept H_rnds H_plnr H_shts H_ref hS
  have we_st := hS
  clear hS
  subst we_st
  refine ww_perm (ws' := wm ++ ([(hx, .inr (11, [.ref h, .ref qp, .int (nI ac), .int (nI np), .ref qs, .ref qj, .ref ly, .ref qh, .ref kk, .int (nI kc), .ref rd, .ref pg, .int (nI pe), .int kn, .ref ss]))] ++ (w_now ++ (w_past ++ (w_pars ++ (w_judg ++ (w_layr ++ (w_heap ++ (w_kept ++ (w_rnds ++ (w_plnr ++ (w_shts ++ ro)))))))))))) ((List.Perm.append_left _ ((List.Perm.append_left _ ((List.Perm.append_left _ ((List.Perm.append_left _ ((List.Perm.append_left _ ((List.Perm.append_left _ ((List.Perm.append_left _ ((List.Perm.append_left _ ((List.Perm.append_left _ ((List.Perm.append_left _ ((List.Perm.append_left _ (List.Perm.refl _)).trans (List.perm_append_comm_assoc _ _ _))).trans (List.perm_append_comm_assoc _ _ _))).trans (List.perm_append_comm_assoc _ _ _))).trans (List.perm_append_comm_assoc _ _ _))).trans (List.perm_append_comm_assoc _ _ _))).trans (List.perm_append_comm_assoc _ _ _))).trans (List.perm_append_comm_assoc _ _ _))).trans (List.perm_append_comm_assoc _ _ _))).trans (List.perm_append_comm_assoc _ _ _))).trans (List.perm_append_comm_assoc _ _ _))).trans (List.perm_append_comm_assoc _ _ _)) ?_
  refine lm_say C hW hk H_ref (fun rr f_afterOfZ f_actManyZ f_actOfZ f_whomZ q_tapedZ crZ f_tokensZ f_aftersZ wmZ H_refZ hE => ?_)
  refine ww_perm (ws' := [(hx, .inr (11, [.ref h, .ref qp, .int (nI ac), .int (nI np), .ref qs, .ref qj, .ref ly, .ref qh, .ref kk, .int (nI kc), .ref rd, .ref pg, .int (nI pe), .int kn, .ref ss]))] ++ (w_now ++ (w_past ++ (w_pars ++ (w_judg ++ (w_layr ++ (w_heap ++ (w_kept ++ (w_rnds ++ (w_plnr ++ (w_shts ++ (wmZ ++ ro)))))))))))) ((List.Perm.append_left _ ((List.Perm.append_left _ ((List.Perm.append_left _ ((List.Perm.append_left _ ((List.Perm.append_left _ ((List.Perm.append_left _ ((List.Perm.append_left _ ((List.Perm.append_left _ ((List.Perm.append_left _ ((List.Perm.append_left _ ((List.Perm.append_left _ (List.Perm.refl _)).trans (List.perm_append_comm_assoc _ _ _))).trans (List.perm_append_comm_assoc _ _ _))).trans (List.perm_append_comm_assoc _ _ _))).trans (List.perm_append_comm_assoc _ _ _))).trans (List.perm_append_comm_assoc _ _ _))).trans (List.perm_append_comm_assoc _ _ _))).trans (List.perm_append_comm_assoc _ _ _))).trans (List.perm_append_comm_assoc _ _ _))).trans (List.perm_append_comm_assoc _ _ _))).trans (List.perm_append_comm_assoc _ _ _))).trans (List.perm_append_comm_assoc _ _ _)).symm ?_
  exact kont rr f_afterOfZ f_actManyZ f_actOfZ f_whomZ q_tapedZ crZ f_tokensZ f_aftersZ _ ⟨h, qp, qs, qj, ly, qh, kk, rd, pg, ss, w_now, w_past, w_pars, w_judg, w_layr, w_heap, w_kept, w_rnds, w_plnr, w_shts, wmZ, ro, hac, hnp, hkc, hpe, H_now, H_past, H_pars, H_judg, H_layr, H_heap, H_kept, H_rnds, H_plnr, H_shts, H_refZ, rfl⟩ hE
set_option maxRecDepth 100000 in
theorem my_fault {X : XT} {E : EV} {ws : va_W} {lv : List (Nat × Value)} {rest : List Value} {kC nC : Nat} {hx hm : Nat} {tl : Nat} {ct : Nat → Int} {pe : Nat} {kn : Int32} {ac : Nat} {np : Nat} {kc : Nat} {mN : AM} {pV : Nat → AM} {kV : Nat → AM} {st : Nat → Nat} {sn : Nat → Nat} {sl : Nat → Nat} {scx : Nat → Nat → Int32} {tT : Nat → Option SVal} {ec : Nat → Nat} {er : Nat → Nat} {ed : Nat → Nat → Int32} {eT : Nat → Nat → Option SVal} {eb : Nat → Nat → Int32} {en : Nat → Nat → Int32} {q_undos : Nat} {q_models : Nat} {PGv : Nat → AM} {f_afterOf : Nat → Int32} {f_actMany : Nat → Int32} {f_actOf : Nat → Int32} {f_whom : Nat → Int32} {f_hasIf : Nat → Int32} {f_becomes : Nat → Int32} {f_goneOf : Nat → Int32} {q_taped : Nat} {cr : Nat → Int} {q_people : Nat} {f_secrets : Nat → Int32} {f_lanes : Nat → Int32} {f_lengths : Nat → Int32} {f_cells : Nat → Int32} {f_tokens : Nat → Int32} {f_afters : Nat → Int32} {f_caseMany : Nat → Int32} {f_happen : Nat → Int32} {f_heard : Nat → Int32}  (C : CX X room_1 cL_law 4 RL ret E) (hW : Nat.ble (rest.map fun v => v.category).sum 8 = true) (hk : kC ≤ 600000 ∧ nC ≤ 7302250) (hS : ST E hx hm tl ct pe kn ac np kc mN pV kV st sn sl scx tT ec er ed eT eb en q_undos q_models PGv f_afterOf f_actMany f_actOf f_whom f_hasIf f_becomes f_goneOf q_taped cr q_people f_secrets f_lanes f_lengths f_cells f_tokens f_afters f_caseMany f_happen f_heard ws) (kont : ∀ (rr : Int32) (wsZ : va_W), ST E hx hm tl ct pe kn ac np kc mN pV kV st sn sl scx tT ec er ed eT eb en q_undos q_models PGv f_afterOf f_actMany f_actOf f_whom f_hasIf f_becomes f_goneOf q_taped cr q_people f_secrets f_lanes f_lengths f_cells f_tokens f_afters f_caseMany f_happen f_heard wsZ → (True) → WW X 4 E 538 lv (.int rr :: rest) wsZ kC nC) : WW X 4 E 535 lv (.ref hm :: rest) ws kC nC := by
  unfold ST at hS
  refine ex8 hS ?_
  clear hS
  intro h qp qs qj ly qh kk rd hS
  refine ex8 hS ?_
  clear hS
  intro pg ss w_now w_past w_pars w_judg w_layr w_heap hS
  refine ex6 hS ?_
  clear hS
  intro w_kept w_rnds w_plnr w_shts wm ro hS
  refine an8 hS ?_
  clear hS
  intro hac hnp hkc hpe H_now H_past H_pars H_judg hS
  refine an7 hS ?_
  clear hS
  intro H_layr H_heap H_kept H_rnds H_plnr H_shts H_ref hS
  have we_st := hS
  clear hS
  subst we_st
  refine ww_perm (ws' := wm ++ ([(hx, .inr (11, [.ref h, .ref qp, .int (nI ac), .int (nI np), .ref qs, .ref qj, .ref ly, .ref qh, .ref kk, .int (nI kc), .ref rd, .ref pg, .int (nI pe), .int kn, .ref ss]))] ++ (w_now ++ (w_past ++ (w_pars ++ (w_judg ++ (w_layr ++ (w_heap ++ (w_kept ++ (w_rnds ++ (w_plnr ++ (w_shts ++ ro)))))))))))) ((List.Perm.append_left _ ((List.Perm.append_left _ ((List.Perm.append_left _ ((List.Perm.append_left _ ((List.Perm.append_left _ ((List.Perm.append_left _ ((List.Perm.append_left _ ((List.Perm.append_left _ ((List.Perm.append_left _ ((List.Perm.append_left _ ((List.Perm.append_left _ (List.Perm.refl _)).trans (List.perm_append_comm_assoc _ _ _))).trans (List.perm_append_comm_assoc _ _ _))).trans (List.perm_append_comm_assoc _ _ _))).trans (List.perm_append_comm_assoc _ _ _))).trans (List.perm_append_comm_assoc _ _ _))).trans (List.perm_append_comm_assoc _ _ _))).trans (List.perm_append_comm_assoc _ _ _))).trans (List.perm_append_comm_assoc _ _ _))).trans (List.perm_append_comm_assoc _ _ _))).trans (List.perm_append_comm_assoc _ _ _))).trans (List.perm_append_comm_assoc _ _ _)) ?_
  refine lm_fault C hW hk H_ref (fun rr wmZ H_refZ hE => ?_)
  refine ww_perm (ws' := [(hx, .inr (11, [.ref h, .ref qp, .int (nI ac), .int (nI np), .ref qs, .ref qj, .ref ly, .ref qh, .ref kk, .int (nI kc), .ref rd, .ref pg, .int (nI pe), .int kn, .ref ss]))] ++ (w_now ++ (w_past ++ (w_pars ++ (w_judg ++ (w_layr ++ (w_heap ++ (w_kept ++ (w_rnds ++ (w_plnr ++ (w_shts ++ (wmZ ++ ro)))))))))))) ((List.Perm.append_left _ ((List.Perm.append_left _ ((List.Perm.append_left _ ((List.Perm.append_left _ ((List.Perm.append_left _ ((List.Perm.append_left _ ((List.Perm.append_left _ ((List.Perm.append_left _ ((List.Perm.append_left _ ((List.Perm.append_left _ ((List.Perm.append_left _ (List.Perm.refl _)).trans (List.perm_append_comm_assoc _ _ _))).trans (List.perm_append_comm_assoc _ _ _))).trans (List.perm_append_comm_assoc _ _ _))).trans (List.perm_append_comm_assoc _ _ _))).trans (List.perm_append_comm_assoc _ _ _))).trans (List.perm_append_comm_assoc _ _ _))).trans (List.perm_append_comm_assoc _ _ _))).trans (List.perm_append_comm_assoc _ _ _))).trans (List.perm_append_comm_assoc _ _ _))).trans (List.perm_append_comm_assoc _ _ _))).trans (List.perm_append_comm_assoc _ _ _)).symm ?_
  exact kont rr  _ ⟨h, qp, qs, qj, ly, qh, kk, rd, pg, ss, w_now, w_past, w_pars, w_judg, w_layr, w_heap, w_kept, w_rnds, w_plnr, w_shts, wmZ, ro, hac, hnp, hkc, hpe, H_now, H_past, H_pars, H_judg, H_layr, H_heap, H_kept, H_rnds, H_plnr, H_shts, H_refZ, rfl⟩ hE
set_option maxRecDepth 100000 in
theorem my_saying {X : XT} {E : EV} {ws : va_W} {lv : List (Nat × Value)} {rest : List Value} {kC nC : Nat} {hx hm : Nat} {tl : Nat} {ct : Nat → Int} {pe : Nat} {kn : Int32} {ac : Nat} {np : Nat} {kc : Nat} {mN : AM} {pV : Nat → AM} {kV : Nat → AM} {st : Nat → Nat} {sn : Nat → Nat} {sl : Nat → Nat} {scx : Nat → Nat → Int32} {tT : Nat → Option SVal} {ec : Nat → Nat} {er : Nat → Nat} {ed : Nat → Nat → Int32} {eT : Nat → Nat → Option SVal} {eb : Nat → Nat → Int32} {en : Nat → Nat → Int32} {q_undos : Nat} {q_models : Nat} {PGv : Nat → AM} {f_afterOf : Nat → Int32} {f_actMany : Nat → Int32} {f_actOf : Nat → Int32} {f_whom : Nat → Int32} {f_hasIf : Nat → Int32} {f_becomes : Nat → Int32} {f_goneOf : Nat → Int32} {q_taped : Nat} {cr : Nat → Int} {q_people : Nat} {f_secrets : Nat → Int32} {f_lanes : Nat → Int32} {f_lengths : Nat → Int32} {f_cells : Nat → Int32} {f_tokens : Nat → Int32} {f_afters : Nat → Int32} {f_caseMany : Nat → Int32} {f_happen : Nat → Int32} {f_heard : Nat → Int32} {v0 : Int32} {v1 : Int32} (C : CX X room_1 cL_law 4 RL ret E) (hW : Nat.ble (rest.map fun v => v.category).sum 8 = true) (hk : kC ≤ 600000 ∧ nC ≤ 7302250) (hS : ST E hx hm tl ct pe kn ac np kc mN pV kV st sn sl scx tT ec er ed eT eb en q_undos q_models PGv f_afterOf f_actMany f_actOf f_whom f_hasIf f_becomes f_goneOf q_taped cr q_people f_secrets f_lanes f_lengths f_cells f_tokens f_afters f_caseMany f_happen f_heard ws) (hWT : WHT f_tokens f_actMany f_actOf f_whom) (kont : ∀ (rr : Int32) (wsZ : va_W), ST E hx hm tl ct pe kn ac np kc mN pV kV st sn sl scx tT ec er ed eT eb en q_undos q_models PGv f_afterOf f_actMany f_actOf f_whom f_hasIf f_becomes f_goneOf q_taped cr q_people f_secrets f_lanes f_lengths f_cells f_tokens f_afters f_caseMany f_happen f_heard wsZ → (rr = ansSy (rSy f_tokens f_actMany f_actOf f_whom f_afters) v0 v1) → WW X 4 E 571 lv (.int rr :: rest) wsZ kC nC) : WW X 4 E 568 lv (.int v1 :: .int v0 :: .ref hm :: rest) ws kC nC := by
  unfold ST at hS
  refine ex8 hS ?_
  clear hS
  intro h qp qs qj ly qh kk rd hS
  refine ex8 hS ?_
  clear hS
  intro pg ss w_now w_past w_pars w_judg w_layr w_heap hS
  refine ex6 hS ?_
  clear hS
  intro w_kept w_rnds w_plnr w_shts wm ro hS
  refine an8 hS ?_
  clear hS
  intro hac hnp hkc hpe H_now H_past H_pars H_judg hS
  refine an7 hS ?_
  clear hS
  intro H_layr H_heap H_kept H_rnds H_plnr H_shts H_ref hS
  have we_st := hS
  clear hS
  subst we_st
  refine ww_perm (ws' := wm ++ ([(hx, .inr (11, [.ref h, .ref qp, .int (nI ac), .int (nI np), .ref qs, .ref qj, .ref ly, .ref qh, .ref kk, .int (nI kc), .ref rd, .ref pg, .int (nI pe), .int kn, .ref ss]))] ++ (w_now ++ (w_past ++ (w_pars ++ (w_judg ++ (w_layr ++ (w_heap ++ (w_kept ++ (w_rnds ++ (w_plnr ++ (w_shts ++ ro)))))))))))) ((List.Perm.append_left _ ((List.Perm.append_left _ ((List.Perm.append_left _ ((List.Perm.append_left _ ((List.Perm.append_left _ ((List.Perm.append_left _ ((List.Perm.append_left _ ((List.Perm.append_left _ ((List.Perm.append_left _ ((List.Perm.append_left _ ((List.Perm.append_left _ (List.Perm.refl _)).trans (List.perm_append_comm_assoc _ _ _))).trans (List.perm_append_comm_assoc _ _ _))).trans (List.perm_append_comm_assoc _ _ _))).trans (List.perm_append_comm_assoc _ _ _))).trans (List.perm_append_comm_assoc _ _ _))).trans (List.perm_append_comm_assoc _ _ _))).trans (List.perm_append_comm_assoc _ _ _))).trans (List.perm_append_comm_assoc _ _ _))).trans (List.perm_append_comm_assoc _ _ _))).trans (List.perm_append_comm_assoc _ _ _))).trans (List.perm_append_comm_assoc _ _ _)) ?_
  refine lm_saying C hW hk H_ref hWT (fun rr wmZ H_refZ hE => ?_)
  refine ww_perm (ws' := [(hx, .inr (11, [.ref h, .ref qp, .int (nI ac), .int (nI np), .ref qs, .ref qj, .ref ly, .ref qh, .ref kk, .int (nI kc), .ref rd, .ref pg, .int (nI pe), .int kn, .ref ss]))] ++ (w_now ++ (w_past ++ (w_pars ++ (w_judg ++ (w_layr ++ (w_heap ++ (w_kept ++ (w_rnds ++ (w_plnr ++ (w_shts ++ (wmZ ++ ro)))))))))))) ((List.Perm.append_left _ ((List.Perm.append_left _ ((List.Perm.append_left _ ((List.Perm.append_left _ ((List.Perm.append_left _ ((List.Perm.append_left _ ((List.Perm.append_left _ ((List.Perm.append_left _ ((List.Perm.append_left _ ((List.Perm.append_left _ ((List.Perm.append_left _ (List.Perm.refl _)).trans (List.perm_append_comm_assoc _ _ _))).trans (List.perm_append_comm_assoc _ _ _))).trans (List.perm_append_comm_assoc _ _ _))).trans (List.perm_append_comm_assoc _ _ _))).trans (List.perm_append_comm_assoc _ _ _))).trans (List.perm_append_comm_assoc _ _ _))).trans (List.perm_append_comm_assoc _ _ _))).trans (List.perm_append_comm_assoc _ _ _))).trans (List.perm_append_comm_assoc _ _ _))).trans (List.perm_append_comm_assoc _ _ _))).trans (List.perm_append_comm_assoc _ _ _)).symm ?_
  exact kont rr  _ ⟨h, qp, qs, qj, ly, qh, kk, rd, pg, ss, w_now, w_past, w_pars, w_judg, w_layr, w_heap, w_kept, w_rnds, w_plnr, w_shts, wmZ, ro, hac, hnp, hkc, hpe, H_now, H_past, H_pars, H_judg, H_layr, H_heap, H_kept, H_rnds, H_plnr, H_shts, H_refZ, rfl⟩ hE
set_option maxRecDepth 100000 in
theorem my_truth {X : XT} {E : EV} {ws : va_W} {lv : List (Nat × Value)} {rest : List Value} {kC nC : Nat} {hx hm : Nat} {tl : Nat} {ct : Nat → Int} {pe : Nat} {kn : Int32} {ac : Nat} {np : Nat} {kc : Nat} {mN : AM} {pV : Nat → AM} {kV : Nat → AM} {st : Nat → Nat} {sn : Nat → Nat} {sl : Nat → Nat} {scx : Nat → Nat → Int32} {tT : Nat → Option SVal} {ec : Nat → Nat} {er : Nat → Nat} {ed : Nat → Nat → Int32} {eT : Nat → Nat → Option SVal} {eb : Nat → Nat → Int32} {en : Nat → Nat → Int32} {q_undos : Nat} {q_models : Nat} {PGv : Nat → AM} {f_afterOf : Nat → Int32} {f_actMany : Nat → Int32} {f_actOf : Nat → Int32} {f_whom : Nat → Int32} {f_hasIf : Nat → Int32} {f_becomes : Nat → Int32} {f_goneOf : Nat → Int32} {q_taped : Nat} {cr : Nat → Int} {q_people : Nat} {f_secrets : Nat → Int32} {f_lanes : Nat → Int32} {f_lengths : Nat → Int32} {f_cells : Nat → Int32} {f_tokens : Nat → Int32} {f_afters : Nat → Int32} {f_caseMany : Nat → Int32} {f_happen : Nat → Int32} {f_heard : Nat → Int32} {v0 : Int32} (C : CX X room_1 cL_law 4 RL ret E) (hW : Nat.ble (rest.map fun v => v.category).sum 8 = true) (hk : kC ≤ 600000 ∧ nC ≤ 7302250) (hS : ST E hx hm tl ct pe kn ac np kc mN pV kV st sn sl scx tT ec er ed eT eb en q_undos q_models PGv f_afterOf f_actMany f_actOf f_whom f_hasIf f_becomes f_goneOf q_taped cr q_people f_secrets f_lanes f_lengths f_cells f_tokens f_afters f_caseMany f_happen f_heard ws) (hWI : WHI f_hasIf f_actMany f_actOf f_whom) (hWT : WHT f_tokens f_actMany f_actOf f_whom) (kont : ∀ (rr : Int32) (PGvZ : Nat → AM) (wsZ : va_W), ST E hx hm tl ct pe kn ac np kc mN pV kV st sn sl scx tT ec er ed eT eb en q_undos q_models PGvZ f_afterOf f_actMany f_actOf f_whom f_hasIf f_becomes f_goneOf q_taped cr q_people f_secrets f_lanes f_lengths f_cells f_tokens f_afters f_caseMany f_happen f_heard wsZ → (rr = ansTruth (PGv 0) (rEv f_caseMany f_happen f_hasIf f_actMany f_actOf f_whom f_becomes f_goneOf f_heard) (rTT f_tokens f_actMany f_actOf f_whom f_afterOf f_afters) v0 ∧ KPA 0 PGv PGvZ) → WW X 4 E 594 lv (.int rr :: rest) wsZ kC nC) : WW X 4 E 591 lv (.int v0 :: .ref hm :: rest) ws kC nC := by
  unfold ST at hS
  refine ex8 hS ?_
  clear hS
  intro h qp qs qj ly qh kk rd hS
  refine ex8 hS ?_
  clear hS
  intro pg ss w_now w_past w_pars w_judg w_layr w_heap hS
  refine ex6 hS ?_
  clear hS
  intro w_kept w_rnds w_plnr w_shts wm ro hS
  refine an8 hS ?_
  clear hS
  intro hac hnp hkc hpe H_now H_past H_pars H_judg hS
  refine an7 hS ?_
  clear hS
  intro H_layr H_heap H_kept H_rnds H_plnr H_shts H_ref hS
  have we_st := hS
  clear hS
  subst we_st
  refine ww_perm (ws' := wm ++ ([(hx, .inr (11, [.ref h, .ref qp, .int (nI ac), .int (nI np), .ref qs, .ref qj, .ref ly, .ref qh, .ref kk, .int (nI kc), .ref rd, .ref pg, .int (nI pe), .int kn, .ref ss]))] ++ (w_now ++ (w_past ++ (w_pars ++ (w_judg ++ (w_layr ++ (w_heap ++ (w_kept ++ (w_rnds ++ (w_plnr ++ (w_shts ++ ro)))))))))))) ((List.Perm.append_left _ ((List.Perm.append_left _ ((List.Perm.append_left _ ((List.Perm.append_left _ ((List.Perm.append_left _ ((List.Perm.append_left _ ((List.Perm.append_left _ ((List.Perm.append_left _ ((List.Perm.append_left _ ((List.Perm.append_left _ ((List.Perm.append_left _ (List.Perm.refl _)).trans (List.perm_append_comm_assoc _ _ _))).trans (List.perm_append_comm_assoc _ _ _))).trans (List.perm_append_comm_assoc _ _ _))).trans (List.perm_append_comm_assoc _ _ _))).trans (List.perm_append_comm_assoc _ _ _))).trans (List.perm_append_comm_assoc _ _ _))).trans (List.perm_append_comm_assoc _ _ _))).trans (List.perm_append_comm_assoc _ _ _))).trans (List.perm_append_comm_assoc _ _ _))).trans (List.perm_append_comm_assoc _ _ _))).trans (List.perm_append_comm_assoc _ _ _)) ?_
  refine lm_truth C hW hk H_ref hWI hWT (fun rr PGvZ wmZ H_refZ hE => ?_)
  refine ww_perm (ws' := [(hx, .inr (11, [.ref h, .ref qp, .int (nI ac), .int (nI np), .ref qs, .ref qj, .ref ly, .ref qh, .ref kk, .int (nI kc), .ref rd, .ref pg, .int (nI pe), .int kn, .ref ss]))] ++ (w_now ++ (w_past ++ (w_pars ++ (w_judg ++ (w_layr ++ (w_heap ++ (w_kept ++ (w_rnds ++ (w_plnr ++ (w_shts ++ (wmZ ++ ro)))))))))))) ((List.Perm.append_left _ ((List.Perm.append_left _ ((List.Perm.append_left _ ((List.Perm.append_left _ ((List.Perm.append_left _ ((List.Perm.append_left _ ((List.Perm.append_left _ ((List.Perm.append_left _ ((List.Perm.append_left _ ((List.Perm.append_left _ ((List.Perm.append_left _ (List.Perm.refl _)).trans (List.perm_append_comm_assoc _ _ _))).trans (List.perm_append_comm_assoc _ _ _))).trans (List.perm_append_comm_assoc _ _ _))).trans (List.perm_append_comm_assoc _ _ _))).trans (List.perm_append_comm_assoc _ _ _))).trans (List.perm_append_comm_assoc _ _ _))).trans (List.perm_append_comm_assoc _ _ _))).trans (List.perm_append_comm_assoc _ _ _))).trans (List.perm_append_comm_assoc _ _ _))).trans (List.perm_append_comm_assoc _ _ _))).trans (List.perm_append_comm_assoc _ _ _)).symm ?_
  exact kont rr PGvZ _ ⟨h, qp, qs, qj, ly, qh, kk, rd, pg, ss, w_now, w_past, w_pars, w_judg, w_layr, w_heap, w_kept, w_rnds, w_plnr, w_shts, wmZ, ro, hac, hnp, hkc, hpe, H_now, H_past, H_pars, H_judg, H_layr, H_heap, H_kept, H_rnds, H_plnr, H_shts, H_refZ, rfl⟩ hE
set_option maxRecDepth 100000 in
theorem my_holds {X : XT} {E : EV} {ws : va_W} {lv : List (Nat × Value)} {rest : List Value} {kC nC : Nat} {hx hm : Nat} {tl : Nat} {ct : Nat → Int} {pe : Nat} {kn : Int32} {ac : Nat} {np : Nat} {kc : Nat} {mN : AM} {pV : Nat → AM} {kV : Nat → AM} {st : Nat → Nat} {sn : Nat → Nat} {sl : Nat → Nat} {scx : Nat → Nat → Int32} {tT : Nat → Option SVal} {ec : Nat → Nat} {er : Nat → Nat} {ed : Nat → Nat → Int32} {eT : Nat → Nat → Option SVal} {eb : Nat → Nat → Int32} {en : Nat → Nat → Int32} {q_undos : Nat} {q_models : Nat} {PGv : Nat → AM} {f_afterOf : Nat → Int32} {f_actMany : Nat → Int32} {f_actOf : Nat → Int32} {f_whom : Nat → Int32} {f_hasIf : Nat → Int32} {f_becomes : Nat → Int32} {f_goneOf : Nat → Int32} {q_taped : Nat} {cr : Nat → Int} {q_people : Nat} {f_secrets : Nat → Int32} {f_lanes : Nat → Int32} {f_lengths : Nat → Int32} {f_cells : Nat → Int32} {f_tokens : Nat → Int32} {f_afters : Nat → Int32} {f_caseMany : Nat → Int32} {f_happen : Nat → Int32} {f_heard : Nat → Int32} {v0 : Int32} (C : CX X room_1 cL_law 4 RL ret E) (hW : Nat.ble (rest.map fun v => v.category).sum 8 = true) (hk : kC ≤ 600000 ∧ nC ≤ 7302250) (hS : ST E hx hm tl ct pe kn ac np kc mN pV kV st sn sl scx tT ec er ed eT eb en q_undos q_models PGv f_afterOf f_actMany f_actOf f_whom f_hasIf f_becomes f_goneOf q_taped cr q_people f_secrets f_lanes f_lengths f_cells f_tokens f_afters f_caseMany f_happen f_heard ws) (hWI : WHI f_hasIf f_actMany f_actOf f_whom) (hWT : WHT f_tokens f_actMany f_actOf f_whom) (kont : ∀ (rr : Int32) (PGvZ : Nat → AM) (wsZ : va_W), ST E hx hm tl ct pe kn ac np kc mN pV kV st sn sl scx tT ec er ed eT eb en q_undos q_models PGvZ f_afterOf f_actMany f_actOf f_whom f_hasIf f_becomes f_goneOf q_taped cr q_people f_secrets f_lanes f_lengths f_cells f_tokens f_afters f_caseMany f_happen f_heard wsZ → (rr = ansHolds (PGv 0) (rEv f_caseMany f_happen f_hasIf f_actMany f_actOf f_whom f_becomes f_goneOf f_heard) (rTT f_tokens f_actMany f_actOf f_whom f_afterOf f_afters) v0 ∧ KPA 0 PGv PGvZ) → WW X 4 E 616 lv (.int rr :: rest) wsZ kC nC) : WW X 4 E 613 lv (.int v0 :: .ref hm :: rest) ws kC nC := by
  unfold ST at hS
  refine ex8 hS ?_
  clear hS
  intro h qp qs qj ly qh kk rd hS
  refine ex8 hS ?_
  clear hS
  intro pg ss w_now w_past w_pars w_judg w_layr w_heap hS
  refine ex6 hS ?_
  clear hS
  intro w_kept w_rnds w_plnr w_shts wm ro hS
  refine an8 hS ?_
  clear hS
  intro hac hnp hkc hpe H_now H_past H_pars H_judg hS
  refine an7 hS ?_
  clear hS
  intro H_layr H_heap H_kept H_rnds H_plnr H_shts H_ref hS
  have we_st := hS
  clear hS
  subst we_st
  refine ww_perm (ws' := wm ++ ([(hx, .inr (11, [.ref h, .ref qp, .int (nI ac), .int (nI np), .ref qs, .ref qj, .ref ly, .ref qh, .ref kk, .int (nI kc), .ref rd, .ref pg, .int (nI pe), .int kn, .ref ss]))] ++ (w_now ++ (w_past ++ (w_pars ++ (w_judg ++ (w_layr ++ (w_heap ++ (w_kept ++ (w_rnds ++ (w_plnr ++ (w_shts ++ ro)))))))))))) ((List.Perm.append_left _ ((List.Perm.append_left _ ((List.Perm.append_left _ ((List.Perm.append_left _ ((List.Perm.append_left _ ((List.Perm.append_left _ ((List.Perm.append_left _ ((List.Perm.append_left _ ((List.Perm.append_left _ ((List.Perm.append_left _ ((List.Perm.append_left _ (List.Perm.refl _)).trans (List.perm_append_comm_assoc _ _ _))).trans (List.perm_append_comm_assoc _ _ _))).trans (List.perm_append_comm_assoc _ _ _))).trans (List.perm_append_comm_assoc _ _ _))).trans (List.perm_append_comm_assoc _ _ _))).trans (List.perm_append_comm_assoc _ _ _))).trans (List.perm_append_comm_assoc _ _ _))).trans (List.perm_append_comm_assoc _ _ _))).trans (List.perm_append_comm_assoc _ _ _))).trans (List.perm_append_comm_assoc _ _ _))).trans (List.perm_append_comm_assoc _ _ _)) ?_
  refine lm_holds C hW hk H_ref hWI hWT (fun rr PGvZ wmZ H_refZ hE => ?_)
  refine ww_perm (ws' := [(hx, .inr (11, [.ref h, .ref qp, .int (nI ac), .int (nI np), .ref qs, .ref qj, .ref ly, .ref qh, .ref kk, .int (nI kc), .ref rd, .ref pg, .int (nI pe), .int kn, .ref ss]))] ++ (w_now ++ (w_past ++ (w_pars ++ (w_judg ++ (w_layr ++ (w_heap ++ (w_kept ++ (w_rnds ++ (w_plnr ++ (w_shts ++ (wmZ ++ ro)))))))))))) ((List.Perm.append_left _ ((List.Perm.append_left _ ((List.Perm.append_left _ ((List.Perm.append_left _ ((List.Perm.append_left _ ((List.Perm.append_left _ ((List.Perm.append_left _ ((List.Perm.append_left _ ((List.Perm.append_left _ ((List.Perm.append_left _ ((List.Perm.append_left _ (List.Perm.refl _)).trans (List.perm_append_comm_assoc _ _ _))).trans (List.perm_append_comm_assoc _ _ _))).trans (List.perm_append_comm_assoc _ _ _))).trans (List.perm_append_comm_assoc _ _ _))).trans (List.perm_append_comm_assoc _ _ _))).trans (List.perm_append_comm_assoc _ _ _))).trans (List.perm_append_comm_assoc _ _ _))).trans (List.perm_append_comm_assoc _ _ _))).trans (List.perm_append_comm_assoc _ _ _))).trans (List.perm_append_comm_assoc _ _ _))).trans (List.perm_append_comm_assoc _ _ _)).symm ?_
  exact kont rr PGvZ _ ⟨h, qp, qs, qj, ly, qh, kk, rd, pg, ss, w_now, w_past, w_pars, w_judg, w_layr, w_heap, w_kept, w_rnds, w_plnr, w_shts, wmZ, ro, hac, hnp, hkc, hpe, H_now, H_past, H_pars, H_judg, H_layr, H_heap, H_kept, H_rnds, H_plnr, H_shts, H_refZ, rfl⟩ hE
set_option maxRecDepth 100000 in
theorem my_event {X : XT} {E : EV} {ws : va_W} {lv : List (Nat × Value)} {rest : List Value} {kC nC : Nat} {hx hm : Nat} {tl : Nat} {ct : Nat → Int} {pe : Nat} {kn : Int32} {ac : Nat} {np : Nat} {kc : Nat} {mN : AM} {pV : Nat → AM} {kV : Nat → AM} {st : Nat → Nat} {sn : Nat → Nat} {sl : Nat → Nat} {scx : Nat → Nat → Int32} {tT : Nat → Option SVal} {ec : Nat → Nat} {er : Nat → Nat} {ed : Nat → Nat → Int32} {eT : Nat → Nat → Option SVal} {eb : Nat → Nat → Int32} {en : Nat → Nat → Int32} {q_undos : Nat} {q_models : Nat} {PGv : Nat → AM} {f_afterOf : Nat → Int32} {f_actMany : Nat → Int32} {f_actOf : Nat → Int32} {f_whom : Nat → Int32} {f_hasIf : Nat → Int32} {f_becomes : Nat → Int32} {f_goneOf : Nat → Int32} {q_taped : Nat} {cr : Nat → Int} {q_people : Nat} {f_secrets : Nat → Int32} {f_lanes : Nat → Int32} {f_lengths : Nat → Int32} {f_cells : Nat → Int32} {f_tokens : Nat → Int32} {f_afters : Nat → Int32} {f_caseMany : Nat → Int32} {f_happen : Nat → Int32} {f_heard : Nat → Int32} {v0 : Int32} {v1 : Int32} (C : CX X room_1 cL_law 4 RL ret E) (hW : Nat.ble (rest.map fun v => v.category).sum 8 = true) (hk : kC ≤ 600000 ∧ nC ≤ 7302250) (hS : ST E hx hm tl ct pe kn ac np kc mN pV kV st sn sl scx tT ec er ed eT eb en q_undos q_models PGv f_afterOf f_actMany f_actOf f_whom f_hasIf f_becomes f_goneOf q_taped cr q_people f_secrets f_lanes f_lengths f_cells f_tokens f_afters f_caseMany f_happen f_heard ws) (kont : ∀ (rr : Int32) (f_hasIfZ : Nat → Int32) (f_becomesZ : Nat → Int32) (f_goneOfZ : Nat → Int32) (f_caseManyZ : Nat → Int32) (f_happenZ : Nat → Int32) (f_heardZ : Nat → Int32) (wsZ : va_W), ST E hx hm tl ct pe kn ac np kc mN pV kV st sn sl scx tT ec er ed eT eb en q_undos q_models PGv f_afterOf f_actMany f_actOf f_whom f_hasIfZ f_becomesZ f_goneOfZ q_taped cr q_people f_secrets f_lanes f_lengths f_cells f_tokens f_afters f_caseManyZ f_happenZ f_heardZ wsZ → (((v0.toInt < 0 ∨ 3 < v0.toInt ∨ v1.toInt < 1 ∨ 4 < v1.toInt) ∧ rr = -1 ∧ f_caseManyZ = f_caseMany ∧ f_happenZ = f_happen ∧ f_heardZ = f_heard ∧ f_hasIfZ = f_hasIf ∧ f_becomesZ = f_becomes ∧ f_goneOfZ = f_goneOf) ∨ ∃ k_ n_ : Nat, v0 = nI k_ ∧ v1 = nI n_ ∧ k_ ≤ 3 ∧ (1 ≤ n_ ∧ n_ ≤ 4) ∧ upd f_caseMany k_ (nI n_) = f_caseManyZ ∧ upd f_happen k_ (nI 0) = f_happenZ ∧ HZ k_ 4 0 f_heard f_heardZ ∧ rr = 1 ∧ Z4 k_ 4 f_hasIf f_hasIfZ ∧ Z4 k_ 4 f_becomes f_becomesZ ∧ Z4 k_ 4 f_goneOf f_goneOfZ) → WW X 4 E 650 lv (.int rr :: rest) wsZ kC nC) : WW X 4 E 647 lv (.int v1 :: .int v0 :: .ref hm :: rest) ws kC nC := by
  unfold ST at hS
  refine ex8 hS ?_
  clear hS
  intro h qp qs qj ly qh kk rd hS
  refine ex8 hS ?_
  clear hS
  intro pg ss w_now w_past w_pars w_judg w_layr w_heap hS
  refine ex6 hS ?_
  clear hS
  intro w_kept w_rnds w_plnr w_shts wm ro hS
  refine an8 hS ?_
  clear hS
  intro hac hnp hkc hpe H_now H_past H_pars H_judg hS
  refine an7 hS ?_
  clear hS
  intro H_layr H_heap H_kept H_rnds H_plnr H_shts H_ref hS
  have we_st := hS
  clear hS
  subst we_st
  refine ww_perm (ws' := wm ++ ([(hx, .inr (11, [.ref h, .ref qp, .int (nI ac), .int (nI np), .ref qs, .ref qj, .ref ly, .ref qh, .ref kk, .int (nI kc), .ref rd, .ref pg, .int (nI pe), .int kn, .ref ss]))] ++ (w_now ++ (w_past ++ (w_pars ++ (w_judg ++ (w_layr ++ (w_heap ++ (w_kept ++ (w_rnds ++ (w_plnr ++ (w_shts ++ ro)))))))))))) ((List.Perm.append_left _ ((List.Perm.append_left _ ((List.Perm.append_left _ ((List.Perm.append_left _ ((List.Perm.append_left _ ((List.Perm.append_left _ ((List.Perm.append_left _ ((List.Perm.append_left _ ((List.Perm.append_left _ ((List.Perm.append_left _ ((List.Perm.append_left _ (List.Perm.refl _)).trans (List.perm_append_comm_assoc _ _ _))).trans (List.perm_append_comm_assoc _ _ _))).trans (List.perm_append_comm_assoc _ _ _))).trans (List.perm_append_comm_assoc _ _ _))).trans (List.perm_append_comm_assoc _ _ _))).trans (List.perm_append_comm_assoc _ _ _))).trans (List.perm_append_comm_assoc _ _ _))).trans (List.perm_append_comm_assoc _ _ _))).trans (List.perm_append_comm_assoc _ _ _))).trans (List.perm_append_comm_assoc _ _ _))).trans (List.perm_append_comm_assoc _ _ _)) ?_
  refine lm_event C hW hk H_ref (fun rr f_hasIfZ f_becomesZ f_goneOfZ f_caseManyZ f_happenZ f_heardZ wmZ H_refZ hE => ?_)
  refine ww_perm (ws' := [(hx, .inr (11, [.ref h, .ref qp, .int (nI ac), .int (nI np), .ref qs, .ref qj, .ref ly, .ref qh, .ref kk, .int (nI kc), .ref rd, .ref pg, .int (nI pe), .int kn, .ref ss]))] ++ (w_now ++ (w_past ++ (w_pars ++ (w_judg ++ (w_layr ++ (w_heap ++ (w_kept ++ (w_rnds ++ (w_plnr ++ (w_shts ++ (wmZ ++ ro)))))))))))) ((List.Perm.append_left _ ((List.Perm.append_left _ ((List.Perm.append_left _ ((List.Perm.append_left _ ((List.Perm.append_left _ ((List.Perm.append_left _ ((List.Perm.append_left _ ((List.Perm.append_left _ ((List.Perm.append_left _ ((List.Perm.append_left _ ((List.Perm.append_left _ (List.Perm.refl _)).trans (List.perm_append_comm_assoc _ _ _))).trans (List.perm_append_comm_assoc _ _ _))).trans (List.perm_append_comm_assoc _ _ _))).trans (List.perm_append_comm_assoc _ _ _))).trans (List.perm_append_comm_assoc _ _ _))).trans (List.perm_append_comm_assoc _ _ _))).trans (List.perm_append_comm_assoc _ _ _))).trans (List.perm_append_comm_assoc _ _ _))).trans (List.perm_append_comm_assoc _ _ _))).trans (List.perm_append_comm_assoc _ _ _))).trans (List.perm_append_comm_assoc _ _ _)).symm ?_
  exact kont rr f_hasIfZ f_becomesZ f_goneOfZ f_caseManyZ f_happenZ f_heardZ _ ⟨h, qp, qs, qj, ly, qh, kk, rd, pg, ss, w_now, w_past, w_pars, w_judg, w_layr, w_heap, w_kept, w_rnds, w_plnr, w_shts, wmZ, ro, hac, hnp, hkc, hpe, H_now, H_past, H_pars, H_judg, H_layr, H_heap, H_kept, H_rnds, H_plnr, H_shts, H_refZ, rfl⟩ hE
set_option maxRecDepth 100000 in
theorem my_when {X : XT} {E : EV} {ws : va_W} {lv : List (Nat × Value)} {rest : List Value} {kC nC : Nat} {hx hm : Nat} {tl : Nat} {ct : Nat → Int} {pe : Nat} {kn : Int32} {ac : Nat} {np : Nat} {kc : Nat} {mN : AM} {pV : Nat → AM} {kV : Nat → AM} {st : Nat → Nat} {sn : Nat → Nat} {sl : Nat → Nat} {scx : Nat → Nat → Int32} {tT : Nat → Option SVal} {ec : Nat → Nat} {er : Nat → Nat} {ed : Nat → Nat → Int32} {eT : Nat → Nat → Option SVal} {eb : Nat → Nat → Int32} {en : Nat → Nat → Int32} {q_undos : Nat} {q_models : Nat} {PGv : Nat → AM} {f_afterOf : Nat → Int32} {f_actMany : Nat → Int32} {f_actOf : Nat → Int32} {f_whom : Nat → Int32} {f_hasIf : Nat → Int32} {f_becomes : Nat → Int32} {f_goneOf : Nat → Int32} {q_taped : Nat} {cr : Nat → Int} {q_people : Nat} {f_secrets : Nat → Int32} {f_lanes : Nat → Int32} {f_lengths : Nat → Int32} {f_cells : Nat → Int32} {f_tokens : Nat → Int32} {f_afters : Nat → Int32} {f_caseMany : Nat → Int32} {f_happen : Nat → Int32} {f_heard : Nat → Int32} {v0 : Int32} {v1 : Int32} {v2 : Int32} {v3 : Int32} {v4 : Int32} (C : CX X room_1 cL_law 4 RL ret E) (hW : Nat.ble (rest.map fun v => v.category).sum 8 = true) (hk : kC ≤ 600000 ∧ nC ≤ 7302250) (hS : ST E hx hm tl ct pe kn ac np kc mN pV kV st sn sl scx tT ec er ed eT eb en q_undos q_models PGv f_afterOf f_actMany f_actOf f_whom f_hasIf f_becomes f_goneOf q_taped cr q_people f_secrets f_lanes f_lengths f_cells f_tokens f_afters f_caseMany f_happen f_heard ws) (kont : ∀ (rr : Int32) (f_actManyZ : Nat → Int32) (f_actOfZ : Nat → Int32) (f_whomZ : Nat → Int32) (f_hasIfZ : Nat → Int32) (f_becomesZ : Nat → Int32) (f_goneOfZ : Nat → Int32) (wsZ : va_W), ST E hx hm tl ct pe kn ac np kc mN pV kV st sn sl scx tT ec er ed eT eb en q_undos q_models PGv f_afterOf f_actManyZ f_actOfZ f_whomZ f_hasIfZ f_becomesZ f_goneOfZ q_taped cr q_people f_secrets f_lanes f_lengths f_cells f_tokens f_afters f_caseMany f_happen f_heard wsZ → (((¬ CSE (cN f_caseMany) v0 v1 ∨ (v2 ≠ -4 ∧ ¬ PLN (tRr f_tokens f_afters) v2) ∨ v3.toInt < 0 ∨ 15 < v3.toInt ∨ v4.toInt < 0 ∨ 15 < v4.toInt) ∧ rr = -1 ∧ f_hasIfZ = f_hasIf ∧ f_becomesZ = f_becomes ∧ f_goneOfZ = f_goneOf ∧ f_actManyZ = f_actMany ∧ f_actOfZ = f_actOf ∧ f_whomZ = f_whom) ∨ ∃ k_ i_ : Nat, (CSE (cN f_caseMany) v0 v1 ∧ (v2 = -4 ∨ PLN (tRr f_tokens f_afters) v2) ∧ 0 ≤ v3.toInt ∧ v3.toInt ≤ 15 ∧ 0 ≤ v4.toInt ∧ v4.toInt ≤ 15) ∧ rr = 1 ∧ v0 = nI k_ ∧ v1 = nI i_ ∧ k_ ≤ 3 ∧ i_ ≤ 3 ∧ ((v2 = -4 ∧ upd f_hasIf (4 * k_ + i_) 0 = f_hasIfZ ∧ f_actManyZ = f_actMany ∧ f_actOfZ = f_actOf ∧ f_whomZ = f_whom) ∨ ∃ s_ : Nat, v2 = nI s_ ∧ s_ ≤ 7 ∧ upd f_hasIf (4 * k_ + i_) 1 = f_hasIfZ ∧ upd f_actMany (8 + 4 * k_ + i_) (nI (cN f_actMany s_)) = f_actManyZ ∧ CPG 32 s_ (8 + 4 * k_ + i_) 32 f_actOf f_actOfZ ∧ CPG 32 s_ (8 + 4 * k_ + i_) 32 f_whom f_whomZ) ∧ upd f_becomes (4 * k_ + i_) v3 = f_becomesZ ∧ upd f_goneOf (4 * k_ + i_) v4 = f_goneOfZ) → WW X 4 E 713 lv (.int rr :: rest) wsZ kC nC) : WW X 4 E 710 lv (.int v4 :: .int v3 :: .int v2 :: .int v1 :: .int v0 :: .ref hm :: rest) ws kC nC := by
  unfold ST at hS
  refine ex8 hS ?_
  clear hS
  intro h qp qs qj ly qh kk rd hS
  refine ex8 hS ?_
  clear hS
  intro pg ss w_now w_past w_pars w_judg w_layr w_heap hS
  refine ex6 hS ?_
  clear hS
  intro w_kept w_rnds w_plnr w_shts wm ro hS
  refine an8 hS ?_
  clear hS
  intro hac hnp hkc hpe H_now H_past H_pars H_judg hS
  refine an7 hS ?_
  clear hS
  intro H_layr H_heap H_kept H_rnds H_plnr H_shts H_ref hS
  have we_st := hS
  clear hS
  subst we_st
  refine ww_perm (ws' := wm ++ ([(hx, .inr (11, [.ref h, .ref qp, .int (nI ac), .int (nI np), .ref qs, .ref qj, .ref ly, .ref qh, .ref kk, .int (nI kc), .ref rd, .ref pg, .int (nI pe), .int kn, .ref ss]))] ++ (w_now ++ (w_past ++ (w_pars ++ (w_judg ++ (w_layr ++ (w_heap ++ (w_kept ++ (w_rnds ++ (w_plnr ++ (w_shts ++ ro)))))))))))) ((List.Perm.append_left _ ((List.Perm.append_left _ ((List.Perm.append_left _ ((List.Perm.append_left _ ((List.Perm.append_left _ ((List.Perm.append_left _ ((List.Perm.append_left _ ((List.Perm.append_left _ ((List.Perm.append_left _ ((List.Perm.append_left _ ((List.Perm.append_left _ (List.Perm.refl _)).trans (List.perm_append_comm_assoc _ _ _))).trans (List.perm_append_comm_assoc _ _ _))).trans (List.perm_append_comm_assoc _ _ _))).trans (List.perm_append_comm_assoc _ _ _))).trans (List.perm_append_comm_assoc _ _ _))).trans (List.perm_append_comm_assoc _ _ _))).trans (List.perm_append_comm_assoc _ _ _))).trans (List.perm_append_comm_assoc _ _ _))).trans (List.perm_append_comm_assoc _ _ _))).trans (List.perm_append_comm_assoc _ _ _))).trans (List.perm_append_comm_assoc _ _ _)) ?_
  refine lm_when C hW hk H_ref (fun rr f_actManyZ f_actOfZ f_whomZ f_hasIfZ f_becomesZ f_goneOfZ wmZ H_refZ hE => ?_)
  refine ww_perm (ws' := [(hx, .inr (11, [.ref h, .ref qp, .int (nI ac), .int (nI np), .ref qs, .ref qj, .ref ly, .ref qh, .ref kk, .int (nI kc), .ref rd, .ref pg, .int (nI pe), .int kn, .ref ss]))] ++ (w_now ++ (w_past ++ (w_pars ++ (w_judg ++ (w_layr ++ (w_heap ++ (w_kept ++ (w_rnds ++ (w_plnr ++ (w_shts ++ (wmZ ++ ro)))))))))))) ((List.Perm.append_left _ ((List.Perm.append_left _ ((List.Perm.append_left _ ((List.Perm.append_left _ ((List.Perm.append_left _ ((List.Perm.append_left _ ((List.Perm.append_left _ ((List.Perm.append_left _ ((List.Perm.append_left _ ((List.Perm.append_left _ ((List.Perm.append_left _ (List.Perm.refl _)).trans (List.perm_append_comm_assoc _ _ _))).trans (List.perm_append_comm_assoc _ _ _))).trans (List.perm_append_comm_assoc _ _ _))).trans (List.perm_append_comm_assoc _ _ _))).trans (List.perm_append_comm_assoc _ _ _))).trans (List.perm_append_comm_assoc _ _ _))).trans (List.perm_append_comm_assoc _ _ _))).trans (List.perm_append_comm_assoc _ _ _))).trans (List.perm_append_comm_assoc _ _ _))).trans (List.perm_append_comm_assoc _ _ _))).trans (List.perm_append_comm_assoc _ _ _)).symm ?_
  exact kont rr f_actManyZ f_actOfZ f_whomZ f_hasIfZ f_becomesZ f_goneOfZ _ ⟨h, qp, qs, qj, ly, qh, kk, rd, pg, ss, w_now, w_past, w_pars, w_judg, w_layr, w_heap, w_kept, w_rnds, w_plnr, w_shts, wmZ, ro, hac, hnp, hkc, hpe, H_now, H_past, H_pars, H_judg, H_layr, H_heap, H_kept, H_rnds, H_plnr, H_shts, H_refZ, rfl⟩ hE
set_option maxRecDepth 100000 in
theorem my_hears {X : XT} {E : EV} {ws : va_W} {lv : List (Nat × Value)} {rest : List Value} {kC nC : Nat} {hx hm : Nat} {tl : Nat} {ct : Nat → Int} {pe : Nat} {kn : Int32} {ac : Nat} {np : Nat} {kc : Nat} {mN : AM} {pV : Nat → AM} {kV : Nat → AM} {st : Nat → Nat} {sn : Nat → Nat} {sl : Nat → Nat} {scx : Nat → Nat → Int32} {tT : Nat → Option SVal} {ec : Nat → Nat} {er : Nat → Nat} {ed : Nat → Nat → Int32} {eT : Nat → Nat → Option SVal} {eb : Nat → Nat → Int32} {en : Nat → Nat → Int32} {q_undos : Nat} {q_models : Nat} {PGv : Nat → AM} {f_afterOf : Nat → Int32} {f_actMany : Nat → Int32} {f_actOf : Nat → Int32} {f_whom : Nat → Int32} {f_hasIf : Nat → Int32} {f_becomes : Nat → Int32} {f_goneOf : Nat → Int32} {q_taped : Nat} {cr : Nat → Int} {q_people : Nat} {f_secrets : Nat → Int32} {f_lanes : Nat → Int32} {f_lengths : Nat → Int32} {f_cells : Nat → Int32} {f_tokens : Nat → Int32} {f_afters : Nat → Int32} {f_caseMany : Nat → Int32} {f_happen : Nat → Int32} {f_heard : Nat → Int32} {v0 : Int32} {v1 : Int32} {v2 : Int32} {v3 : Int32} {v4 : Int32} (C : CX X room_1 cL_law 4 RL ret E) (hW : Nat.ble (rest.map fun v => v.category).sum 8 = true) (hk : kC ≤ 600000 ∧ nC ≤ 7302250) (hS : ST E hx hm tl ct pe kn ac np kc mN pV kV st sn sl scx tT ec er ed eT eb en q_undos q_models PGv f_afterOf f_actMany f_actOf f_whom f_hasIf f_becomes f_goneOf q_taped cr q_people f_secrets f_lanes f_lengths f_cells f_tokens f_afters f_caseMany f_happen f_heard ws) (kont : ∀ (rr : Int32) (f_heardZ : Nat → Int32) (wsZ : va_W), ST E hx hm tl ct pe kn ac np kc mN pV kV st sn sl scx tT ec er ed eT eb en q_undos q_models PGv f_afterOf f_actMany f_actOf f_whom f_hasIf f_becomes f_goneOf q_taped cr q_people f_secrets f_lanes f_lengths f_cells f_tokens f_afters f_caseMany f_happen f_heardZ wsZ → (((¬ CSE (cN f_caseMany) v0 v2 ∨ ¬ CSE (cN f_caseMany) v0 v3 ∨ v1.toInt < 0 ∨ 3 < v1.toInt) ∧ rr = -1 ∧ f_heardZ = f_heard) ∨ ∃ k_ n_ i_ : Nat, CSE (cN f_caseMany) v0 v2 ∧ CSE (cN f_caseMany) v0 v3 ∧ v0 = nI k_ ∧ v1 = nI n_ ∧ v2 = nI i_ ∧ k_ ≤ 3 ∧ n_ ≤ 3 ∧ i_ ≤ 3 ∧ upd f_heard (16 * k_ + 4 * n_ + i_) (hbt (f_heard (16 * k_ + 4 * n_ + i_)) v3 v4) = f_heardZ ∧ rr = f_heard (16 * k_ + 4 * n_ + i_) >>> (v3 &&& 31) &&& 1) → WW X 4 E 792 lv (.int rr :: rest) wsZ kC nC) : WW X 4 E 789 lv (.int v4 :: .int v3 :: .int v2 :: .int v1 :: .int v0 :: .ref hm :: rest) ws kC nC := by
  unfold ST at hS
  refine ex8 hS ?_
  clear hS
  intro h qp qs qj ly qh kk rd hS
  refine ex8 hS ?_
  clear hS
  intro pg ss w_now w_past w_pars w_judg w_layr w_heap hS
  refine ex6 hS ?_
  clear hS
  intro w_kept w_rnds w_plnr w_shts wm ro hS
  refine an8 hS ?_
  clear hS
  intro hac hnp hkc hpe H_now H_past H_pars H_judg hS
  refine an7 hS ?_
  clear hS
  intro H_layr H_heap H_kept H_rnds H_plnr H_shts H_ref hS
  have we_st := hS
  clear hS
  subst we_st
  refine ww_perm (ws' := wm ++ ([(hx, .inr (11, [.ref h, .ref qp, .int (nI ac), .int (nI np), .ref qs, .ref qj, .ref ly, .ref qh, .ref kk, .int (nI kc), .ref rd, .ref pg, .int (nI pe), .int kn, .ref ss]))] ++ (w_now ++ (w_past ++ (w_pars ++ (w_judg ++ (w_layr ++ (w_heap ++ (w_kept ++ (w_rnds ++ (w_plnr ++ (w_shts ++ ro)))))))))))) ((List.Perm.append_left _ ((List.Perm.append_left _ ((List.Perm.append_left _ ((List.Perm.append_left _ ((List.Perm.append_left _ ((List.Perm.append_left _ ((List.Perm.append_left _ ((List.Perm.append_left _ ((List.Perm.append_left _ ((List.Perm.append_left _ ((List.Perm.append_left _ (List.Perm.refl _)).trans (List.perm_append_comm_assoc _ _ _))).trans (List.perm_append_comm_assoc _ _ _))).trans (List.perm_append_comm_assoc _ _ _))).trans (List.perm_append_comm_assoc _ _ _))).trans (List.perm_append_comm_assoc _ _ _))).trans (List.perm_append_comm_assoc _ _ _))).trans (List.perm_append_comm_assoc _ _ _))).trans (List.perm_append_comm_assoc _ _ _))).trans (List.perm_append_comm_assoc _ _ _))).trans (List.perm_append_comm_assoc _ _ _))).trans (List.perm_append_comm_assoc _ _ _)) ?_
  refine lm_hears C hW hk H_ref (fun rr f_heardZ wmZ H_refZ hE => ?_)
  refine ww_perm (ws' := [(hx, .inr (11, [.ref h, .ref qp, .int (nI ac), .int (nI np), .ref qs, .ref qj, .ref ly, .ref qh, .ref kk, .int (nI kc), .ref rd, .ref pg, .int (nI pe), .int kn, .ref ss]))] ++ (w_now ++ (w_past ++ (w_pars ++ (w_judg ++ (w_layr ++ (w_heap ++ (w_kept ++ (w_rnds ++ (w_plnr ++ (w_shts ++ (wmZ ++ ro)))))))))))) ((List.Perm.append_left _ ((List.Perm.append_left _ ((List.Perm.append_left _ ((List.Perm.append_left _ ((List.Perm.append_left _ ((List.Perm.append_left _ ((List.Perm.append_left _ ((List.Perm.append_left _ ((List.Perm.append_left _ ((List.Perm.append_left _ ((List.Perm.append_left _ (List.Perm.refl _)).trans (List.perm_append_comm_assoc _ _ _))).trans (List.perm_append_comm_assoc _ _ _))).trans (List.perm_append_comm_assoc _ _ _))).trans (List.perm_append_comm_assoc _ _ _))).trans (List.perm_append_comm_assoc _ _ _))).trans (List.perm_append_comm_assoc _ _ _))).trans (List.perm_append_comm_assoc _ _ _))).trans (List.perm_append_comm_assoc _ _ _))).trans (List.perm_append_comm_assoc _ _ _))).trans (List.perm_append_comm_assoc _ _ _))).trans (List.perm_append_comm_assoc _ _ _)).symm ?_
  exact kont rr f_heardZ _ ⟨h, qp, qs, qj, ly, qh, kk, rd, pg, ss, w_now, w_past, w_pars, w_judg, w_layr, w_heap, w_kept, w_rnds, w_plnr, w_shts, wmZ, ro, hac, hnp, hkc, hpe, H_now, H_past, H_pars, H_judg, H_layr, H_heap, H_kept, H_rnds, H_plnr, H_shts, H_refZ, rfl⟩ hE
set_option maxRecDepth 100000 in
theorem my_happens {X : XT} {E : EV} {ws : va_W} {lv : List (Nat × Value)} {rest : List Value} {kC nC : Nat} {hx hm : Nat} {tl : Nat} {ct : Nat → Int} {pe : Nat} {kn : Int32} {ac : Nat} {np : Nat} {kc : Nat} {mN : AM} {pV : Nat → AM} {kV : Nat → AM} {st : Nat → Nat} {sn : Nat → Nat} {sl : Nat → Nat} {scx : Nat → Nat → Int32} {tT : Nat → Option SVal} {ec : Nat → Nat} {er : Nat → Nat} {ed : Nat → Nat → Int32} {eT : Nat → Nat → Option SVal} {eb : Nat → Nat → Int32} {en : Nat → Nat → Int32} {q_undos : Nat} {q_models : Nat} {PGv : Nat → AM} {f_afterOf : Nat → Int32} {f_actMany : Nat → Int32} {f_actOf : Nat → Int32} {f_whom : Nat → Int32} {f_hasIf : Nat → Int32} {f_becomes : Nat → Int32} {f_goneOf : Nat → Int32} {q_taped : Nat} {cr : Nat → Int} {q_people : Nat} {f_secrets : Nat → Int32} {f_lanes : Nat → Int32} {f_lengths : Nat → Int32} {f_cells : Nat → Int32} {f_tokens : Nat → Int32} {f_afters : Nat → Int32} {f_caseMany : Nat → Int32} {f_happen : Nat → Int32} {f_heard : Nat → Int32} {v0 : Int32} {v1 : Int32} (C : CX X room_1 cL_law 4 RL ret E) (hW : Nat.ble (rest.map fun v => v.category).sum 8 = true) (hk : kC ≤ 600000 ∧ nC ≤ 7302250) (hS : ST E hx hm tl ct pe kn ac np kc mN pV kV st sn sl scx tT ec er ed eT eb en q_undos q_models PGv f_afterOf f_actMany f_actOf f_whom f_hasIf f_becomes f_goneOf q_taped cr q_people f_secrets f_lanes f_lengths f_cells f_tokens f_afters f_caseMany f_happen f_heard ws) (kont : ∀ (rr : Int32) (f_happenZ : Nat → Int32) (wsZ : va_W), ST E hx hm tl ct pe kn ac np kc mN pV kV st sn sl scx tT ec er ed eT eb en q_undos q_models PGv f_afterOf f_actMany f_actOf f_whom f_hasIf f_becomes f_goneOf q_taped cr q_people f_secrets f_lanes f_lengths f_cells f_tokens f_afters f_caseMany f_happenZ f_heard wsZ → ((¬ CSE (cN f_caseMany) v0 v1 ∧ rr = -1 ∧ f_happenZ = f_happen) ∨ ∃ k_ i_ : Nat, CSE (cN f_caseMany) v0 v1 ∧ v0 = nI k_ ∧ v1 = nI i_ ∧ k_ ≤ 3 ∧ i_ ≤ 3 ∧ upd f_happen k_ (nI i_) = f_happenZ ∧ rr = nI (cN f_happen k_)) → WW X 4 E 825 lv (.int rr :: rest) wsZ kC nC) : WW X 4 E 822 lv (.int v1 :: .int v0 :: .ref hm :: rest) ws kC nC := by
  unfold ST at hS
  refine ex8 hS ?_
  clear hS
  intro h qp qs qj ly qh kk rd hS
  refine ex8 hS ?_
  clear hS
  intro pg ss w_now w_past w_pars w_judg w_layr w_heap hS
  refine ex6 hS ?_
  clear hS
  intro w_kept w_rnds w_plnr w_shts wm ro hS
  refine an8 hS ?_
  clear hS
  intro hac hnp hkc hpe H_now H_past H_pars H_judg hS
  refine an7 hS ?_
  clear hS
  intro H_layr H_heap H_kept H_rnds H_plnr H_shts H_ref hS
  have we_st := hS
  clear hS
  subst we_st
  refine ww_perm (ws' := wm ++ ([(hx, .inr (11, [.ref h, .ref qp, .int (nI ac), .int (nI np), .ref qs, .ref qj, .ref ly, .ref qh, .ref kk, .int (nI kc), .ref rd, .ref pg, .int (nI pe), .int kn, .ref ss]))] ++ (w_now ++ (w_past ++ (w_pars ++ (w_judg ++ (w_layr ++ (w_heap ++ (w_kept ++ (w_rnds ++ (w_plnr ++ (w_shts ++ ro)))))))))))) ((List.Perm.append_left _ ((List.Perm.append_left _ ((List.Perm.append_left _ ((List.Perm.append_left _ ((List.Perm.append_left _ ((List.Perm.append_left _ ((List.Perm.append_left _ ((List.Perm.append_left _ ((List.Perm.append_left _ ((List.Perm.append_left _ ((List.Perm.append_left _ (List.Perm.refl _)).trans (List.perm_append_comm_assoc _ _ _))).trans (List.perm_append_comm_assoc _ _ _))).trans (List.perm_append_comm_assoc _ _ _))).trans (List.perm_append_comm_assoc _ _ _))).trans (List.perm_append_comm_assoc _ _ _))).trans (List.perm_append_comm_assoc _ _ _))).trans (List.perm_append_comm_assoc _ _ _))).trans (List.perm_append_comm_assoc _ _ _))).trans (List.perm_append_comm_assoc _ _ _))).trans (List.perm_append_comm_assoc _ _ _))).trans (List.perm_append_comm_assoc _ _ _)) ?_
  refine lm_happens C hW hk H_ref (fun rr f_happenZ wmZ H_refZ hE => ?_)
  refine ww_perm (ws' := [(hx, .inr (11, [.ref h, .ref qp, .int (nI ac), .int (nI np), .ref qs, .ref qj, .ref ly, .ref qh, .ref kk, .int (nI kc), .ref rd, .ref pg, .int (nI pe), .int kn, .ref ss]))] ++ (w_now ++ (w_past ++ (w_pars ++ (w_judg ++ (w_layr ++ (w_heap ++ (w_kept ++ (w_rnds ++ (w_plnr ++ (w_shts ++ (wmZ ++ ro)))))))))))) ((List.Perm.append_left _ ((List.Perm.append_left _ ((List.Perm.append_left _ ((List.Perm.append_left _ ((List.Perm.append_left _ ((List.Perm.append_left _ ((List.Perm.append_left _ ((List.Perm.append_left _ ((List.Perm.append_left _ ((List.Perm.append_left _ ((List.Perm.append_left _ (List.Perm.refl _)).trans (List.perm_append_comm_assoc _ _ _))).trans (List.perm_append_comm_assoc _ _ _))).trans (List.perm_append_comm_assoc _ _ _))).trans (List.perm_append_comm_assoc _ _ _))).trans (List.perm_append_comm_assoc _ _ _))).trans (List.perm_append_comm_assoc _ _ _))).trans (List.perm_append_comm_assoc _ _ _))).trans (List.perm_append_comm_assoc _ _ _))).trans (List.perm_append_comm_assoc _ _ _))).trans (List.perm_append_comm_assoc _ _ _))).trans (List.perm_append_comm_assoc _ _ _)).symm ?_
  exact kont rr f_happenZ _ ⟨h, qp, qs, qj, ly, qh, kk, rd, pg, ss, w_now, w_past, w_pars, w_judg, w_layr, w_heap, w_kept, w_rnds, w_plnr, w_shts, wmZ, ro, hac, hnp, hkc, hpe, H_now, H_past, H_pars, H_judg, H_layr, H_heap, H_kept, H_rnds, H_plnr, H_shts, H_refZ, rfl⟩ hE
set_option maxRecDepth 100000 in
theorem my_word {X : XT} {E : EV} {ws : va_W} {lv : List (Nat × Value)} {rest : List Value} {kC nC : Nat} {hx hm : Nat} {tl : Nat} {ct : Nat → Int} {pe : Nat} {kn : Int32} {ac : Nat} {np : Nat} {kc : Nat} {mN : AM} {pV : Nat → AM} {kV : Nat → AM} {st : Nat → Nat} {sn : Nat → Nat} {sl : Nat → Nat} {scx : Nat → Nat → Int32} {tT : Nat → Option SVal} {ec : Nat → Nat} {er : Nat → Nat} {ed : Nat → Nat → Int32} {eT : Nat → Nat → Option SVal} {eb : Nat → Nat → Int32} {en : Nat → Nat → Int32} {q_undos : Nat} {q_models : Nat} {PGv : Nat → AM} {f_afterOf : Nat → Int32} {f_actMany : Nat → Int32} {f_actOf : Nat → Int32} {f_whom : Nat → Int32} {f_hasIf : Nat → Int32} {f_becomes : Nat → Int32} {f_goneOf : Nat → Int32} {q_taped : Nat} {cr : Nat → Int} {q_people : Nat} {f_secrets : Nat → Int32} {f_lanes : Nat → Int32} {f_lengths : Nat → Int32} {f_cells : Nat → Int32} {f_tokens : Nat → Int32} {f_afters : Nat → Int32} {f_caseMany : Nat → Int32} {f_happen : Nat → Int32} {f_heard : Nat → Int32} {v0 : Int32} {v1 : Int32} {v2 : Int32} {v3 : Int32} (C : CX X room_1 cL_law 4 RL ret E) (hW : Nat.ble (rest.map fun v => v.category).sum 8 = true) (hk : kC ≤ 600000 ∧ nC ≤ 7302250) (hS : ST E hx hm tl ct pe kn ac np kc mN pV kV st sn sl scx tT ec er ed eT eb en q_undos q_models PGv f_afterOf f_actMany f_actOf f_whom f_hasIf f_becomes f_goneOf q_taped cr q_people f_secrets f_lanes f_lengths f_cells f_tokens f_afters f_caseMany f_happen f_heard ws) (kont : ∀ (rr : Int32) (f_actManyZ : Nat → Int32) (f_actOfZ : Nat → Int32) (f_whomZ : Nat → Int32) (f_hasIfZ : Nat → Int32) (f_becomesZ : Nat → Int32) (f_goneOfZ : Nat → Int32) (f_caseManyZ : Nat → Int32) (f_happenZ : Nat → Int32) (f_heardZ : Nat → Int32) (wsZ : va_W), ST E hx hm tl ct pe kn ac np kc mN pV kV st sn sl scx tT ec er ed eT eb en q_undos q_models PGv f_afterOf f_actManyZ f_actOfZ f_whomZ f_hasIfZ f_becomesZ f_goneOfZ q_taped cr q_people f_secrets f_lanes f_lengths f_cells f_tokens f_afters f_caseManyZ f_happenZ f_heardZ wsZ → (((v0.toInt < 0 ∨ 3 < v0.toInt ∨ v1.toInt < 0 ∨ 2 < v1.toInt ∨ ¬ PLN (tRr f_tokens f_afters) v2 ∨ v3.toInt < 0 ∨ 15 < v3.toInt) ∧ rr = -1 ∧ f_caseManyZ = f_caseMany ∧ f_happenZ = f_happen ∧ f_heardZ = f_heard ∧ f_hasIfZ = f_hasIf ∧ f_becomesZ = f_becomes ∧ f_goneOfZ = f_goneOf ∧ f_actManyZ = f_actMany ∧ f_actOfZ = f_actOf ∧ f_whomZ = f_whom) ∨ ∃ k_ d_ : Nat, PLN (tRr f_tokens f_afters) v2 ∧ v0 = nI k_ ∧ v1 = nI d_ ∧ k_ ≤ 3 ∧ d_ ≤ 2 ∧ (0 ≤ v3.toInt ∧ v3.toInt ≤ 15) ∧ upd f_caseMany k_ (nI (if d_ = 0 then 1 else 2)) = f_caseManyZ ∧ upd f_happen k_ (nI 0) = f_happenZ ∧ WX k_ d_ v3 4 f_heard f_heardZ ∧ rr = nI (if d_ = 0 then 1 else 2) ∧ (∃ (s_ : Nat) (h_ : Nat → Int32), v2 = nI s_ ∧ s_ ≤ 7 ∧ Z4 k_ 4 f_hasIf h_ ∧ upd h_ (4 * k_ + (if d_ = 2 then 1 else 0)) 1 = f_hasIfZ ∧ upd f_actMany (8 + 4 * k_ + (if d_ = 2 then 1 else 0)) (nI (cN f_actMany s_)) = f_actManyZ ∧ CPG 32 s_ (8 + 4 * k_ + (if d_ = 2 then 1 else 0)) 32 f_actOf f_actOfZ ∧ CPG 32 s_ (8 + 4 * k_ + (if d_ = 2 then 1 else 0)) 32 f_whom f_whomZ) ∧ Z4 k_ 4 f_becomes f_becomesZ ∧ Z4 k_ 4 f_goneOf f_goneOfZ) → WW X 4 E 878 lv (.int rr :: rest) wsZ kC nC) : WW X 4 E 875 lv (.int v3 :: .int v2 :: .int v1 :: .int v0 :: .ref hm :: rest) ws kC nC := by
  unfold ST at hS
  refine ex8 hS ?_
  clear hS
  intro h qp qs qj ly qh kk rd hS
  refine ex8 hS ?_
  clear hS
  intro pg ss w_now w_past w_pars w_judg w_layr w_heap hS
  refine ex6 hS ?_
  clear hS
  intro w_kept w_rnds w_plnr w_shts wm ro hS
  refine an8 hS ?_
  clear hS
  intro hac hnp hkc hpe H_now H_past H_pars H_judg hS
  refine an7 hS ?_
  clear hS
  intro H_layr H_heap H_kept H_rnds H_plnr H_shts H_ref hS
  have we_st := hS
  clear hS
  subst we_st
  refine ww_perm (ws' := wm ++ ([(hx, .inr (11, [.ref h, .ref qp, .int (nI ac), .int (nI np), .ref qs, .ref qj, .ref ly, .ref qh, .ref kk, .int (nI kc), .ref rd, .ref pg, .int (nI pe), .int kn, .ref ss]))] ++ (w_now ++ (w_past ++ (w_pars ++ (w_judg ++ (w_layr ++ (w_heap ++ (w_kept ++ (w_rnds ++ (w_plnr ++ (w_shts ++ ro)))))))))))) ((List.Perm.append_left _ ((List.Perm.append_left _ ((List.Perm.append_left _ ((List.Perm.append_left _ ((List.Perm.append_left _ ((List.Perm.append_left _ ((List.Perm.append_left _ ((List.Perm.append_left _ ((List.Perm.append_left _ ((List.Perm.append_left _ ((List.Perm.append_left _ (List.Perm.refl _)).trans (List.perm_append_comm_assoc _ _ _))).trans (List.perm_append_comm_assoc _ _ _))).trans (List.perm_append_comm_assoc _ _ _))).trans (List.perm_append_comm_assoc _ _ _))).trans (List.perm_append_comm_assoc _ _ _))).trans (List.perm_append_comm_assoc _ _ _))).trans (List.perm_append_comm_assoc _ _ _))).trans (List.perm_append_comm_assoc _ _ _))).trans (List.perm_append_comm_assoc _ _ _))).trans (List.perm_append_comm_assoc _ _ _))).trans (List.perm_append_comm_assoc _ _ _)) ?_
  refine lm_word C hW hk H_ref (fun rr f_actManyZ f_actOfZ f_whomZ f_hasIfZ f_becomesZ f_goneOfZ f_caseManyZ f_happenZ f_heardZ wmZ H_refZ hE => ?_)
  refine ww_perm (ws' := [(hx, .inr (11, [.ref h, .ref qp, .int (nI ac), .int (nI np), .ref qs, .ref qj, .ref ly, .ref qh, .ref kk, .int (nI kc), .ref rd, .ref pg, .int (nI pe), .int kn, .ref ss]))] ++ (w_now ++ (w_past ++ (w_pars ++ (w_judg ++ (w_layr ++ (w_heap ++ (w_kept ++ (w_rnds ++ (w_plnr ++ (w_shts ++ (wmZ ++ ro)))))))))))) ((List.Perm.append_left _ ((List.Perm.append_left _ ((List.Perm.append_left _ ((List.Perm.append_left _ ((List.Perm.append_left _ ((List.Perm.append_left _ ((List.Perm.append_left _ ((List.Perm.append_left _ ((List.Perm.append_left _ ((List.Perm.append_left _ ((List.Perm.append_left _ (List.Perm.refl _)).trans (List.perm_append_comm_assoc _ _ _))).trans (List.perm_append_comm_assoc _ _ _))).trans (List.perm_append_comm_assoc _ _ _))).trans (List.perm_append_comm_assoc _ _ _))).trans (List.perm_append_comm_assoc _ _ _))).trans (List.perm_append_comm_assoc _ _ _))).trans (List.perm_append_comm_assoc _ _ _))).trans (List.perm_append_comm_assoc _ _ _))).trans (List.perm_append_comm_assoc _ _ _))).trans (List.perm_append_comm_assoc _ _ _))).trans (List.perm_append_comm_assoc _ _ _)).symm ?_
  exact kont rr f_actManyZ f_actOfZ f_whomZ f_hasIfZ f_becomesZ f_goneOfZ f_caseManyZ f_happenZ f_heardZ _ ⟨h, qp, qs, qj, ly, qh, kk, rd, pg, ss, w_now, w_past, w_pars, w_judg, w_layr, w_heap, w_kept, w_rnds, w_plnr, w_shts, wmZ, ro, hac, hnp, hkc, hpe, H_now, H_past, H_pars, H_judg, H_layr, H_heap, H_kept, H_rnds, H_plnr, H_shts, H_refZ, rfl⟩ hE
set_option maxRecDepth 100000 in
theorem my_lay {X : XT} {E : EV} {ws : va_W} {lv : List (Nat × Value)} {rest : List Value} {kC nC : Nat} {hx hm : Nat} {tl : Nat} {ct : Nat → Int} {pe : Nat} {kn : Int32} {ac : Nat} {np : Nat} {kc : Nat} {mN : AM} {pV : Nat → AM} {kV : Nat → AM} {st : Nat → Nat} {sn : Nat → Nat} {sl : Nat → Nat} {scx : Nat → Nat → Int32} {tT : Nat → Option SVal} {ec : Nat → Nat} {er : Nat → Nat} {ed : Nat → Nat → Int32} {eT : Nat → Nat → Option SVal} {eb : Nat → Nat → Int32} {en : Nat → Nat → Int32} {q_undos : Nat} {q_models : Nat} {PGv : Nat → AM} {f_afterOf : Nat → Int32} {f_actMany : Nat → Int32} {f_actOf : Nat → Int32} {f_whom : Nat → Int32} {f_hasIf : Nat → Int32} {f_becomes : Nat → Int32} {f_goneOf : Nat → Int32} {q_taped : Nat} {cr : Nat → Int} {q_people : Nat} {f_secrets : Nat → Int32} {f_lanes : Nat → Int32} {f_lengths : Nat → Int32} {f_cells : Nat → Int32} {f_tokens : Nat → Int32} {f_afters : Nat → Int32} {f_caseMany : Nat → Int32} {f_happen : Nat → Int32} {f_heard : Nat → Int32} {v0 : Int32} (C : CX X room_1 cL_law 4 RL ret E) (hW : Nat.ble (rest.map fun v => v.category).sum 8 = true) (hk : kC ≤ 600000 ∧ nC ≤ 7302250) (hS : ST E hx hm tl ct pe kn ac np kc mN pV kV st sn sl scx tT ec er ed eT eb en q_undos q_models PGv f_afterOf f_actMany f_actOf f_whom f_hasIf f_becomes f_goneOf q_taped cr q_people f_secrets f_lanes f_lengths f_cells f_tokens f_afters f_caseMany f_happen f_heard ws) (hWI : WHI f_hasIf f_actMany f_actOf f_whom) (kont : ∀ (rr : Int32) (q_undosZ : Nat) (PGvZ : Nat → AM) (wsZ : va_W), ST E hx hm tl ct pe kn ac np kc mN pV kV st sn sl scx tT ec er ed eT eb en q_undosZ q_models PGvZ f_afterOf f_actMany f_actOf f_whom f_hasIf f_becomes f_goneOf q_taped cr q_people f_secrets f_lanes f_lengths f_cells f_tokens f_afters f_caseMany f_happen f_heard wsZ → (((asM q_undosZ PGvZ), rr) = opLay (asM q_undos PGv) (rEv f_caseMany f_happen f_hasIf f_actMany f_actOf f_whom f_becomes f_goneOf f_heard) v0 ∧ KP6 PGv PGvZ) → WW X 4 E 901 lv (.int rr :: rest) wsZ kC nC) : WW X 4 E 898 lv (.int v0 :: .ref hm :: rest) ws kC nC := by
  unfold ST at hS
  refine ex8 hS ?_
  clear hS
  intro h qp qs qj ly qh kk rd hS
  refine ex8 hS ?_
  clear hS
  intro pg ss w_now w_past w_pars w_judg w_layr w_heap hS
  refine ex6 hS ?_
  clear hS
  intro w_kept w_rnds w_plnr w_shts wm ro hS
  refine an8 hS ?_
  clear hS
  intro hac hnp hkc hpe H_now H_past H_pars H_judg hS
  refine an7 hS ?_
  clear hS
  intro H_layr H_heap H_kept H_rnds H_plnr H_shts H_ref hS
  have we_st := hS
  clear hS
  subst we_st
  refine ww_perm (ws' := wm ++ ([(hx, .inr (11, [.ref h, .ref qp, .int (nI ac), .int (nI np), .ref qs, .ref qj, .ref ly, .ref qh, .ref kk, .int (nI kc), .ref rd, .ref pg, .int (nI pe), .int kn, .ref ss]))] ++ (w_now ++ (w_past ++ (w_pars ++ (w_judg ++ (w_layr ++ (w_heap ++ (w_kept ++ (w_rnds ++ (w_plnr ++ (w_shts ++ ro)))))))))))) ((List.Perm.append_left _ ((List.Perm.append_left _ ((List.Perm.append_left _ ((List.Perm.append_left _ ((List.Perm.append_left _ ((List.Perm.append_left _ ((List.Perm.append_left _ ((List.Perm.append_left _ ((List.Perm.append_left _ ((List.Perm.append_left _ ((List.Perm.append_left _ (List.Perm.refl _)).trans (List.perm_append_comm_assoc _ _ _))).trans (List.perm_append_comm_assoc _ _ _))).trans (List.perm_append_comm_assoc _ _ _))).trans (List.perm_append_comm_assoc _ _ _))).trans (List.perm_append_comm_assoc _ _ _))).trans (List.perm_append_comm_assoc _ _ _))).trans (List.perm_append_comm_assoc _ _ _))).trans (List.perm_append_comm_assoc _ _ _))).trans (List.perm_append_comm_assoc _ _ _))).trans (List.perm_append_comm_assoc _ _ _))).trans (List.perm_append_comm_assoc _ _ _)) ?_
  refine lm_lay C hW hk H_ref hWI (fun rr q_undosZ PGvZ wmZ H_refZ hE => ?_)
  refine ww_perm (ws' := [(hx, .inr (11, [.ref h, .ref qp, .int (nI ac), .int (nI np), .ref qs, .ref qj, .ref ly, .ref qh, .ref kk, .int (nI kc), .ref rd, .ref pg, .int (nI pe), .int kn, .ref ss]))] ++ (w_now ++ (w_past ++ (w_pars ++ (w_judg ++ (w_layr ++ (w_heap ++ (w_kept ++ (w_rnds ++ (w_plnr ++ (w_shts ++ (wmZ ++ ro)))))))))))) ((List.Perm.append_left _ ((List.Perm.append_left _ ((List.Perm.append_left _ ((List.Perm.append_left _ ((List.Perm.append_left _ ((List.Perm.append_left _ ((List.Perm.append_left _ ((List.Perm.append_left _ ((List.Perm.append_left _ ((List.Perm.append_left _ ((List.Perm.append_left _ (List.Perm.refl _)).trans (List.perm_append_comm_assoc _ _ _))).trans (List.perm_append_comm_assoc _ _ _))).trans (List.perm_append_comm_assoc _ _ _))).trans (List.perm_append_comm_assoc _ _ _))).trans (List.perm_append_comm_assoc _ _ _))).trans (List.perm_append_comm_assoc _ _ _))).trans (List.perm_append_comm_assoc _ _ _))).trans (List.perm_append_comm_assoc _ _ _))).trans (List.perm_append_comm_assoc _ _ _))).trans (List.perm_append_comm_assoc _ _ _))).trans (List.perm_append_comm_assoc _ _ _)).symm ?_
  exact kont rr q_undosZ PGvZ _ ⟨h, qp, qs, qj, ly, qh, kk, rd, pg, ss, w_now, w_past, w_pars, w_judg, w_layr, w_heap, w_kept, w_rnds, w_plnr, w_shts, wmZ, ro, hac, hnp, hkc, hpe, H_now, H_past, H_pars, H_judg, H_layr, H_heap, H_kept, H_rnds, H_plnr, H_shts, H_refZ, rfl⟩ hE
set_option maxRecDepth 100000 in
theorem my_classes {X : XT} {E : EV} {ws : va_W} {lv : List (Nat × Value)} {rest : List Value} {kC nC : Nat} {hx hm : Nat} {tl : Nat} {ct : Nat → Int} {pe : Nat} {kn : Int32} {ac : Nat} {np : Nat} {kc : Nat} {mN : AM} {pV : Nat → AM} {kV : Nat → AM} {st : Nat → Nat} {sn : Nat → Nat} {sl : Nat → Nat} {scx : Nat → Nat → Int32} {tT : Nat → Option SVal} {ec : Nat → Nat} {er : Nat → Nat} {ed : Nat → Nat → Int32} {eT : Nat → Nat → Option SVal} {eb : Nat → Nat → Int32} {en : Nat → Nat → Int32} {q_undos : Nat} {q_models : Nat} {PGv : Nat → AM} {f_afterOf : Nat → Int32} {f_actMany : Nat → Int32} {f_actOf : Nat → Int32} {f_whom : Nat → Int32} {f_hasIf : Nat → Int32} {f_becomes : Nat → Int32} {f_goneOf : Nat → Int32} {q_taped : Nat} {cr : Nat → Int} {q_people : Nat} {f_secrets : Nat → Int32} {f_lanes : Nat → Int32} {f_lengths : Nat → Int32} {f_cells : Nat → Int32} {f_tokens : Nat → Int32} {f_afters : Nat → Int32} {f_caseMany : Nat → Int32} {f_happen : Nat → Int32} {f_heard : Nat → Int32}  (C : CX X room_1 cL_law 4 RL ret E) (hW : Nat.ble (rest.map fun v => v.category).sum 8 = true) (hk : kC ≤ 600000 ∧ nC ≤ 7302250) (hS : ST E hx hm tl ct pe kn ac np kc mN pV kV st sn sl scx tT ec er ed eT eb en q_undos q_models PGv f_afterOf f_actMany f_actOf f_whom f_hasIf f_becomes f_goneOf q_taped cr q_people f_secrets f_lanes f_lengths f_cells f_tokens f_afters f_caseMany f_happen f_heard ws) (kont : ∀ (rr : Int32) (wsZ : va_W), ST E hx hm tl ct pe kn ac np kc mN pV kV st sn sl scx tT ec er ed eT eb en q_undos q_models PGv f_afterOf f_actMany f_actOf f_whom f_hasIf f_becomes f_goneOf q_taped cr q_people f_secrets f_lanes f_lengths f_cells f_tokens f_afters f_caseMany f_happen f_heard wsZ → (rr = ansClasses (PGv 0)) → WW X 4 E 914 lv (.int rr :: rest) wsZ kC nC) : WW X 4 E 911 lv (.ref hm :: rest) ws kC nC := by
  unfold ST at hS
  refine ex8 hS ?_
  clear hS
  intro h qp qs qj ly qh kk rd hS
  refine ex8 hS ?_
  clear hS
  intro pg ss w_now w_past w_pars w_judg w_layr w_heap hS
  refine ex6 hS ?_
  clear hS
  intro w_kept w_rnds w_plnr w_shts wm ro hS
  refine an8 hS ?_
  clear hS
  intro hac hnp hkc hpe H_now H_past H_pars H_judg hS
  refine an7 hS ?_
  clear hS
  intro H_layr H_heap H_kept H_rnds H_plnr H_shts H_ref hS
  have we_st := hS
  clear hS
  subst we_st
  refine ww_perm (ws' := wm ++ ([(hx, .inr (11, [.ref h, .ref qp, .int (nI ac), .int (nI np), .ref qs, .ref qj, .ref ly, .ref qh, .ref kk, .int (nI kc), .ref rd, .ref pg, .int (nI pe), .int kn, .ref ss]))] ++ (w_now ++ (w_past ++ (w_pars ++ (w_judg ++ (w_layr ++ (w_heap ++ (w_kept ++ (w_rnds ++ (w_plnr ++ (w_shts ++ ro)))))))))))) ((List.Perm.append_left _ ((List.Perm.append_left _ ((List.Perm.append_left _ ((List.Perm.append_left _ ((List.Perm.append_left _ ((List.Perm.append_left _ ((List.Perm.append_left _ ((List.Perm.append_left _ ((List.Perm.append_left _ ((List.Perm.append_left _ ((List.Perm.append_left _ (List.Perm.refl _)).trans (List.perm_append_comm_assoc _ _ _))).trans (List.perm_append_comm_assoc _ _ _))).trans (List.perm_append_comm_assoc _ _ _))).trans (List.perm_append_comm_assoc _ _ _))).trans (List.perm_append_comm_assoc _ _ _))).trans (List.perm_append_comm_assoc _ _ _))).trans (List.perm_append_comm_assoc _ _ _))).trans (List.perm_append_comm_assoc _ _ _))).trans (List.perm_append_comm_assoc _ _ _))).trans (List.perm_append_comm_assoc _ _ _))).trans (List.perm_append_comm_assoc _ _ _)) ?_
  refine lm_classes C hW hk H_ref (fun rr wmZ H_refZ hE => ?_)
  refine ww_perm (ws' := [(hx, .inr (11, [.ref h, .ref qp, .int (nI ac), .int (nI np), .ref qs, .ref qj, .ref ly, .ref qh, .ref kk, .int (nI kc), .ref rd, .ref pg, .int (nI pe), .int kn, .ref ss]))] ++ (w_now ++ (w_past ++ (w_pars ++ (w_judg ++ (w_layr ++ (w_heap ++ (w_kept ++ (w_rnds ++ (w_plnr ++ (w_shts ++ (wmZ ++ ro)))))))))))) ((List.Perm.append_left _ ((List.Perm.append_left _ ((List.Perm.append_left _ ((List.Perm.append_left _ ((List.Perm.append_left _ ((List.Perm.append_left _ ((List.Perm.append_left _ ((List.Perm.append_left _ ((List.Perm.append_left _ ((List.Perm.append_left _ ((List.Perm.append_left _ (List.Perm.refl _)).trans (List.perm_append_comm_assoc _ _ _))).trans (List.perm_append_comm_assoc _ _ _))).trans (List.perm_append_comm_assoc _ _ _))).trans (List.perm_append_comm_assoc _ _ _))).trans (List.perm_append_comm_assoc _ _ _))).trans (List.perm_append_comm_assoc _ _ _))).trans (List.perm_append_comm_assoc _ _ _))).trans (List.perm_append_comm_assoc _ _ _))).trans (List.perm_append_comm_assoc _ _ _))).trans (List.perm_append_comm_assoc _ _ _))).trans (List.perm_append_comm_assoc _ _ _)).symm ?_
  exact kont rr  _ ⟨h, qp, qs, qj, ly, qh, kk, rd, pg, ss, w_now, w_past, w_pars, w_judg, w_layr, w_heap, w_kept, w_rnds, w_plnr, w_shts, wmZ, ro, hac, hnp, hkc, hpe, H_now, H_past, H_pars, H_judg, H_layr, H_heap, H_kept, H_rnds, H_plnr, H_shts, H_refZ, rfl⟩ hE
set_option maxRecDepth 100000 in
theorem my_classOf {X : XT} {E : EV} {ws : va_W} {lv : List (Nat × Value)} {rest : List Value} {kC nC : Nat} {hx hm : Nat} {tl : Nat} {ct : Nat → Int} {pe : Nat} {kn : Int32} {ac : Nat} {np : Nat} {kc : Nat} {mN : AM} {pV : Nat → AM} {kV : Nat → AM} {st : Nat → Nat} {sn : Nat → Nat} {sl : Nat → Nat} {scx : Nat → Nat → Int32} {tT : Nat → Option SVal} {ec : Nat → Nat} {er : Nat → Nat} {ed : Nat → Nat → Int32} {eT : Nat → Nat → Option SVal} {eb : Nat → Nat → Int32} {en : Nat → Nat → Int32} {q_undos : Nat} {q_models : Nat} {PGv : Nat → AM} {f_afterOf : Nat → Int32} {f_actMany : Nat → Int32} {f_actOf : Nat → Int32} {f_whom : Nat → Int32} {f_hasIf : Nat → Int32} {f_becomes : Nat → Int32} {f_goneOf : Nat → Int32} {q_taped : Nat} {cr : Nat → Int} {q_people : Nat} {f_secrets : Nat → Int32} {f_lanes : Nat → Int32} {f_lengths : Nat → Int32} {f_cells : Nat → Int32} {f_tokens : Nat → Int32} {f_afters : Nat → Int32} {f_caseMany : Nat → Int32} {f_happen : Nat → Int32} {f_heard : Nat → Int32} {v0 : Int32} (C : CX X room_1 cL_law 4 RL ret E) (hW : Nat.ble (rest.map fun v => v.category).sum 8 = true) (hk : kC ≤ 600000 ∧ nC ≤ 7302250) (hS : ST E hx hm tl ct pe kn ac np kc mN pV kV st sn sl scx tT ec er ed eT eb en q_undos q_models PGv f_afterOf f_actMany f_actOf f_whom f_hasIf f_becomes f_goneOf q_taped cr q_people f_secrets f_lanes f_lengths f_cells f_tokens f_afters f_caseMany f_happen f_heard ws) (kont : ∀ (rr : Int32) (wsZ : va_W), ST E hx hm tl ct pe kn ac np kc mN pV kV st sn sl scx tT ec er ed eT eb en q_undos q_models PGv f_afterOf f_actMany f_actOf f_whom f_hasIf f_becomes f_goneOf q_taped cr q_people f_secrets f_lanes f_lengths f_cells f_tokens f_afters f_caseMany f_happen f_heard wsZ → (rr = ansClassOf (PGv 0) v0) → WW X 4 E 937 lv (.int rr :: rest) wsZ kC nC) : WW X 4 E 934 lv (.int v0 :: .ref hm :: rest) ws kC nC := by
  unfold ST at hS
  refine ex8 hS ?_
  clear hS
  intro h qp qs qj ly qh kk rd hS
  refine ex8 hS ?_
  clear hS
  intro pg ss w_now w_past w_pars w_judg w_layr w_heap hS
  refine ex6 hS ?_
  clear hS
  intro w_kept w_rnds w_plnr w_shts wm ro hS
  refine an8 hS ?_
  clear hS
  intro hac hnp hkc hpe H_now H_past H_pars H_judg hS
  refine an7 hS ?_
  clear hS
  intro H_layr H_heap H_kept H_rnds H_plnr H_shts H_ref hS
  have we_st := hS
  clear hS
  subst we_st
  refine ww_perm (ws' := wm ++ ([(hx, .inr (11, [.ref h, .ref qp, .int (nI ac), .int (nI np), .ref qs, .ref qj, .ref ly, .ref qh, .ref kk, .int (nI kc), .ref rd, .ref pg, .int (nI pe), .int kn, .ref ss]))] ++ (w_now ++ (w_past ++ (w_pars ++ (w_judg ++ (w_layr ++ (w_heap ++ (w_kept ++ (w_rnds ++ (w_plnr ++ (w_shts ++ ro)))))))))))) ((List.Perm.append_left _ ((List.Perm.append_left _ ((List.Perm.append_left _ ((List.Perm.append_left _ ((List.Perm.append_left _ ((List.Perm.append_left _ ((List.Perm.append_left _ ((List.Perm.append_left _ ((List.Perm.append_left _ ((List.Perm.append_left _ ((List.Perm.append_left _ (List.Perm.refl _)).trans (List.perm_append_comm_assoc _ _ _))).trans (List.perm_append_comm_assoc _ _ _))).trans (List.perm_append_comm_assoc _ _ _))).trans (List.perm_append_comm_assoc _ _ _))).trans (List.perm_append_comm_assoc _ _ _))).trans (List.perm_append_comm_assoc _ _ _))).trans (List.perm_append_comm_assoc _ _ _))).trans (List.perm_append_comm_assoc _ _ _))).trans (List.perm_append_comm_assoc _ _ _))).trans (List.perm_append_comm_assoc _ _ _))).trans (List.perm_append_comm_assoc _ _ _)) ?_
  refine lm_classOf C hW hk H_ref (fun rr wmZ H_refZ hE => ?_)
  refine ww_perm (ws' := [(hx, .inr (11, [.ref h, .ref qp, .int (nI ac), .int (nI np), .ref qs, .ref qj, .ref ly, .ref qh, .ref kk, .int (nI kc), .ref rd, .ref pg, .int (nI pe), .int kn, .ref ss]))] ++ (w_now ++ (w_past ++ (w_pars ++ (w_judg ++ (w_layr ++ (w_heap ++ (w_kept ++ (w_rnds ++ (w_plnr ++ (w_shts ++ (wmZ ++ ro)))))))))))) ((List.Perm.append_left _ ((List.Perm.append_left _ ((List.Perm.append_left _ ((List.Perm.append_left _ ((List.Perm.append_left _ ((List.Perm.append_left _ ((List.Perm.append_left _ ((List.Perm.append_left _ ((List.Perm.append_left _ ((List.Perm.append_left _ ((List.Perm.append_left _ (List.Perm.refl _)).trans (List.perm_append_comm_assoc _ _ _))).trans (List.perm_append_comm_assoc _ _ _))).trans (List.perm_append_comm_assoc _ _ _))).trans (List.perm_append_comm_assoc _ _ _))).trans (List.perm_append_comm_assoc _ _ _))).trans (List.perm_append_comm_assoc _ _ _))).trans (List.perm_append_comm_assoc _ _ _))).trans (List.perm_append_comm_assoc _ _ _))).trans (List.perm_append_comm_assoc _ _ _))).trans (List.perm_append_comm_assoc _ _ _))).trans (List.perm_append_comm_assoc _ _ _)).symm ?_
  exact kont rr  _ ⟨h, qp, qs, qj, ly, qh, kk, rd, pg, ss, w_now, w_past, w_pars, w_judg, w_layr, w_heap, w_kept, w_rnds, w_plnr, w_shts, wmZ, ro, hac, hnp, hkc, hpe, H_now, H_past, H_pars, H_judg, H_layr, H_heap, H_kept, H_rnds, H_plnr, H_shts, H_refZ, rfl⟩ hE
set_option maxRecDepth 100000 in
theorem my_depth {X : XT} {E : EV} {ws : va_W} {lv : List (Nat × Value)} {rest : List Value} {kC nC : Nat} {hx hm : Nat} {tl : Nat} {ct : Nat → Int} {pe : Nat} {kn : Int32} {ac : Nat} {np : Nat} {kc : Nat} {mN : AM} {pV : Nat → AM} {kV : Nat → AM} {st : Nat → Nat} {sn : Nat → Nat} {sl : Nat → Nat} {scx : Nat → Nat → Int32} {tT : Nat → Option SVal} {ec : Nat → Nat} {er : Nat → Nat} {ed : Nat → Nat → Int32} {eT : Nat → Nat → Option SVal} {eb : Nat → Nat → Int32} {en : Nat → Nat → Int32} {q_undos : Nat} {q_models : Nat} {PGv : Nat → AM} {f_afterOf : Nat → Int32} {f_actMany : Nat → Int32} {f_actOf : Nat → Int32} {f_whom : Nat → Int32} {f_hasIf : Nat → Int32} {f_becomes : Nat → Int32} {f_goneOf : Nat → Int32} {q_taped : Nat} {cr : Nat → Int} {q_people : Nat} {f_secrets : Nat → Int32} {f_lanes : Nat → Int32} {f_lengths : Nat → Int32} {f_cells : Nat → Int32} {f_tokens : Nat → Int32} {f_afters : Nat → Int32} {f_caseMany : Nat → Int32} {f_happen : Nat → Int32} {f_heard : Nat → Int32} {v0 : Int32} {v1 : Int32} (C : CX X room_1 cL_law 4 RL ret E) (hW : Nat.ble (rest.map fun v => v.category).sum 8 = true) (hk : kC ≤ 600000 ∧ nC ≤ 7302250) (hS : ST E hx hm tl ct pe kn ac np kc mN pV kV st sn sl scx tT ec er ed eT eb en q_undos q_models PGv f_afterOf f_actMany f_actOf f_whom f_hasIf f_becomes f_goneOf q_taped cr q_people f_secrets f_lanes f_lengths f_cells f_tokens f_afters f_caseMany f_happen f_heard ws) (kont : ∀ (rr : Int32) (wsZ : va_W), ST E hx hm tl ct pe kn ac np kc mN pV kV st sn sl scx tT ec er ed eT eb en q_undos q_models PGv f_afterOf f_actMany f_actOf f_whom f_hasIf f_becomes f_goneOf q_taped cr q_people f_secrets f_lanes f_lengths f_cells f_tokens f_afters f_caseMany f_happen f_heard wsZ → (ansDep (PGv 0) v0 v1 rr) → WW X 4 E 970 lv (.int rr :: rest) wsZ kC nC) : WW X 4 E 967 lv (.int v1 :: .int v0 :: .ref hm :: rest) ws kC nC := by
  unfold ST at hS
  refine ex8 hS ?_
  clear hS
  intro h qp qs qj ly qh kk rd hS
  refine ex8 hS ?_
  clear hS
  intro pg ss w_now w_past w_pars w_judg w_layr w_heap hS
  refine ex6 hS ?_
  clear hS
  intro w_kept w_rnds w_plnr w_shts wm ro hS
  refine an8 hS ?_
  clear hS
  intro hac hnp hkc hpe H_now H_past H_pars H_judg hS
  refine an7 hS ?_
  clear hS
  intro H_layr H_heap H_kept H_rnds H_plnr H_shts H_ref hS
  have we_st := hS
  clear hS
  subst we_st
  refine ww_perm (ws' := wm ++ ([(hx, .inr (11, [.ref h, .ref qp, .int (nI ac), .int (nI np), .ref qs, .ref qj, .ref ly, .ref qh, .ref kk, .int (nI kc), .ref rd, .ref pg, .int (nI pe), .int kn, .ref ss]))] ++ (w_now ++ (w_past ++ (w_pars ++ (w_judg ++ (w_layr ++ (w_heap ++ (w_kept ++ (w_rnds ++ (w_plnr ++ (w_shts ++ ro)))))))))))) ((List.Perm.append_left _ ((List.Perm.append_left _ ((List.Perm.append_left _ ((List.Perm.append_left _ ((List.Perm.append_left _ ((List.Perm.append_left _ ((List.Perm.append_left _ ((List.Perm.append_left _ ((List.Perm.append_left _ ((List.Perm.append_left _ ((List.Perm.append_left _ (List.Perm.refl _)).trans (List.perm_append_comm_assoc _ _ _))).trans (List.perm_append_comm_assoc _ _ _))).trans (List.perm_append_comm_assoc _ _ _))).trans (List.perm_append_comm_assoc _ _ _))).trans (List.perm_append_comm_assoc _ _ _))).trans (List.perm_append_comm_assoc _ _ _))).trans (List.perm_append_comm_assoc _ _ _))).trans (List.perm_append_comm_assoc _ _ _))).trans (List.perm_append_comm_assoc _ _ _))).trans (List.perm_append_comm_assoc _ _ _))).trans (List.perm_append_comm_assoc _ _ _)) ?_
  refine lm_depth C hW hk H_ref (fun rr wmZ H_refZ hE => ?_)
  refine ww_perm (ws' := [(hx, .inr (11, [.ref h, .ref qp, .int (nI ac), .int (nI np), .ref qs, .ref qj, .ref ly, .ref qh, .ref kk, .int (nI kc), .ref rd, .ref pg, .int (nI pe), .int kn, .ref ss]))] ++ (w_now ++ (w_past ++ (w_pars ++ (w_judg ++ (w_layr ++ (w_heap ++ (w_kept ++ (w_rnds ++ (w_plnr ++ (w_shts ++ (wmZ ++ ro)))))))))))) ((List.Perm.append_left _ ((List.Perm.append_left _ ((List.Perm.append_left _ ((List.Perm.append_left _ ((List.Perm.append_left _ ((List.Perm.append_left _ ((List.Perm.append_left _ ((List.Perm.append_left _ ((List.Perm.append_left _ ((List.Perm.append_left _ ((List.Perm.append_left _ (List.Perm.refl _)).trans (List.perm_append_comm_assoc _ _ _))).trans (List.perm_append_comm_assoc _ _ _))).trans (List.perm_append_comm_assoc _ _ _))).trans (List.perm_append_comm_assoc _ _ _))).trans (List.perm_append_comm_assoc _ _ _))).trans (List.perm_append_comm_assoc _ _ _))).trans (List.perm_append_comm_assoc _ _ _))).trans (List.perm_append_comm_assoc _ _ _))).trans (List.perm_append_comm_assoc _ _ _))).trans (List.perm_append_comm_assoc _ _ _))).trans (List.perm_append_comm_assoc _ _ _)).symm ?_
  exact kont rr  _ ⟨h, qp, qs, qj, ly, qh, kk, rd, pg, ss, w_now, w_past, w_pars, w_judg, w_layr, w_heap, w_kept, w_rnds, w_plnr, w_shts, wmZ, ro, hac, hnp, hkc, hpe, H_now, H_past, H_pars, H_judg, H_layr, H_heap, H_kept, H_rnds, H_plnr, H_shts, H_refZ, rfl⟩ hE
set_option maxRecDepth 100000 in
theorem my_melt {X : XT} {E : EV} {ws : va_W} {lv : List (Nat × Value)} {rest : List Value} {kC nC : Nat} {hx hm : Nat} {tl : Nat} {ct : Nat → Int} {pe : Nat} {kn : Int32} {ac : Nat} {np : Nat} {kc : Nat} {mN : AM} {pV : Nat → AM} {kV : Nat → AM} {st : Nat → Nat} {sn : Nat → Nat} {sl : Nat → Nat} {scx : Nat → Nat → Int32} {tT : Nat → Option SVal} {ec : Nat → Nat} {er : Nat → Nat} {ed : Nat → Nat → Int32} {eT : Nat → Nat → Option SVal} {eb : Nat → Nat → Int32} {en : Nat → Nat → Int32} {q_undos : Nat} {q_models : Nat} {PGv : Nat → AM} {f_afterOf : Nat → Int32} {f_actMany : Nat → Int32} {f_actOf : Nat → Int32} {f_whom : Nat → Int32} {f_hasIf : Nat → Int32} {f_becomes : Nat → Int32} {f_goneOf : Nat → Int32} {q_taped : Nat} {cr : Nat → Int} {q_people : Nat} {f_secrets : Nat → Int32} {f_lanes : Nat → Int32} {f_lengths : Nat → Int32} {f_cells : Nat → Int32} {f_tokens : Nat → Int32} {f_afters : Nat → Int32} {f_caseMany : Nat → Int32} {f_happen : Nat → Int32} {f_heard : Nat → Int32}  (C : CX X room_1 cL_law 4 RL ret E) (hW : Nat.ble (rest.map fun v => v.category).sum 8 = true) (hk : kC ≤ 600000 ∧ nC ≤ 7302250) (hS : ST E hx hm tl ct pe kn ac np kc mN pV kV st sn sl scx tT ec er ed eT eb en q_undos q_models PGv f_afterOf f_actMany f_actOf f_whom f_hasIf f_becomes f_goneOf q_taped cr q_people f_secrets f_lanes f_lengths f_cells f_tokens f_afters f_caseMany f_happen f_heard ws) (kont : ∀ (rr : Int32) (q_undosZ : Nat) (PGvZ : Nat → AM) (wsZ : va_W), ST E hx hm tl ct pe kn ac np kc mN pV kV st sn sl scx tT ec er ed eT eb en q_undosZ q_models PGvZ f_afterOf f_actMany f_actOf f_whom f_hasIf f_becomes f_goneOf q_taped cr q_people f_secrets f_lanes f_lengths f_cells f_tokens f_afters f_caseMany f_happen f_heard wsZ → (((asM q_undosZ PGvZ), rr) = opMelt (asM q_undos PGv) ∧ KP6 PGv PGvZ) → WW X 4 E 983 lv (.int rr :: rest) wsZ kC nC) : WW X 4 E 980 lv (.ref hm :: rest) ws kC nC := by
  unfold ST at hS
  refine ex8 hS ?_
  clear hS
  intro h qp qs qj ly qh kk rd hS
  refine ex8 hS ?_
  clear hS
  intro pg ss w_now w_past w_pars w_judg w_layr w_heap hS
  refine ex6 hS ?_
  clear hS
  intro w_kept w_rnds w_plnr w_shts wm ro hS
  refine an8 hS ?_
  clear hS
  intro hac hnp hkc hpe H_now H_past H_pars H_judg hS
  refine an7 hS ?_
  clear hS
  intro H_layr H_heap H_kept H_rnds H_plnr H_shts H_ref hS
  have we_st := hS
  clear hS
  subst we_st
  refine ww_perm (ws' := wm ++ ([(hx, .inr (11, [.ref h, .ref qp, .int (nI ac), .int (nI np), .ref qs, .ref qj, .ref ly, .ref qh, .ref kk, .int (nI kc), .ref rd, .ref pg, .int (nI pe), .int kn, .ref ss]))] ++ (w_now ++ (w_past ++ (w_pars ++ (w_judg ++ (w_layr ++ (w_heap ++ (w_kept ++ (w_rnds ++ (w_plnr ++ (w_shts ++ ro)))))))))))) ((List.Perm.append_left _ ((List.Perm.append_left _ ((List.Perm.append_left _ ((List.Perm.append_left _ ((List.Perm.append_left _ ((List.Perm.append_left _ ((List.Perm.append_left _ ((List.Perm.append_left _ ((List.Perm.append_left _ ((List.Perm.append_left _ ((List.Perm.append_left _ (List.Perm.refl _)).trans (List.perm_append_comm_assoc _ _ _))).trans (List.perm_append_comm_assoc _ _ _))).trans (List.perm_append_comm_assoc _ _ _))).trans (List.perm_append_comm_assoc _ _ _))).trans (List.perm_append_comm_assoc _ _ _))).trans (List.perm_append_comm_assoc _ _ _))).trans (List.perm_append_comm_assoc _ _ _))).trans (List.perm_append_comm_assoc _ _ _))).trans (List.perm_append_comm_assoc _ _ _))).trans (List.perm_append_comm_assoc _ _ _))).trans (List.perm_append_comm_assoc _ _ _)) ?_
  refine lm_melt C hW hk H_ref (fun rr q_undosZ PGvZ wmZ H_refZ hE => ?_)
  refine ww_perm (ws' := [(hx, .inr (11, [.ref h, .ref qp, .int (nI ac), .int (nI np), .ref qs, .ref qj, .ref ly, .ref qh, .ref kk, .int (nI kc), .ref rd, .ref pg, .int (nI pe), .int kn, .ref ss]))] ++ (w_now ++ (w_past ++ (w_pars ++ (w_judg ++ (w_layr ++ (w_heap ++ (w_kept ++ (w_rnds ++ (w_plnr ++ (w_shts ++ (wmZ ++ ro)))))))))))) ((List.Perm.append_left _ ((List.Perm.append_left _ ((List.Perm.append_left _ ((List.Perm.append_left _ ((List.Perm.append_left _ ((List.Perm.append_left _ ((List.Perm.append_left _ ((List.Perm.append_left _ ((List.Perm.append_left _ ((List.Perm.append_left _ ((List.Perm.append_left _ (List.Perm.refl _)).trans (List.perm_append_comm_assoc _ _ _))).trans (List.perm_append_comm_assoc _ _ _))).trans (List.perm_append_comm_assoc _ _ _))).trans (List.perm_append_comm_assoc _ _ _))).trans (List.perm_append_comm_assoc _ _ _))).trans (List.perm_append_comm_assoc _ _ _))).trans (List.perm_append_comm_assoc _ _ _))).trans (List.perm_append_comm_assoc _ _ _))).trans (List.perm_append_comm_assoc _ _ _))).trans (List.perm_append_comm_assoc _ _ _))).trans (List.perm_append_comm_assoc _ _ _)).symm ?_
  exact kont rr q_undosZ PGvZ _ ⟨h, qp, qs, qj, ly, qh, kk, rd, pg, ss, w_now, w_past, w_pars, w_judg, w_layr, w_heap, w_kept, w_rnds, w_plnr, w_shts, wmZ, ro, hac, hnp, hkc, hpe, H_now, H_past, H_pars, H_judg, H_layr, H_heap, H_kept, H_rnds, H_plnr, H_shts, H_refZ, rfl⟩ hE
set_option maxRecDepth 100000 in
theorem my_keep {X : XT} {E : EV} {ws : va_W} {lv : List (Nat × Value)} {rest : List Value} {kC nC : Nat} {hx hm : Nat} {tl : Nat} {ct : Nat → Int} {pe : Nat} {kn : Int32} {ac : Nat} {np : Nat} {kc : Nat} {mN : AM} {pV : Nat → AM} {kV : Nat → AM} {st : Nat → Nat} {sn : Nat → Nat} {sl : Nat → Nat} {scx : Nat → Nat → Int32} {tT : Nat → Option SVal} {ec : Nat → Nat} {er : Nat → Nat} {ed : Nat → Nat → Int32} {eT : Nat → Nat → Option SVal} {eb : Nat → Nat → Int32} {en : Nat → Nat → Int32} {q_undos : Nat} {q_models : Nat} {PGv : Nat → AM} {f_afterOf : Nat → Int32} {f_actMany : Nat → Int32} {f_actOf : Nat → Int32} {f_whom : Nat → Int32} {f_hasIf : Nat → Int32} {f_becomes : Nat → Int32} {f_goneOf : Nat → Int32} {q_taped : Nat} {cr : Nat → Int} {q_people : Nat} {f_secrets : Nat → Int32} {f_lanes : Nat → Int32} {f_lengths : Nat → Int32} {f_cells : Nat → Int32} {f_tokens : Nat → Int32} {f_afters : Nat → Int32} {f_caseMany : Nat → Int32} {f_happen : Nat → Int32} {f_heard : Nat → Int32}  (C : CX X room_1 cL_law 4 RL ret E) (hW : Nat.ble (rest.map fun v => v.category).sum 8 = true) (hk : kC ≤ 600000 ∧ nC ≤ 7302250) (hS : ST E hx hm tl ct pe kn ac np kc mN pV kV st sn sl scx tT ec er ed eT eb en q_undos q_models PGv f_afterOf f_actMany f_actOf f_whom f_hasIf f_becomes f_goneOf q_taped cr q_people f_secrets f_lanes f_lengths f_cells f_tokens f_afters f_caseMany f_happen f_heard ws) (kont : ∀ (rr : Int32) (q_modelsZ : Nat) (PGvZ : Nat → AM) (wsZ : va_W), ST E hx hm tl ct pe kn ac np kc mN pV kV st sn sl scx tT ec er ed eT eb en q_undos q_modelsZ PGvZ f_afterOf f_actMany f_actOf f_whom f_hasIf f_becomes f_goneOf q_taped cr q_people f_secrets f_lanes f_lengths f_cells f_tokens f_afters f_caseMany f_happen f_heard wsZ → (KPx (PGv 0).1 q_models q_modelsZ (PGv 0) (fun i => PGv (6 + i)) (fun i => PGvZ (6 + i)) rr ∧ KPU PGv PGvZ) → WW X 4 E 996 lv (.int rr :: rest) wsZ kC nC) : WW X 4 E 993 lv (.ref hm :: rest) ws kC nC := by
  unfold ST at hS
  refine ex8 hS ?_
  clear hS
  intro h qp qs qj ly qh kk rd hS
  refine ex8 hS ?_
  clear hS
  intro pg ss w_now w_past w_pars w_judg w_layr w_heap hS
  refine ex6 hS ?_
  clear hS
  intro w_kept w_rnds w_plnr w_shts wm ro hS
  refine an8 hS ?_
  clear hS
  intro hac hnp hkc hpe H_now H_past H_pars H_judg hS
  refine an7 hS ?_
  clear hS
  intro H_layr H_heap H_kept H_rnds H_plnr H_shts H_ref hS
  have we_st := hS
  clear hS
  subst we_st
  refine ww_perm (ws' := wm ++ ([(hx, .inr (11, [.ref h, .ref qp, .int (nI ac), .int (nI np), .ref qs, .ref qj, .ref ly, .ref qh, .ref kk, .int (nI kc), .ref rd, .ref pg, .int (nI pe), .int kn, .ref ss]))] ++ (w_now ++ (w_past ++ (w_pars ++ (w_judg ++ (w_layr ++ (w_heap ++ (w_kept ++ (w_rnds ++ (w_plnr ++ (w_shts ++ ro)))))))))))) ((List.Perm.append_left _ ((List.Perm.append_left _ ((List.Perm.append_left _ ((List.Perm.append_left _ ((List.Perm.append_left _ ((List.Perm.append_left _ ((List.Perm.append_left _ ((List.Perm.append_left _ ((List.Perm.append_left _ ((List.Perm.append_left _ ((List.Perm.append_left _ (List.Perm.refl _)).trans (List.perm_append_comm_assoc _ _ _))).trans (List.perm_append_comm_assoc _ _ _))).trans (List.perm_append_comm_assoc _ _ _))).trans (List.perm_append_comm_assoc _ _ _))).trans (List.perm_append_comm_assoc _ _ _))).trans (List.perm_append_comm_assoc _ _ _))).trans (List.perm_append_comm_assoc _ _ _))).trans (List.perm_append_comm_assoc _ _ _))).trans (List.perm_append_comm_assoc _ _ _))).trans (List.perm_append_comm_assoc _ _ _))).trans (List.perm_append_comm_assoc _ _ _)) ?_
  refine lm_keep C hW hk H_ref (fun rr q_modelsZ PGvZ wmZ H_refZ hE => ?_)
  refine ww_perm (ws' := [(hx, .inr (11, [.ref h, .ref qp, .int (nI ac), .int (nI np), .ref qs, .ref qj, .ref ly, .ref qh, .ref kk, .int (nI kc), .ref rd, .ref pg, .int (nI pe), .int kn, .ref ss]))] ++ (w_now ++ (w_past ++ (w_pars ++ (w_judg ++ (w_layr ++ (w_heap ++ (w_kept ++ (w_rnds ++ (w_plnr ++ (w_shts ++ (wmZ ++ ro)))))))))))) ((List.Perm.append_left _ ((List.Perm.append_left _ ((List.Perm.append_left _ ((List.Perm.append_left _ ((List.Perm.append_left _ ((List.Perm.append_left _ ((List.Perm.append_left _ ((List.Perm.append_left _ ((List.Perm.append_left _ ((List.Perm.append_left _ ((List.Perm.append_left _ (List.Perm.refl _)).trans (List.perm_append_comm_assoc _ _ _))).trans (List.perm_append_comm_assoc _ _ _))).trans (List.perm_append_comm_assoc _ _ _))).trans (List.perm_append_comm_assoc _ _ _))).trans (List.perm_append_comm_assoc _ _ _))).trans (List.perm_append_comm_assoc _ _ _))).trans (List.perm_append_comm_assoc _ _ _))).trans (List.perm_append_comm_assoc _ _ _))).trans (List.perm_append_comm_assoc _ _ _))).trans (List.perm_append_comm_assoc _ _ _))).trans (List.perm_append_comm_assoc _ _ _)).symm ?_
  exact kont rr q_modelsZ PGvZ _ ⟨h, qp, qs, qj, ly, qh, kk, rd, pg, ss, w_now, w_past, w_pars, w_judg, w_layr, w_heap, w_kept, w_rnds, w_plnr, w_shts, wmZ, ro, hac, hnp, hkc, hpe, H_now, H_past, H_pars, H_judg, H_layr, H_heap, H_kept, H_rnds, H_plnr, H_shts, H_refZ, rfl⟩ hE
set_option maxRecDepth 100000 in
theorem my_stand {X : XT} {E : EV} {ws : va_W} {lv : List (Nat × Value)} {rest : List Value} {kC nC : Nat} {hx hm : Nat} {tl : Nat} {ct : Nat → Int} {pe : Nat} {kn : Int32} {ac : Nat} {np : Nat} {kc : Nat} {mN : AM} {pV : Nat → AM} {kV : Nat → AM} {st : Nat → Nat} {sn : Nat → Nat} {sl : Nat → Nat} {scx : Nat → Nat → Int32} {tT : Nat → Option SVal} {ec : Nat → Nat} {er : Nat → Nat} {ed : Nat → Nat → Int32} {eT : Nat → Nat → Option SVal} {eb : Nat → Nat → Int32} {en : Nat → Nat → Int32} {q_undos : Nat} {q_models : Nat} {PGv : Nat → AM} {f_afterOf : Nat → Int32} {f_actMany : Nat → Int32} {f_actOf : Nat → Int32} {f_whom : Nat → Int32} {f_hasIf : Nat → Int32} {f_becomes : Nat → Int32} {f_goneOf : Nat → Int32} {q_taped : Nat} {cr : Nat → Int} {q_people : Nat} {f_secrets : Nat → Int32} {f_lanes : Nat → Int32} {f_lengths : Nat → Int32} {f_cells : Nat → Int32} {f_tokens : Nat → Int32} {f_afters : Nat → Int32} {f_caseMany : Nat → Int32} {f_happen : Nat → Int32} {f_heard : Nat → Int32} {v0 : Int32} (C : CX X room_1 cL_law 4 RL ret E) (hW : Nat.ble (rest.map fun v => v.category).sum 8 = true) (hk : kC ≤ 600000 ∧ nC ≤ 7302250) (hS : ST E hx hm tl ct pe kn ac np kc mN pV kV st sn sl scx tT ec er ed eT eb en q_undos q_models PGv f_afterOf f_actMany f_actOf f_whom f_hasIf f_becomes f_goneOf q_taped cr q_people f_secrets f_lanes f_lengths f_cells f_tokens f_afters f_caseMany f_happen f_heard ws) (kont : ∀ (rr : Int32) (q_undosZ : Nat) (PGvZ : Nat → AM) (wsZ : va_W), ST E hx hm tl ct pe kn ac np kc mN pV kV st sn sl scx tT ec er ed eT eb en q_undosZ q_models PGvZ f_afterOf f_actMany f_actOf f_whom f_hasIf f_becomes f_goneOf q_taped cr q_people f_secrets f_lanes f_lengths f_cells f_tokens f_afters f_caseMany f_happen f_heard wsZ → (((asM q_undosZ PGvZ), rr) = opStand (asM q_undos PGv) q_models (fun i => PGv (6 + i)) v0 ∧ KP6 PGv PGvZ) → WW X 4 E 1019 lv (.int rr :: rest) wsZ kC nC) : WW X 4 E 1016 lv (.int v0 :: .ref hm :: rest) ws kC nC := by
  unfold ST at hS
  refine ex8 hS ?_
  clear hS
  intro h qp qs qj ly qh kk rd hS
  refine ex8 hS ?_
  clear hS
  intro pg ss w_now w_past w_pars w_judg w_layr w_heap hS
  refine ex6 hS ?_
  clear hS
  intro w_kept w_rnds w_plnr w_shts wm ro hS
  refine an8 hS ?_
  clear hS
  intro hac hnp hkc hpe H_now H_past H_pars H_judg hS
  refine an7 hS ?_
  clear hS
  intro H_layr H_heap H_kept H_rnds H_plnr H_shts H_ref hS
  have we_st := hS
  clear hS
  subst we_st
  refine ww_perm (ws' := wm ++ ([(hx, .inr (11, [.ref h, .ref qp, .int (nI ac), .int (nI np), .ref qs, .ref qj, .ref ly, .ref qh, .ref kk, .int (nI kc), .ref rd, .ref pg, .int (nI pe), .int kn, .ref ss]))] ++ (w_now ++ (w_past ++ (w_pars ++ (w_judg ++ (w_layr ++ (w_heap ++ (w_kept ++ (w_rnds ++ (w_plnr ++ (w_shts ++ ro)))))))))))) ((List.Perm.append_left _ ((List.Perm.append_left _ ((List.Perm.append_left _ ((List.Perm.append_left _ ((List.Perm.append_left _ ((List.Perm.append_left _ ((List.Perm.append_left _ ((List.Perm.append_left _ ((List.Perm.append_left _ ((List.Perm.append_left _ ((List.Perm.append_left _ (List.Perm.refl _)).trans (List.perm_append_comm_assoc _ _ _))).trans (List.perm_append_comm_assoc _ _ _))).trans (List.perm_append_comm_assoc _ _ _))).trans (List.perm_append_comm_assoc _ _ _))).trans (List.perm_append_comm_assoc _ _ _))).trans (List.perm_append_comm_assoc _ _ _))).trans (List.perm_append_comm_assoc _ _ _))).trans (List.perm_append_comm_assoc _ _ _))).trans (List.perm_append_comm_assoc _ _ _))).trans (List.perm_append_comm_assoc _ _ _))).trans (List.perm_append_comm_assoc _ _ _)) ?_
  refine lm_stand C hW hk H_ref (fun rr q_undosZ PGvZ wmZ H_refZ hE => ?_)
  refine ww_perm (ws' := [(hx, .inr (11, [.ref h, .ref qp, .int (nI ac), .int (nI np), .ref qs, .ref qj, .ref ly, .ref qh, .ref kk, .int (nI kc), .ref rd, .ref pg, .int (nI pe), .int kn, .ref ss]))] ++ (w_now ++ (w_past ++ (w_pars ++ (w_judg ++ (w_layr ++ (w_heap ++ (w_kept ++ (w_rnds ++ (w_plnr ++ (w_shts ++ (wmZ ++ ro)))))))))))) ((List.Perm.append_left _ ((List.Perm.append_left _ ((List.Perm.append_left _ ((List.Perm.append_left _ ((List.Perm.append_left _ ((List.Perm.append_left _ ((List.Perm.append_left _ ((List.Perm.append_left _ ((List.Perm.append_left _ ((List.Perm.append_left _ ((List.Perm.append_left _ (List.Perm.refl _)).trans (List.perm_append_comm_assoc _ _ _))).trans (List.perm_append_comm_assoc _ _ _))).trans (List.perm_append_comm_assoc _ _ _))).trans (List.perm_append_comm_assoc _ _ _))).trans (List.perm_append_comm_assoc _ _ _))).trans (List.perm_append_comm_assoc _ _ _))).trans (List.perm_append_comm_assoc _ _ _))).trans (List.perm_append_comm_assoc _ _ _))).trans (List.perm_append_comm_assoc _ _ _))).trans (List.perm_append_comm_assoc _ _ _))).trans (List.perm_append_comm_assoc _ _ _)).symm ?_
  exact kont rr q_undosZ PGvZ _ ⟨h, qp, qs, qj, ly, qh, kk, rd, pg, ss, w_now, w_past, w_pars, w_judg, w_layr, w_heap, w_kept, w_rnds, w_plnr, w_shts, wmZ, ro, hac, hnp, hkc, hpe, H_now, H_past, H_pars, H_judg, H_layr, H_heap, H_kept, H_rnds, H_plnr, H_shts, H_refZ, rfl⟩ hE
set_option maxRecDepth 100000 in
theorem my_same {X : XT} {E : EV} {ws : va_W} {lv : List (Nat × Value)} {rest : List Value} {kC nC : Nat} {hx hm : Nat} {tl : Nat} {ct : Nat → Int} {pe : Nat} {kn : Int32} {ac : Nat} {np : Nat} {kc : Nat} {mN : AM} {pV : Nat → AM} {kV : Nat → AM} {st : Nat → Nat} {sn : Nat → Nat} {sl : Nat → Nat} {scx : Nat → Nat → Int32} {tT : Nat → Option SVal} {ec : Nat → Nat} {er : Nat → Nat} {ed : Nat → Nat → Int32} {eT : Nat → Nat → Option SVal} {eb : Nat → Nat → Int32} {en : Nat → Nat → Int32} {q_undos : Nat} {q_models : Nat} {PGv : Nat → AM} {f_afterOf : Nat → Int32} {f_actMany : Nat → Int32} {f_actOf : Nat → Int32} {f_whom : Nat → Int32} {f_hasIf : Nat → Int32} {f_becomes : Nat → Int32} {f_goneOf : Nat → Int32} {q_taped : Nat} {cr : Nat → Int} {q_people : Nat} {f_secrets : Nat → Int32} {f_lanes : Nat → Int32} {f_lengths : Nat → Int32} {f_cells : Nat → Int32} {f_tokens : Nat → Int32} {f_afters : Nat → Int32} {f_caseMany : Nat → Int32} {f_happen : Nat → Int32} {f_heard : Nat → Int32} {v0 : Int32} (C : CX X room_1 cL_law 4 RL ret E) (hW : Nat.ble (rest.map fun v => v.category).sum 8 = true) (hk : kC ≤ 600000 ∧ nC ≤ 7302250) (hS : ST E hx hm tl ct pe kn ac np kc mN pV kV st sn sl scx tT ec er ed eT eb en q_undos q_models PGv f_afterOf f_actMany f_actOf f_whom f_hasIf f_becomes f_goneOf q_taped cr q_people f_secrets f_lanes f_lengths f_cells f_tokens f_afters f_caseMany f_happen f_heard ws) (hKN : ∀ j, j < q_models → (PGv (6 + j)).2.1 < (PGv (6 + j)).1) (kont : ∀ (rr : Int32) (wsZ : va_W), ST E hx hm tl ct pe kn ac np kc mN pV kV st sn sl scx tT ec er ed eT eb en q_undos q_models PGv f_afterOf f_actMany f_actOf f_whom f_hasIf f_becomes f_goneOf q_taped cr q_people f_secrets f_lanes f_lengths f_cells f_tokens f_afters f_caseMany f_happen f_heard wsZ → (rr = ansSame (PGv 0) q_models (fun i => PGv (6 + i)) v0) → WW X 4 E 1042 lv (.int rr :: rest) wsZ kC nC) : WW X 4 E 1039 lv (.int v0 :: .ref hm :: rest) ws kC nC := by
  unfold ST at hS
  refine ex8 hS ?_
  clear hS
  intro h qp qs qj ly qh kk rd hS
  refine ex8 hS ?_
  clear hS
  intro pg ss w_now w_past w_pars w_judg w_layr w_heap hS
  refine ex6 hS ?_
  clear hS
  intro w_kept w_rnds w_plnr w_shts wm ro hS
  refine an8 hS ?_
  clear hS
  intro hac hnp hkc hpe H_now H_past H_pars H_judg hS
  refine an7 hS ?_
  clear hS
  intro H_layr H_heap H_kept H_rnds H_plnr H_shts H_ref hS
  have we_st := hS
  clear hS
  subst we_st
  refine ww_perm (ws' := wm ++ ([(hx, .inr (11, [.ref h, .ref qp, .int (nI ac), .int (nI np), .ref qs, .ref qj, .ref ly, .ref qh, .ref kk, .int (nI kc), .ref rd, .ref pg, .int (nI pe), .int kn, .ref ss]))] ++ (w_now ++ (w_past ++ (w_pars ++ (w_judg ++ (w_layr ++ (w_heap ++ (w_kept ++ (w_rnds ++ (w_plnr ++ (w_shts ++ ro)))))))))))) ((List.Perm.append_left _ ((List.Perm.append_left _ ((List.Perm.append_left _ ((List.Perm.append_left _ ((List.Perm.append_left _ ((List.Perm.append_left _ ((List.Perm.append_left _ ((List.Perm.append_left _ ((List.Perm.append_left _ ((List.Perm.append_left _ ((List.Perm.append_left _ (List.Perm.refl _)).trans (List.perm_append_comm_assoc _ _ _))).trans (List.perm_append_comm_assoc _ _ _))).trans (List.perm_append_comm_assoc _ _ _))).trans (List.perm_append_comm_assoc _ _ _))).trans (List.perm_append_comm_assoc _ _ _))).trans (List.perm_append_comm_assoc _ _ _))).trans (List.perm_append_comm_assoc _ _ _))).trans (List.perm_append_comm_assoc _ _ _))).trans (List.perm_append_comm_assoc _ _ _))).trans (List.perm_append_comm_assoc _ _ _))).trans (List.perm_append_comm_assoc _ _ _)) ?_
  refine lm_same C hW hk H_ref hKN (fun rr wmZ H_refZ hE => ?_)
  refine ww_perm (ws' := [(hx, .inr (11, [.ref h, .ref qp, .int (nI ac), .int (nI np), .ref qs, .ref qj, .ref ly, .ref qh, .ref kk, .int (nI kc), .ref rd, .ref pg, .int (nI pe), .int kn, .ref ss]))] ++ (w_now ++ (w_past ++ (w_pars ++ (w_judg ++ (w_layr ++ (w_heap ++ (w_kept ++ (w_rnds ++ (w_plnr ++ (w_shts ++ (wmZ ++ ro)))))))))))) ((List.Perm.append_left _ ((List.Perm.append_left _ ((List.Perm.append_left _ ((List.Perm.append_left _ ((List.Perm.append_left _ ((List.Perm.append_left _ ((List.Perm.append_left _ ((List.Perm.append_left _ ((List.Perm.append_left _ ((List.Perm.append_left _ ((List.Perm.append_left _ (List.Perm.refl _)).trans (List.perm_append_comm_assoc _ _ _))).trans (List.perm_append_comm_assoc _ _ _))).trans (List.perm_append_comm_assoc _ _ _))).trans (List.perm_append_comm_assoc _ _ _))).trans (List.perm_append_comm_assoc _ _ _))).trans (List.perm_append_comm_assoc _ _ _))).trans (List.perm_append_comm_assoc _ _ _))).trans (List.perm_append_comm_assoc _ _ _))).trans (List.perm_append_comm_assoc _ _ _))).trans (List.perm_append_comm_assoc _ _ _))).trans (List.perm_append_comm_assoc _ _ _)).symm ?_
  exact kont rr  _ ⟨h, qp, qs, qj, ly, qh, kk, rd, pg, ss, w_now, w_past, w_pars, w_judg, w_layr, w_heap, w_kept, w_rnds, w_plnr, w_shts, wmZ, ro, hac, hnp, hkc, hpe, H_now, H_past, H_pars, H_judg, H_layr, H_heap, H_kept, H_rnds, H_plnr, H_shts, H_refZ, rfl⟩ hE
set_option maxRecDepth 100000 in
theorem my_turn {X : XT} {E : EV} {ws : va_W} {lv : List (Nat × Value)} {rest : List Value} {kC nC : Nat} {hx hm : Nat} {tl : Nat} {ct : Nat → Int} {pe : Nat} {kn : Int32} {ac : Nat} {np : Nat} {kc : Nat} {mN : AM} {pV : Nat → AM} {kV : Nat → AM} {st : Nat → Nat} {sn : Nat → Nat} {sl : Nat → Nat} {scx : Nat → Nat → Int32} {tT : Nat → Option SVal} {ec : Nat → Nat} {er : Nat → Nat} {ed : Nat → Nat → Int32} {eT : Nat → Nat → Option SVal} {eb : Nat → Nat → Int32} {en : Nat → Nat → Int32} {q_undos : Nat} {q_models : Nat} {PGv : Nat → AM} {f_afterOf : Nat → Int32} {f_actMany : Nat → Int32} {f_actOf : Nat → Int32} {f_whom : Nat → Int32} {f_hasIf : Nat → Int32} {f_becomes : Nat → Int32} {f_goneOf : Nat → Int32} {q_taped : Nat} {cr : Nat → Int} {q_people : Nat} {f_secrets : Nat → Int32} {f_lanes : Nat → Int32} {f_lengths : Nat → Int32} {f_cells : Nat → Int32} {f_tokens : Nat → Int32} {f_afters : Nat → Int32} {f_caseMany : Nat → Int32} {f_happen : Nat → Int32} {f_heard : Nat → Int32} {v0 : Int32} {v1 : Int32} (C : CX X room_1 cL_law 4 RL ret E) (hW : Nat.ble (rest.map fun v => v.category).sum 8 = true) (hk : kC ≤ 600000 ∧ nC ≤ 7302250) (hS : ST E hx hm tl ct pe kn ac np kc mN pV kV st sn sl scx tT ec er ed eT eb en q_undos q_models PGv f_afterOf f_actMany f_actOf f_whom f_hasIf f_becomes f_goneOf q_taped cr q_people f_secrets f_lanes f_lengths f_cells f_tokens f_afters f_caseMany f_happen f_heard ws) (hWI : WHI f_hasIf f_actMany f_actOf f_whom) (hWT : WHT f_tokens f_actMany f_actOf f_whom) (kont : ∀ (rr : Int32) (q_undosZ : Nat) (PGvZ : Nat → AM) (wsZ : va_W), ST E hx hm tl ct pe kn ac np kc mN pV kV st sn sl scx tT ec er ed eT eb en q_undosZ q_models PGvZ f_afterOf f_actMany f_actOf f_whom f_hasIf f_becomes f_goneOf q_taped cr q_people f_secrets f_lanes f_lengths f_cells f_tokens f_afters f_caseMany f_happen f_heard wsZ → (((asM q_undosZ PGvZ), rr) = opTurn (asM q_undos PGv) (rEv f_caseMany f_happen f_hasIf f_actMany f_actOf f_whom f_becomes f_goneOf f_heard) (rTT f_tokens f_actMany f_actOf f_whom f_afterOf f_afters) v0 v1 ∧ KP6 PGv PGvZ) → WW X 4 E 1075 lv (.int rr :: rest) wsZ kC nC) : WW X 4 E 1072 lv (.int v1 :: .int v0 :: .ref hm :: rest) ws kC nC := by
  unfold ST at hS
  refine ex8 hS ?_
  clear hS
  intro h qp qs qj ly qh kk rd hS
  refine ex8 hS ?_
  clear hS
  intro pg ss w_now w_past w_pars w_judg w_layr w_heap hS
  refine ex6 hS ?_
  clear hS
  intro w_kept w_rnds w_plnr w_shts wm ro hS
  refine an8 hS ?_
  clear hS
  intro hac hnp hkc hpe H_now H_past H_pars H_judg hS
  refine an7 hS ?_
  clear hS
  intro H_layr H_heap H_kept H_rnds H_plnr H_shts H_ref hS
  have we_st := hS
  clear hS
  subst we_st
  refine ww_perm (ws' := wm ++ ([(hx, .inr (11, [.ref h, .ref qp, .int (nI ac), .int (nI np), .ref qs, .ref qj, .ref ly, .ref qh, .ref kk, .int (nI kc), .ref rd, .ref pg, .int (nI pe), .int kn, .ref ss]))] ++ (w_now ++ (w_past ++ (w_pars ++ (w_judg ++ (w_layr ++ (w_heap ++ (w_kept ++ (w_rnds ++ (w_plnr ++ (w_shts ++ ro)))))))))))) ((List.Perm.append_left _ ((List.Perm.append_left _ ((List.Perm.append_left _ ((List.Perm.append_left _ ((List.Perm.append_left _ ((List.Perm.append_left _ ((List.Perm.append_left _ ((List.Perm.append_left _ ((List.Perm.append_left _ ((List.Perm.append_left _ ((List.Perm.append_left _ (List.Perm.refl _)).trans (List.perm_append_comm_assoc _ _ _))).trans (List.perm_append_comm_assoc _ _ _))).trans (List.perm_append_comm_assoc _ _ _))).trans (List.perm_append_comm_assoc _ _ _))).trans (List.perm_append_comm_assoc _ _ _))).trans (List.perm_append_comm_assoc _ _ _))).trans (List.perm_append_comm_assoc _ _ _))).trans (List.perm_append_comm_assoc _ _ _))).trans (List.perm_append_comm_assoc _ _ _))).trans (List.perm_append_comm_assoc _ _ _))).trans (List.perm_append_comm_assoc _ _ _)) ?_
  refine lm_turn C hW hk H_ref hWI hWT (fun rr q_undosZ PGvZ wmZ H_refZ hE => ?_)
  refine ww_perm (ws' := [(hx, .inr (11, [.ref h, .ref qp, .int (nI ac), .int (nI np), .ref qs, .ref qj, .ref ly, .ref qh, .ref kk, .int (nI kc), .ref rd, .ref pg, .int (nI pe), .int kn, .ref ss]))] ++ (w_now ++ (w_past ++ (w_pars ++ (w_judg ++ (w_layr ++ (w_heap ++ (w_kept ++ (w_rnds ++ (w_plnr ++ (w_shts ++ (wmZ ++ ro)))))))))))) ((List.Perm.append_left _ ((List.Perm.append_left _ ((List.Perm.append_left _ ((List.Perm.append_left _ ((List.Perm.append_left _ ((List.Perm.append_left _ ((List.Perm.append_left _ ((List.Perm.append_left _ ((List.Perm.append_left _ ((List.Perm.append_left _ ((List.Perm.append_left _ (List.Perm.refl _)).trans (List.perm_append_comm_assoc _ _ _))).trans (List.perm_append_comm_assoc _ _ _))).trans (List.perm_append_comm_assoc _ _ _))).trans (List.perm_append_comm_assoc _ _ _))).trans (List.perm_append_comm_assoc _ _ _))).trans (List.perm_append_comm_assoc _ _ _))).trans (List.perm_append_comm_assoc _ _ _))).trans (List.perm_append_comm_assoc _ _ _))).trans (List.perm_append_comm_assoc _ _ _))).trans (List.perm_append_comm_assoc _ _ _))).trans (List.perm_append_comm_assoc _ _ _)).symm ?_
  exact kont rr q_undosZ PGvZ _ ⟨h, qp, qs, qj, ly, qh, kk, rd, pg, ss, w_now, w_past, w_pars, w_judg, w_layr, w_heap, w_kept, w_rnds, w_plnr, w_shts, wmZ, ro, hac, hnp, hkc, hpe, H_now, H_past, H_pars, H_judg, H_layr, H_heap, H_kept, H_rnds, H_plnr, H_shts, H_refZ, rfl⟩ hE
set_option maxRecDepth 100000 in
theorem my_turns {X : XT} {E : EV} {ws : va_W} {lv : List (Nat × Value)} {rest : List Value} {kC nC : Nat} {hx hm : Nat} {tl : Nat} {ct : Nat → Int} {pe : Nat} {kn : Int32} {ac : Nat} {np : Nat} {kc : Nat} {mN : AM} {pV : Nat → AM} {kV : Nat → AM} {st : Nat → Nat} {sn : Nat → Nat} {sl : Nat → Nat} {scx : Nat → Nat → Int32} {tT : Nat → Option SVal} {ec : Nat → Nat} {er : Nat → Nat} {ed : Nat → Nat → Int32} {eT : Nat → Nat → Option SVal} {eb : Nat → Nat → Int32} {en : Nat → Nat → Int32} {q_undos : Nat} {q_models : Nat} {PGv : Nat → AM} {f_afterOf : Nat → Int32} {f_actMany : Nat → Int32} {f_actOf : Nat → Int32} {f_whom : Nat → Int32} {f_hasIf : Nat → Int32} {f_becomes : Nat → Int32} {f_goneOf : Nat → Int32} {q_taped : Nat} {cr : Nat → Int} {q_people : Nat} {f_secrets : Nat → Int32} {f_lanes : Nat → Int32} {f_lengths : Nat → Int32} {f_cells : Nat → Int32} {f_tokens : Nat → Int32} {f_afters : Nat → Int32} {f_caseMany : Nat → Int32} {f_happen : Nat → Int32} {f_heard : Nat → Int32} {v0 : Int32} {v1 : Int32} {v2 : Int32} (C : CX X room_1 cL_law 4 RL ret E) (hW : Nat.ble (rest.map fun v => v.category).sum 8 = true) (hk : kC ≤ 600000 ∧ nC ≤ 7302250) (hS : ST E hx hm tl ct pe kn ac np kc mN pV kV st sn sl scx tT ec er ed eT eb en q_undos q_models PGv f_afterOf f_actMany f_actOf f_whom f_hasIf f_becomes f_goneOf q_taped cr q_people f_secrets f_lanes f_lengths f_cells f_tokens f_afters f_caseMany f_happen f_heard ws) (hWI : WHI f_hasIf f_actMany f_actOf f_whom) (hWT : WHT f_tokens f_actMany f_actOf f_whom) (kont : ∀ (rr : Int32) (PGvZ : Nat → AM) (wsZ : va_W), ST E hx hm tl ct pe kn ac np kc mN pV kV st sn sl scx tT ec er ed eT eb en q_undos q_models PGvZ f_afterOf f_actMany f_actOf f_whom f_hasIf f_becomes f_goneOf q_taped cr q_people f_secrets f_lanes f_lengths f_cells f_tokens f_afters f_caseMany f_happen f_heard wsZ → (TUR (PGv 0) (rEv f_caseMany f_happen f_hasIf f_actMany f_actOf f_whom f_becomes f_goneOf f_heard) (rTT f_tokens f_actMany f_actOf f_whom f_afterOf f_afters) v0 v1 v2 rr ∧ KPA 0 PGv PGvZ) → WW X 4 E 1118 lv (.int rr :: rest) wsZ kC nC) : WW X 4 E 1115 lv (.int v2 :: .int v1 :: .int v0 :: .ref hm :: rest) ws kC nC := by
  unfold ST at hS
  refine ex8 hS ?_
  clear hS
  intro h qp qs qj ly qh kk rd hS
  refine ex8 hS ?_
  clear hS
  intro pg ss w_now w_past w_pars w_judg w_layr w_heap hS
  refine ex6 hS ?_
  clear hS
  intro w_kept w_rnds w_plnr w_shts wm ro hS
  refine an8 hS ?_
  clear hS
  intro hac hnp hkc hpe H_now H_past H_pars H_judg hS
  refine an7 hS ?_
  clear hS
  intro H_layr H_heap H_kept H_rnds H_plnr H_shts H_ref hS
  have we_st := hS
  clear hS
  subst we_st
  refine ww_perm (ws' := wm ++ ([(hx, .inr (11, [.ref h, .ref qp, .int (nI ac), .int (nI np), .ref qs, .ref qj, .ref ly, .ref qh, .ref kk, .int (nI kc), .ref rd, .ref pg, .int (nI pe), .int kn, .ref ss]))] ++ (w_now ++ (w_past ++ (w_pars ++ (w_judg ++ (w_layr ++ (w_heap ++ (w_kept ++ (w_rnds ++ (w_plnr ++ (w_shts ++ ro)))))))))))) ((List.Perm.append_left _ ((List.Perm.append_left _ ((List.Perm.append_left _ ((List.Perm.append_left _ ((List.Perm.append_left _ ((List.Perm.append_left _ ((List.Perm.append_left _ ((List.Perm.append_left _ ((List.Perm.append_left _ ((List.Perm.append_left _ ((List.Perm.append_left _ (List.Perm.refl _)).trans (List.perm_append_comm_assoc _ _ _))).trans (List.perm_append_comm_assoc _ _ _))).trans (List.perm_append_comm_assoc _ _ _))).trans (List.perm_append_comm_assoc _ _ _))).trans (List.perm_append_comm_assoc _ _ _))).trans (List.perm_append_comm_assoc _ _ _))).trans (List.perm_append_comm_assoc _ _ _))).trans (List.perm_append_comm_assoc _ _ _))).trans (List.perm_append_comm_assoc _ _ _))).trans (List.perm_append_comm_assoc _ _ _))).trans (List.perm_append_comm_assoc _ _ _)) ?_
  refine lm_turns C hW hk H_ref hWI hWT (fun rr PGvZ wmZ H_refZ hE => ?_)
  refine ww_perm (ws' := [(hx, .inr (11, [.ref h, .ref qp, .int (nI ac), .int (nI np), .ref qs, .ref qj, .ref ly, .ref qh, .ref kk, .int (nI kc), .ref rd, .ref pg, .int (nI pe), .int kn, .ref ss]))] ++ (w_now ++ (w_past ++ (w_pars ++ (w_judg ++ (w_layr ++ (w_heap ++ (w_kept ++ (w_rnds ++ (w_plnr ++ (w_shts ++ (wmZ ++ ro)))))))))))) ((List.Perm.append_left _ ((List.Perm.append_left _ ((List.Perm.append_left _ ((List.Perm.append_left _ ((List.Perm.append_left _ ((List.Perm.append_left _ ((List.Perm.append_left _ ((List.Perm.append_left _ ((List.Perm.append_left _ ((List.Perm.append_left _ ((List.Perm.append_left _ (List.Perm.refl _)).trans (List.perm_append_comm_assoc _ _ _))).trans (List.perm_append_comm_assoc _ _ _))).trans (List.perm_append_comm_assoc _ _ _))).trans (List.perm_append_comm_assoc _ _ _))).trans (List.perm_append_comm_assoc _ _ _))).trans (List.perm_append_comm_assoc _ _ _))).trans (List.perm_append_comm_assoc _ _ _))).trans (List.perm_append_comm_assoc _ _ _))).trans (List.perm_append_comm_assoc _ _ _))).trans (List.perm_append_comm_assoc _ _ _))).trans (List.perm_append_comm_assoc _ _ _)).symm ?_
  exact kont rr PGvZ _ ⟨h, qp, qs, qj, ly, qh, kk, rd, pg, ss, w_now, w_past, w_pars, w_judg, w_layr, w_heap, w_kept, w_rnds, w_plnr, w_shts, wmZ, ro, hac, hnp, hkc, hpe, H_now, H_past, H_pars, H_judg, H_layr, H_heap, H_kept, H_rnds, H_plnr, H_shts, H_refZ, rfl⟩ hE
set_option maxRecDepth 100000 in
theorem my_plan {X : XT} {E : EV} {ws : va_W} {lv : List (Nat × Value)} {rest : List Value} {kC nC : Nat} {hx hm : Nat} {tl : Nat} {ct : Nat → Int} {pe : Nat} {kn : Int32} {ac : Nat} {np : Nat} {kc : Nat} {mN : AM} {pV : Nat → AM} {kV : Nat → AM} {st : Nat → Nat} {sn : Nat → Nat} {sl : Nat → Nat} {scx : Nat → Nat → Int32} {tT : Nat → Option SVal} {ec : Nat → Nat} {er : Nat → Nat} {ed : Nat → Nat → Int32} {eT : Nat → Nat → Option SVal} {eb : Nat → Nat → Int32} {en : Nat → Nat → Int32} {q_undos : Nat} {q_models : Nat} {PGv : Nat → AM} {f_afterOf : Nat → Int32} {f_actMany : Nat → Int32} {f_actOf : Nat → Int32} {f_whom : Nat → Int32} {f_hasIf : Nat → Int32} {f_becomes : Nat → Int32} {f_goneOf : Nat → Int32} {q_taped : Nat} {cr : Nat → Int} {q_people : Nat} {f_secrets : Nat → Int32} {f_lanes : Nat → Int32} {f_lengths : Nat → Int32} {f_cells : Nat → Int32} {f_tokens : Nat → Int32} {f_afters : Nat → Int32} {f_caseMany : Nat → Int32} {f_happen : Nat → Int32} {f_heard : Nat → Int32} {v0 : Int32} {v1 : Int32} {v2 : Int32} {v3 : Int32} (C : CX X room_1 cL_law 4 RL ret E) (hW : Nat.ble (rest.map fun v => v.category).sum 8 = true) (hk : kC ≤ 600000 ∧ nC ≤ 7302250) (hS : ST E hx hm tl ct pe kn ac np kc mN pV kV st sn sl scx tT ec er ed eT eb en q_undos q_models PGv f_afterOf f_actMany f_actOf f_whom f_hasIf f_becomes f_goneOf q_taped cr q_people f_secrets f_lanes f_lengths f_cells f_tokens f_afters f_caseMany f_happen f_heard ws) (hWI : WHI f_hasIf f_actMany f_actOf f_whom) (hWT : WHT f_tokens f_actMany f_actOf f_whom) (kont : ∀ (rr : Int32) (PGvZ : Nat → AM) (wsZ : va_W), ST E hx hm tl ct pe kn ac np kc mN pV kV st sn sl scx tT ec er ed eT eb en q_undos q_models PGvZ f_afterOf f_actMany f_actOf f_whom f_hasIf f_becomes f_goneOf q_taped cr q_people f_secrets f_lanes f_lengths f_cells f_tokens f_afters f_caseMany f_happen f_heard wsZ → (PLA (PGv 0) (rEv f_caseMany f_happen f_hasIf f_actMany f_actOf f_whom f_becomes f_goneOf f_heard) (rTT f_tokens f_actMany f_actOf f_whom f_afterOf f_afters) v0 v1 v2 v3 rr ∧ KPA 0 PGv PGvZ) → WW X 4 E 1171 lv (.int rr :: rest) wsZ kC nC) : WW X 4 E 1168 lv (.int v3 :: .int v2 :: .int v1 :: .int v0 :: .ref hm :: rest) ws kC nC := by
  unfold ST at hS
  refine ex8 hS ?_
  clear hS
  intro h qp qs qj ly qh kk rd hS
  refine ex8 hS ?_
  clear hS
  intro pg ss w_now w_past w_pars w_judg w_layr w_heap hS
  refine ex6 hS ?_
  clear hS
  intro w_kept w_rnds w_plnr w_shts wm ro hS
  refine an8 hS ?_
  clear hS
  intro hac hnp hkc hpe H_now H_past H_pars H_judg hS
  refine an7 hS ?_
  clear hS
  intro H_layr H_heap H_kept H_rnds H_plnr H_shts H_ref hS
  have we_st := hS
  clear hS
  subst we_st
  refine ww_perm (ws' := wm ++ ([(hx, .inr (11, [.ref h, .ref qp, .int (nI ac), .int (nI np), .ref qs, .ref qj, .ref ly, .ref qh, .ref kk, .int (nI kc), .ref rd, .ref pg, .int (nI pe), .int kn, .ref ss]))] ++ (w_now ++ (w_past ++ (w_pars ++ (w_judg ++ (w_layr ++ (w_heap ++ (w_kept ++ (w_rnds ++ (w_plnr ++ (w_shts ++ ro)))))))))))) ((List.Perm.append_left _ ((List.Perm.append_left _ ((List.Perm.append_left _ ((List.Perm.append_left _ ((List.Perm.append_left _ ((List.Perm.append_left _ ((List.Perm.append_left _ ((List.Perm.append_left _ ((List.Perm.append_left _ ((List.Perm.append_left _ ((List.Perm.append_left _ (List.Perm.refl _)).trans (List.perm_append_comm_assoc _ _ _))).trans (List.perm_append_comm_assoc _ _ _))).trans (List.perm_append_comm_assoc _ _ _))).trans (List.perm_append_comm_assoc _ _ _))).trans (List.perm_append_comm_assoc _ _ _))).trans (List.perm_append_comm_assoc _ _ _))).trans (List.perm_append_comm_assoc _ _ _))).trans (List.perm_append_comm_assoc _ _ _))).trans (List.perm_append_comm_assoc _ _ _))).trans (List.perm_append_comm_assoc _ _ _))).trans (List.perm_append_comm_assoc _ _ _)) ?_
  refine lm_plan C hW hk H_ref hWI hWT (fun rr PGvZ wmZ H_refZ hE => ?_)
  refine ww_perm (ws' := [(hx, .inr (11, [.ref h, .ref qp, .int (nI ac), .int (nI np), .ref qs, .ref qj, .ref ly, .ref qh, .ref kk, .int (nI kc), .ref rd, .ref pg, .int (nI pe), .int kn, .ref ss]))] ++ (w_now ++ (w_past ++ (w_pars ++ (w_judg ++ (w_layr ++ (w_heap ++ (w_kept ++ (w_rnds ++ (w_plnr ++ (w_shts ++ (wmZ ++ ro)))))))))))) ((List.Perm.append_left _ ((List.Perm.append_left _ ((List.Perm.append_left _ ((List.Perm.append_left _ ((List.Perm.append_left _ ((List.Perm.append_left _ ((List.Perm.append_left _ ((List.Perm.append_left _ ((List.Perm.append_left _ ((List.Perm.append_left _ ((List.Perm.append_left _ (List.Perm.refl _)).trans (List.perm_append_comm_assoc _ _ _))).trans (List.perm_append_comm_assoc _ _ _))).trans (List.perm_append_comm_assoc _ _ _))).trans (List.perm_append_comm_assoc _ _ _))).trans (List.perm_append_comm_assoc _ _ _))).trans (List.perm_append_comm_assoc _ _ _))).trans (List.perm_append_comm_assoc _ _ _))).trans (List.perm_append_comm_assoc _ _ _))).trans (List.perm_append_comm_assoc _ _ _))).trans (List.perm_append_comm_assoc _ _ _))).trans (List.perm_append_comm_assoc _ _ _)).symm ?_
  exact kont rr PGvZ _ ⟨h, qp, qs, qj, ly, qh, kk, rd, pg, ss, w_now, w_past, w_pars, w_judg, w_layr, w_heap, w_kept, w_rnds, w_plnr, w_shts, wmZ, ro, hac, hnp, hkc, hpe, H_now, H_past, H_pars, H_judg, H_layr, H_heap, H_kept, H_rnds, H_plnr, H_shts, H_refZ, rfl⟩ hE
set_option maxRecDepth 100000 in
theorem my_people {X : XT} {E : EV} {ws : va_W} {lv : List (Nat × Value)} {rest : List Value} {kC nC : Nat} {hx hm : Nat} {tl : Nat} {ct : Nat → Int} {pe : Nat} {kn : Int32} {ac : Nat} {np : Nat} {kc : Nat} {mN : AM} {pV : Nat → AM} {kV : Nat → AM} {st : Nat → Nat} {sn : Nat → Nat} {sl : Nat → Nat} {scx : Nat → Nat → Int32} {tT : Nat → Option SVal} {ec : Nat → Nat} {er : Nat → Nat} {ed : Nat → Nat → Int32} {eT : Nat → Nat → Option SVal} {eb : Nat → Nat → Int32} {en : Nat → Nat → Int32} {q_undos : Nat} {q_models : Nat} {PGv : Nat → AM} {f_afterOf : Nat → Int32} {f_actMany : Nat → Int32} {f_actOf : Nat → Int32} {f_whom : Nat → Int32} {f_hasIf : Nat → Int32} {f_becomes : Nat → Int32} {f_goneOf : Nat → Int32} {q_taped : Nat} {cr : Nat → Int} {q_people : Nat} {f_secrets : Nat → Int32} {f_lanes : Nat → Int32} {f_lengths : Nat → Int32} {f_cells : Nat → Int32} {f_tokens : Nat → Int32} {f_afters : Nat → Int32} {f_caseMany : Nat → Int32} {f_happen : Nat → Int32} {f_heard : Nat → Int32} {v0 : Int32} (C : CX X room_1 cL_law 4 RL ret E) (hW : Nat.ble (rest.map fun v => v.category).sum 8 = true) (hk : kC ≤ 600000 ∧ nC ≤ 7302250) (hS : ST E hx hm tl ct pe kn ac np kc mN pV kV st sn sl scx tT ec er ed eT eb en q_undos q_models PGv f_afterOf f_actMany f_actOf f_whom f_hasIf f_becomes f_goneOf q_taped cr q_people f_secrets f_lanes f_lengths f_cells f_tokens f_afters f_caseMany f_happen f_heard ws) (kont : ∀ (rr : Int32) (q_peopleZ : Nat) (f_secretsZ : Nat → Int32) (wsZ : va_W), ST E hx hm tl ct pe kn ac np kc mN pV kV st sn sl scx tT ec er ed eT eb en q_undos q_models PGv f_afterOf f_actMany f_actOf f_whom f_hasIf f_becomes f_goneOf q_taped cr q_peopleZ f_secretsZ f_lanes f_lengths f_cells f_tokens f_afters f_caseMany f_happen f_heard wsZ → (((v0.toInt < 2 ∨ 4 < v0.toInt) ∧ q_peopleZ = q_people ∧ f_secretsZ = f_secrets ∧ rr = -1) ∨ (v0.toInt = 2 ∧ q_peopleZ = 2 ∧ (∀ i, i < 2 → f_secretsZ i = nI (2 ^ i)) ∧ rr = 2) ∨ (v0.toInt = 3 ∧ q_peopleZ = 3 ∧ (∀ i, i < 3 → f_secretsZ i = nI (2 ^ i)) ∧ rr = 3) ∨ (v0.toInt = 4 ∧ q_peopleZ = 4 ∧ (∀ i, i < 4 → f_secretsZ i = nI (2 ^ i)) ∧ rr = 4)) → WW X 4 E 1194 lv (.int rr :: rest) wsZ kC nC) : WW X 4 E 1191 lv (.int v0 :: .ref hm :: rest) ws kC nC := by
  unfold ST at hS
  refine ex8 hS ?_
  clear hS
  intro h qp qs qj ly qh kk rd hS
  refine ex8 hS ?_
  clear hS
  intro pg ss w_now w_past w_pars w_judg w_layr w_heap hS
  refine ex6 hS ?_
  clear hS
  intro w_kept w_rnds w_plnr w_shts wm ro hS
  refine an8 hS ?_
  clear hS
  intro hac hnp hkc hpe H_now H_past H_pars H_judg hS
  refine an7 hS ?_
  clear hS
  intro H_layr H_heap H_kept H_rnds H_plnr H_shts H_ref hS
  have we_st := hS
  clear hS
  subst we_st
  refine ww_perm (ws' := wm ++ ([(hx, .inr (11, [.ref h, .ref qp, .int (nI ac), .int (nI np), .ref qs, .ref qj, .ref ly, .ref qh, .ref kk, .int (nI kc), .ref rd, .ref pg, .int (nI pe), .int kn, .ref ss]))] ++ (w_now ++ (w_past ++ (w_pars ++ (w_judg ++ (w_layr ++ (w_heap ++ (w_kept ++ (w_rnds ++ (w_plnr ++ (w_shts ++ ro)))))))))))) ((List.Perm.append_left _ ((List.Perm.append_left _ ((List.Perm.append_left _ ((List.Perm.append_left _ ((List.Perm.append_left _ ((List.Perm.append_left _ ((List.Perm.append_left _ ((List.Perm.append_left _ ((List.Perm.append_left _ ((List.Perm.append_left _ ((List.Perm.append_left _ (List.Perm.refl _)).trans (List.perm_append_comm_assoc _ _ _))).trans (List.perm_append_comm_assoc _ _ _))).trans (List.perm_append_comm_assoc _ _ _))).trans (List.perm_append_comm_assoc _ _ _))).trans (List.perm_append_comm_assoc _ _ _))).trans (List.perm_append_comm_assoc _ _ _))).trans (List.perm_append_comm_assoc _ _ _))).trans (List.perm_append_comm_assoc _ _ _))).trans (List.perm_append_comm_assoc _ _ _))).trans (List.perm_append_comm_assoc _ _ _))).trans (List.perm_append_comm_assoc _ _ _)) ?_
  refine lm_people C hW hk H_ref (fun rr q_peopleZ f_secretsZ wmZ H_refZ hE => ?_)
  refine ww_perm (ws' := [(hx, .inr (11, [.ref h, .ref qp, .int (nI ac), .int (nI np), .ref qs, .ref qj, .ref ly, .ref qh, .ref kk, .int (nI kc), .ref rd, .ref pg, .int (nI pe), .int kn, .ref ss]))] ++ (w_now ++ (w_past ++ (w_pars ++ (w_judg ++ (w_layr ++ (w_heap ++ (w_kept ++ (w_rnds ++ (w_plnr ++ (w_shts ++ (wmZ ++ ro)))))))))))) ((List.Perm.append_left _ ((List.Perm.append_left _ ((List.Perm.append_left _ ((List.Perm.append_left _ ((List.Perm.append_left _ ((List.Perm.append_left _ ((List.Perm.append_left _ ((List.Perm.append_left _ ((List.Perm.append_left _ ((List.Perm.append_left _ ((List.Perm.append_left _ (List.Perm.refl _)).trans (List.perm_append_comm_assoc _ _ _))).trans (List.perm_append_comm_assoc _ _ _))).trans (List.perm_append_comm_assoc _ _ _))).trans (List.perm_append_comm_assoc _ _ _))).trans (List.perm_append_comm_assoc _ _ _))).trans (List.perm_append_comm_assoc _ _ _))).trans (List.perm_append_comm_assoc _ _ _))).trans (List.perm_append_comm_assoc _ _ _))).trans (List.perm_append_comm_assoc _ _ _))).trans (List.perm_append_comm_assoc _ _ _))).trans (List.perm_append_comm_assoc _ _ _)).symm ?_
  exact kont rr q_peopleZ f_secretsZ _ ⟨h, qp, qs, qj, ly, qh, kk, rd, pg, ss, w_now, w_past, w_pars, w_judg, w_layr, w_heap, w_kept, w_rnds, w_plnr, w_shts, wmZ, ro, hac, hnp, hkc, hpe, H_now, H_past, H_pars, H_judg, H_layr, H_heap, H_kept, H_rnds, H_plnr, H_shts, H_refZ, rfl⟩ hE
set_option maxRecDepth 100000 in
theorem my_call {X : XT} {E : EV} {ws : va_W} {lv : List (Nat × Value)} {rest : List Value} {kC nC : Nat} {hx hm : Nat} {tl : Nat} {ct : Nat → Int} {pe : Nat} {kn : Int32} {ac : Nat} {np : Nat} {kc : Nat} {mN : AM} {pV : Nat → AM} {kV : Nat → AM} {st : Nat → Nat} {sn : Nat → Nat} {sl : Nat → Nat} {scx : Nat → Nat → Int32} {tT : Nat → Option SVal} {ec : Nat → Nat} {er : Nat → Nat} {ed : Nat → Nat → Int32} {eT : Nat → Nat → Option SVal} {eb : Nat → Nat → Int32} {en : Nat → Nat → Int32} {q_undos : Nat} {q_models : Nat} {PGv : Nat → AM} {f_afterOf : Nat → Int32} {f_actMany : Nat → Int32} {f_actOf : Nat → Int32} {f_whom : Nat → Int32} {f_hasIf : Nat → Int32} {f_becomes : Nat → Int32} {f_goneOf : Nat → Int32} {q_taped : Nat} {cr : Nat → Int} {q_people : Nat} {f_secrets : Nat → Int32} {f_lanes : Nat → Int32} {f_lengths : Nat → Int32} {f_cells : Nat → Int32} {f_tokens : Nat → Int32} {f_afters : Nat → Int32} {f_caseMany : Nat → Int32} {f_happen : Nat → Int32} {f_heard : Nat → Int32} {v0 : Int32} {v1 : Int32} (C : CX X room_1 cL_law 4 RL ret E) (hW : Nat.ble (rest.map fun v => v.category).sum 8 = true) (hk : kC ≤ 600000 ∧ nC ≤ 7302250) (hS : ST E hx hm tl ct pe kn ac np kc mN pV kV st sn sl scx tT ec er ed eT eb en q_undos q_models PGv f_afterOf f_actMany f_actOf f_whom f_hasIf f_becomes f_goneOf q_taped cr q_people f_secrets f_lanes f_lengths f_cells f_tokens f_afters f_caseMany f_happen f_heard ws) (kont : ∀ (rr : Int32) (f_secretsZ : Nat → Int32) (wsZ : va_W), ST E hx hm tl ct pe kn ac np kc mN pV kV st sn sl scx tT ec er ed eT eb en q_undos q_models PGv f_afterOf f_actMany f_actOf f_whom f_hasIf f_becomes f_goneOf q_taped cr q_people f_secretsZ f_lanes f_lengths f_cells f_tokens f_afters f_caseMany f_happen f_heard wsZ → (((v0.toInt < 0 ∨ (q_people : Int) ≤ v0.toInt ∨ v1.toInt < 0 ∨ (q_people : Int) ≤ v1.toInt ∨ v0.toInt = v1.toInt) ∧ f_secretsZ = f_secrets ∧ rr = -1) ∨ ∃ i j : Nat, v0 = nI i ∧ v1 = nI j ∧ i < q_people ∧ j < q_people ∧ i ≠ j ∧ upd (upd f_secrets i (f_secrets i ||| f_secrets j)) j (f_secrets i ||| f_secrets j) = f_secretsZ ∧ rr = nI (cb (bt (f_secrets i ||| f_secrets j)) 24)) → WW X 4 E 1227 lv (.int rr :: rest) wsZ kC nC) : WW X 4 E 1224 lv (.int v1 :: .int v0 :: .ref hm :: rest) ws kC nC := by
  unfold ST at hS
  refine ex8 hS ?_
  clear hS
  intro h qp qs qj ly qh kk rd hS
  refine ex8 hS ?_
  clear hS
  intro pg ss w_now w_past w_pars w_judg w_layr w_heap hS
  refine ex6 hS ?_
  clear hS
  intro w_kept w_rnds w_plnr w_shts wm ro hS
  refine an8 hS ?_
  clear hS
  intro hac hnp hkc hpe H_now H_past H_pars H_judg hS
  refine an7 hS ?_
  clear hS
  intro H_layr H_heap H_kept H_rnds H_plnr H_shts H_ref hS
  have we_st := hS
  clear hS
  subst we_st
  refine ww_perm (ws' := wm ++ ([(hx, .inr (11, [.ref h, .ref qp, .int (nI ac), .int (nI np), .ref qs, .ref qj, .ref ly, .ref qh, .ref kk, .int (nI kc), .ref rd, .ref pg, .int (nI pe), .int kn, .ref ss]))] ++ (w_now ++ (w_past ++ (w_pars ++ (w_judg ++ (w_layr ++ (w_heap ++ (w_kept ++ (w_rnds ++ (w_plnr ++ (w_shts ++ ro)))))))))))) ((List.Perm.append_left _ ((List.Perm.append_left _ ((List.Perm.append_left _ ((List.Perm.append_left _ ((List.Perm.append_left _ ((List.Perm.append_left _ ((List.Perm.append_left _ ((List.Perm.append_left _ ((List.Perm.append_left _ ((List.Perm.append_left _ ((List.Perm.append_left _ (List.Perm.refl _)).trans (List.perm_append_comm_assoc _ _ _))).trans (List.perm_append_comm_assoc _ _ _))).trans (List.perm_append_comm_assoc _ _ _))).trans (List.perm_append_comm_assoc _ _ _))).trans (List.perm_append_comm_assoc _ _ _))).trans (List.perm_append_comm_assoc _ _ _))).trans (List.perm_append_comm_assoc _ _ _))).trans (List.perm_append_comm_assoc _ _ _))).trans (List.perm_append_comm_assoc _ _ _))).trans (List.perm_append_comm_assoc _ _ _))).trans (List.perm_append_comm_assoc _ _ _)) ?_
  refine lm_call C hW hk H_ref (fun rr f_secretsZ wmZ H_refZ hE => ?_)
  refine ww_perm (ws' := [(hx, .inr (11, [.ref h, .ref qp, .int (nI ac), .int (nI np), .ref qs, .ref qj, .ref ly, .ref qh, .ref kk, .int (nI kc), .ref rd, .ref pg, .int (nI pe), .int kn, .ref ss]))] ++ (w_now ++ (w_past ++ (w_pars ++ (w_judg ++ (w_layr ++ (w_heap ++ (w_kept ++ (w_rnds ++ (w_plnr ++ (w_shts ++ (wmZ ++ ro)))))))))))) ((List.Perm.append_left _ ((List.Perm.append_left _ ((List.Perm.append_left _ ((List.Perm.append_left _ ((List.Perm.append_left _ ((List.Perm.append_left _ ((List.Perm.append_left _ ((List.Perm.append_left _ ((List.Perm.append_left _ ((List.Perm.append_left _ ((List.Perm.append_left _ (List.Perm.refl _)).trans (List.perm_append_comm_assoc _ _ _))).trans (List.perm_append_comm_assoc _ _ _))).trans (List.perm_append_comm_assoc _ _ _))).trans (List.perm_append_comm_assoc _ _ _))).trans (List.perm_append_comm_assoc _ _ _))).trans (List.perm_append_comm_assoc _ _ _))).trans (List.perm_append_comm_assoc _ _ _))).trans (List.perm_append_comm_assoc _ _ _))).trans (List.perm_append_comm_assoc _ _ _))).trans (List.perm_append_comm_assoc _ _ _))).trans (List.perm_append_comm_assoc _ _ _)).symm ?_
  exact kont rr f_secretsZ _ ⟨h, qp, qs, qj, ly, qh, kk, rd, pg, ss, w_now, w_past, w_pars, w_judg, w_layr, w_heap, w_kept, w_rnds, w_plnr, w_shts, wmZ, ro, hac, hnp, hkc, hpe, H_now, H_past, H_pars, H_judg, H_layr, H_heap, H_kept, H_rnds, H_plnr, H_shts, H_refZ, rfl⟩ hE
set_option maxRecDepth 100000 in
theorem my_secrets {X : XT} {E : EV} {ws : va_W} {lv : List (Nat × Value)} {rest : List Value} {kC nC : Nat} {hx hm : Nat} {tl : Nat} {ct : Nat → Int} {pe : Nat} {kn : Int32} {ac : Nat} {np : Nat} {kc : Nat} {mN : AM} {pV : Nat → AM} {kV : Nat → AM} {st : Nat → Nat} {sn : Nat → Nat} {sl : Nat → Nat} {scx : Nat → Nat → Int32} {tT : Nat → Option SVal} {ec : Nat → Nat} {er : Nat → Nat} {ed : Nat → Nat → Int32} {eT : Nat → Nat → Option SVal} {eb : Nat → Nat → Int32} {en : Nat → Nat → Int32} {q_undos : Nat} {q_models : Nat} {PGv : Nat → AM} {f_afterOf : Nat → Int32} {f_actMany : Nat → Int32} {f_actOf : Nat → Int32} {f_whom : Nat → Int32} {f_hasIf : Nat → Int32} {f_becomes : Nat → Int32} {f_goneOf : Nat → Int32} {q_taped : Nat} {cr : Nat → Int} {q_people : Nat} {f_secrets : Nat → Int32} {f_lanes : Nat → Int32} {f_lengths : Nat → Int32} {f_cells : Nat → Int32} {f_tokens : Nat → Int32} {f_afters : Nat → Int32} {f_caseMany : Nat → Int32} {f_happen : Nat → Int32} {f_heard : Nat → Int32} {v0 : Int32} (C : CX X room_1 cL_law 4 RL ret E) (hW : Nat.ble (rest.map fun v => v.category).sum 8 = true) (hk : kC ≤ 600000 ∧ nC ≤ 7302250) (hS : ST E hx hm tl ct pe kn ac np kc mN pV kV st sn sl scx tT ec er ed eT eb en q_undos q_models PGv f_afterOf f_actMany f_actOf f_whom f_hasIf f_becomes f_goneOf q_taped cr q_people f_secrets f_lanes f_lengths f_cells f_tokens f_afters f_caseMany f_happen f_heard ws) (kont : ∀ (rr : Int32) (wsZ : va_W), ST E hx hm tl ct pe kn ac np kc mN pV kV st sn sl scx tT ec er ed eT eb en q_undos q_models PGv f_afterOf f_actMany f_actOf f_whom f_hasIf f_becomes f_goneOf q_taped cr q_people f_secrets f_lanes f_lengths f_cells f_tokens f_afters f_caseMany f_happen f_heard wsZ → (((v0.toInt < 0 ∨ (q_people : Int) ≤ v0.toInt) ∧ rr = -1) ∨ ∃ i : Nat, v0 = nI i ∧ i < q_people ∧ rr = f_secrets i) → WW X 4 E 1250 lv (.int rr :: rest) wsZ kC nC) : WW X 4 E 1247 lv (.int v0 :: .ref hm :: rest) ws kC nC := by
  unfold ST at hS
  refine ex8 hS ?_
  clear hS
  intro h qp qs qj ly qh kk rd hS
  refine ex8 hS ?_
  clear hS
  intro pg ss w_now w_past w_pars w_judg w_layr w_heap hS
  refine ex6 hS ?_
  clear hS
  intro w_kept w_rnds w_plnr w_shts wm ro hS
  refine an8 hS ?_
  clear hS
  intro hac hnp hkc hpe H_now H_past H_pars H_judg hS
  refine an7 hS ?_
  clear hS
  intro H_layr H_heap H_kept H_rnds H_plnr H_shts H_ref hS
  have we_st := hS
  clear hS
  subst we_st
  refine ww_perm (ws' := wm ++ ([(hx, .inr (11, [.ref h, .ref qp, .int (nI ac), .int (nI np), .ref qs, .ref qj, .ref ly, .ref qh, .ref kk, .int (nI kc), .ref rd, .ref pg, .int (nI pe), .int kn, .ref ss]))] ++ (w_now ++ (w_past ++ (w_pars ++ (w_judg ++ (w_layr ++ (w_heap ++ (w_kept ++ (w_rnds ++ (w_plnr ++ (w_shts ++ ro)))))))))))) ((List.Perm.append_left _ ((List.Perm.append_left _ ((List.Perm.append_left _ ((List.Perm.append_left _ ((List.Perm.append_left _ ((List.Perm.append_left _ ((List.Perm.append_left _ ((List.Perm.append_left _ ((List.Perm.append_left _ ((List.Perm.append_left _ ((List.Perm.append_left _ (List.Perm.refl _)).trans (List.perm_append_comm_assoc _ _ _))).trans (List.perm_append_comm_assoc _ _ _))).trans (List.perm_append_comm_assoc _ _ _))).trans (List.perm_append_comm_assoc _ _ _))).trans (List.perm_append_comm_assoc _ _ _))).trans (List.perm_append_comm_assoc _ _ _))).trans (List.perm_append_comm_assoc _ _ _))).trans (List.perm_append_comm_assoc _ _ _))).trans (List.perm_append_comm_assoc _ _ _))).trans (List.perm_append_comm_assoc _ _ _))).trans (List.perm_append_comm_assoc _ _ _)) ?_
  refine lm_secrets C hW hk H_ref (fun rr wmZ H_refZ hE => ?_)
  refine ww_perm (ws' := [(hx, .inr (11, [.ref h, .ref qp, .int (nI ac), .int (nI np), .ref qs, .ref qj, .ref ly, .ref qh, .ref kk, .int (nI kc), .ref rd, .ref pg, .int (nI pe), .int kn, .ref ss]))] ++ (w_now ++ (w_past ++ (w_pars ++ (w_judg ++ (w_layr ++ (w_heap ++ (w_kept ++ (w_rnds ++ (w_plnr ++ (w_shts ++ (wmZ ++ ro)))))))))))) ((List.Perm.append_left _ ((List.Perm.append_left _ ((List.Perm.append_left _ ((List.Perm.append_left _ ((List.Perm.append_left _ ((List.Perm.append_left _ ((List.Perm.append_left _ ((List.Perm.append_left _ ((List.Perm.append_left _ ((List.Perm.append_left _ ((List.Perm.append_left _ (List.Perm.refl _)).trans (List.perm_append_comm_assoc _ _ _))).trans (List.perm_append_comm_assoc _ _ _))).trans (List.perm_append_comm_assoc _ _ _))).trans (List.perm_append_comm_assoc _ _ _))).trans (List.perm_append_comm_assoc _ _ _))).trans (List.perm_append_comm_assoc _ _ _))).trans (List.perm_append_comm_assoc _ _ _))).trans (List.perm_append_comm_assoc _ _ _))).trans (List.perm_append_comm_assoc _ _ _))).trans (List.perm_append_comm_assoc _ _ _))).trans (List.perm_append_comm_assoc _ _ _)).symm ?_
  exact kont rr  _ ⟨h, qp, qs, qj, ly, qh, kk, rd, pg, ss, w_now, w_past, w_pars, w_judg, w_layr, w_heap, w_kept, w_rnds, w_plnr, w_shts, wmZ, ro, hac, hnp, hkc, hpe, H_now, H_past, H_pars, H_judg, H_layr, H_heap, H_kept, H_rnds, H_plnr, H_shts, H_refZ, rfl⟩ hE
set_option maxRecDepth 100000 in
theorem my_fewest {X : XT} {E : EV} {ws : va_W} {lv : List (Nat × Value)} {rest : List Value} {kC nC : Nat} {hx hm : Nat} {tl : Nat} {ct : Nat → Int} {pe : Nat} {kn : Int32} {ac : Nat} {np : Nat} {kc : Nat} {mN : AM} {pV : Nat → AM} {kV : Nat → AM} {st : Nat → Nat} {sn : Nat → Nat} {sl : Nat → Nat} {scx : Nat → Nat → Int32} {tT : Nat → Option SVal} {ec : Nat → Nat} {er : Nat → Nat} {ed : Nat → Nat → Int32} {eT : Nat → Nat → Option SVal} {eb : Nat → Nat → Int32} {en : Nat → Nat → Int32} {q_undos : Nat} {q_models : Nat} {PGv : Nat → AM} {f_afterOf : Nat → Int32} {f_actMany : Nat → Int32} {f_actOf : Nat → Int32} {f_whom : Nat → Int32} {f_hasIf : Nat → Int32} {f_becomes : Nat → Int32} {f_goneOf : Nat → Int32} {q_taped : Nat} {cr : Nat → Int} {q_people : Nat} {f_secrets : Nat → Int32} {f_lanes : Nat → Int32} {f_lengths : Nat → Int32} {f_cells : Nat → Int32} {f_tokens : Nat → Int32} {f_afters : Nat → Int32} {f_caseMany : Nat → Int32} {f_happen : Nat → Int32} {f_heard : Nat → Int32} {v0 : Int32} (C : CX X room_1 cL_law 4 RL ret E) (hW : Nat.ble (rest.map fun v => v.category).sum 8 = true) (hk : kC ≤ 600000 ∧ nC ≤ 7302250) (hS : ST E hx hm tl ct pe kn ac np kc mN pV kV st sn sl scx tT ec er ed eT eb en q_undos q_models PGv f_afterOf f_actMany f_actOf f_whom f_hasIf f_becomes f_goneOf q_taped cr q_people f_secrets f_lanes f_lengths f_cells f_tokens f_afters f_caseMany f_happen f_heard ws) (kont : ∀ (rr : Int32) (wsZ : va_W), ST E hx hm tl ct pe kn ac np kc mN pV kV st sn sl scx tT ec er ed eT eb en q_undos q_models PGv f_afterOf f_actMany f_actOf f_whom f_hasIf f_becomes f_goneOf q_taped cr q_people f_secrets f_lanes f_lengths f_cells f_tokens f_afters f_caseMany f_happen f_heard wsZ → (FWQr q_people f_secrets v0 rr) → WW X 4 E 1273 lv (.int rr :: rest) wsZ kC nC) : WW X 4 E 1270 lv (.int v0 :: .ref hm :: rest) ws kC nC := by
  unfold ST at hS
  refine ex8 hS ?_
  clear hS
  intro h qp qs qj ly qh kk rd hS
  refine ex8 hS ?_
  clear hS
  intro pg ss w_now w_past w_pars w_judg w_layr w_heap hS
  refine ex6 hS ?_
  clear hS
  intro w_kept w_rnds w_plnr w_shts wm ro hS
  refine an8 hS ?_
  clear hS
  intro hac hnp hkc hpe H_now H_past H_pars H_judg hS
  refine an7 hS ?_
  clear hS
  intro H_layr H_heap H_kept H_rnds H_plnr H_shts H_ref hS
  have we_st := hS
  clear hS
  subst we_st
  refine ww_perm (ws' := wm ++ ([(hx, .inr (11, [.ref h, .ref qp, .int (nI ac), .int (nI np), .ref qs, .ref qj, .ref ly, .ref qh, .ref kk, .int (nI kc), .ref rd, .ref pg, .int (nI pe), .int kn, .ref ss]))] ++ (w_now ++ (w_past ++ (w_pars ++ (w_judg ++ (w_layr ++ (w_heap ++ (w_kept ++ (w_rnds ++ (w_plnr ++ (w_shts ++ ro)))))))))))) ((List.Perm.append_left _ ((List.Perm.append_left _ ((List.Perm.append_left _ ((List.Perm.append_left _ ((List.Perm.append_left _ ((List.Perm.append_left _ ((List.Perm.append_left _ ((List.Perm.append_left _ ((List.Perm.append_left _ ((List.Perm.append_left _ ((List.Perm.append_left _ (List.Perm.refl _)).trans (List.perm_append_comm_assoc _ _ _))).trans (List.perm_append_comm_assoc _ _ _))).trans (List.perm_append_comm_assoc _ _ _))).trans (List.perm_append_comm_assoc _ _ _))).trans (List.perm_append_comm_assoc _ _ _))).trans (List.perm_append_comm_assoc _ _ _))).trans (List.perm_append_comm_assoc _ _ _))).trans (List.perm_append_comm_assoc _ _ _))).trans (List.perm_append_comm_assoc _ _ _))).trans (List.perm_append_comm_assoc _ _ _))).trans (List.perm_append_comm_assoc _ _ _)) ?_
  refine lm_fewest C hW hk H_ref (fun rr wmZ H_refZ hE => ?_)
  refine ww_perm (ws' := [(hx, .inr (11, [.ref h, .ref qp, .int (nI ac), .int (nI np), .ref qs, .ref qj, .ref ly, .ref qh, .ref kk, .int (nI kc), .ref rd, .ref pg, .int (nI pe), .int kn, .ref ss]))] ++ (w_now ++ (w_past ++ (w_pars ++ (w_judg ++ (w_layr ++ (w_heap ++ (w_kept ++ (w_rnds ++ (w_plnr ++ (w_shts ++ (wmZ ++ ro)))))))))))) ((List.Perm.append_left _ ((List.Perm.append_left _ ((List.Perm.append_left _ ((List.Perm.append_left _ ((List.Perm.append_left _ ((List.Perm.append_left _ ((List.Perm.append_left _ ((List.Perm.append_left _ ((List.Perm.append_left _ ((List.Perm.append_left _ ((List.Perm.append_left _ (List.Perm.refl _)).trans (List.perm_append_comm_assoc _ _ _))).trans (List.perm_append_comm_assoc _ _ _))).trans (List.perm_append_comm_assoc _ _ _))).trans (List.perm_append_comm_assoc _ _ _))).trans (List.perm_append_comm_assoc _ _ _))).trans (List.perm_append_comm_assoc _ _ _))).trans (List.perm_append_comm_assoc _ _ _))).trans (List.perm_append_comm_assoc _ _ _))).trans (List.perm_append_comm_assoc _ _ _))).trans (List.perm_append_comm_assoc _ _ _))).trans (List.perm_append_comm_assoc _ _ _)).symm ?_
  exact kont rr  _ ⟨h, qp, qs, qj, ly, qh, kk, rd, pg, ss, w_now, w_past, w_pars, w_judg, w_layr, w_heap, w_kept, w_rnds, w_plnr, w_shts, wmZ, ro, hac, hnp, hkc, hpe, H_now, H_past, H_pars, H_judg, H_layr, H_heap, H_kept, H_rnds, H_plnr, H_shts, H_refZ, rfl⟩ hE
set_option maxRecDepth 100000 in
theorem my_sheet {X : XT} {E : EV} {ws : va_W} {lv : List (Nat × Value)} {rest : List Value} {kC nC : Nat} {hx hm : Nat} {tl : Nat} {ct : Nat → Int} {pe : Nat} {kn : Int32} {ac : Nat} {np : Nat} {kc : Nat} {mN : AM} {pV : Nat → AM} {kV : Nat → AM} {st : Nat → Nat} {sn : Nat → Nat} {sl : Nat → Nat} {scx : Nat → Nat → Int32} {tT : Nat → Option SVal} {ec : Nat → Nat} {er : Nat → Nat} {ed : Nat → Nat → Int32} {eT : Nat → Nat → Option SVal} {eb : Nat → Nat → Int32} {en : Nat → Nat → Int32} {q_undos : Nat} {q_models : Nat} {PGv : Nat → AM} {f_afterOf : Nat → Int32} {f_actMany : Nat → Int32} {f_actOf : Nat → Int32} {f_whom : Nat → Int32} {f_hasIf : Nat → Int32} {f_becomes : Nat → Int32} {f_goneOf : Nat → Int32} {q_taped : Nat} {cr : Nat → Int} {q_people : Nat} {f_secrets : Nat → Int32} {f_lanes : Nat → Int32} {f_lengths : Nat → Int32} {f_cells : Nat → Int32} {f_tokens : Nat → Int32} {f_afters : Nat → Int32} {f_caseMany : Nat → Int32} {f_happen : Nat → Int32} {f_heard : Nat → Int32} {v0 : Int32} {v1 : Int32} {v2 : Int32} (C : CX X room_1 cL_law 4 RL ret E) (hW : Nat.ble (rest.map fun v => v.category).sum 8 = true) (hk : kC ≤ 600000 ∧ nC ≤ 7302250) (hS : ST E hx hm tl ct pe kn ac np kc mN pV kV st sn sl scx tT ec er ed eT eb en q_undos q_models PGv f_afterOf f_actMany f_actOf f_whom f_hasIf f_becomes f_goneOf q_taped cr q_people f_secrets f_lanes f_lengths f_cells f_tokens f_afters f_caseMany f_happen f_heard ws) (kont : ∀ (rr : Int32) (f_lanesZ : Nat → Int32) (f_lengthsZ : Nat → Int32) (f_cellsZ : Nat → Int32) (wsZ : va_W), ST E hx hm tl ct pe kn ac np kc mN pV kV st sn sl scx tT ec er ed eT eb en q_undos q_models PGv f_afterOf f_actMany f_actOf f_whom f_hasIf f_becomes f_goneOf q_taped cr q_people f_secrets f_lanesZ f_lengthsZ f_cellsZ f_tokens f_afters f_caseMany f_happen f_heard wsZ → (((v0.toInt < 0 ∨ 3 < v0.toInt ∨ v1.toInt < 0 ∨ 2 < v1.toInt ∨ 48 < v2.toInt) ∧ rr = -1 ∧ f_lanesZ = f_lanes ∧ f_lengthsZ = f_lengths ∧ f_cellsZ = f_cells) ∨ ((0 ≤ v0.toInt ∧ v0.toInt ≤ 3 ∧ 0 ≤ v1.toInt ∧ v1.toInt ≤ 2 ∧ v2.toInt < 0) ∧ rr = -14 ∧ f_lanesZ = f_lanes ∧ f_lengthsZ = f_lengths ∧ f_cellsZ = f_cells) ∨ ∃ k_ l_ n_ : Nat, v0 = nI k_ ∧ v1 = nI l_ ∧ v2 = nI n_ ∧ k_ ≤ 3 ∧ l_ ≤ 2 ∧ n_ ≤ 48 ∧ upd f_lanes k_ (nI l_) = f_lanesZ ∧ upd f_lengths k_ (nI n_) = f_lengthsZ ∧ CZR k_ 48 f_cells f_cellsZ ∧ rr = 1) → WW X 4 E 1316 lv (.int rr :: rest) wsZ kC nC) : WW X 4 E 1313 lv (.int v2 :: .int v1 :: .int v0 :: .ref hm :: rest) ws kC nC := by
  unfold ST at hS
  refine ex8 hS ?_
  clear hS
  intro h qp qs qj ly qh kk rd hS
  refine ex8 hS ?_
  clear hS
  intro pg ss w_now w_past w_pars w_judg w_layr w_heap hS
  refine ex6 hS ?_
  clear hS
  intro w_kept w_rnds w_plnr w_shts wm ro hS
  refine an8 hS ?_
  clear hS
  intro hac hnp hkc hpe H_now H_past H_pars H_judg hS
  refine an7 hS ?_
  clear hS
  intro H_layr H_heap H_kept H_rnds H_plnr H_shts H_ref hS
  have we_st := hS
  clear hS
  subst we_st
  refine ww_perm (ws' := wm ++ ([(hx, .inr (11, [.ref h, .ref qp, .int (nI ac), .int (nI np), .ref qs, .ref qj, .ref ly, .ref qh, .ref kk, .int (nI kc), .ref rd, .ref pg, .int (nI pe), .int kn, .ref ss]))] ++ (w_now ++ (w_past ++ (w_pars ++ (w_judg ++ (w_layr ++ (w_heap ++ (w_kept ++ (w_rnds ++ (w_plnr ++ (w_shts ++ ro)))))))))))) ((List.Perm.append_left _ ((List.Perm.append_left _ ((List.Perm.append_left _ ((List.Perm.append_left _ ((List.Perm.append_left _ ((List.Perm.append_left _ ((List.Perm.append_left _ ((List.Perm.append_left _ ((List.Perm.append_left _ ((List.Perm.append_left _ ((List.Perm.append_left _ (List.Perm.refl _)).trans (List.perm_append_comm_assoc _ _ _))).trans (List.perm_append_comm_assoc _ _ _))).trans (List.perm_append_comm_assoc _ _ _))).trans (List.perm_append_comm_assoc _ _ _))).trans (List.perm_append_comm_assoc _ _ _))).trans (List.perm_append_comm_assoc _ _ _))).trans (List.perm_append_comm_assoc _ _ _))).trans (List.perm_append_comm_assoc _ _ _))).trans (List.perm_append_comm_assoc _ _ _))).trans (List.perm_append_comm_assoc _ _ _))).trans (List.perm_append_comm_assoc _ _ _)) ?_
  refine lm_sheet C hW hk H_ref (fun rr f_lanesZ f_lengthsZ f_cellsZ wmZ H_refZ hE => ?_)
  refine ww_perm (ws' := [(hx, .inr (11, [.ref h, .ref qp, .int (nI ac), .int (nI np), .ref qs, .ref qj, .ref ly, .ref qh, .ref kk, .int (nI kc), .ref rd, .ref pg, .int (nI pe), .int kn, .ref ss]))] ++ (w_now ++ (w_past ++ (w_pars ++ (w_judg ++ (w_layr ++ (w_heap ++ (w_kept ++ (w_rnds ++ (w_plnr ++ (w_shts ++ (wmZ ++ ro)))))))))))) ((List.Perm.append_left _ ((List.Perm.append_left _ ((List.Perm.append_left _ ((List.Perm.append_left _ ((List.Perm.append_left _ ((List.Perm.append_left _ ((List.Perm.append_left _ ((List.Perm.append_left _ ((List.Perm.append_left _ ((List.Perm.append_left _ ((List.Perm.append_left _ (List.Perm.refl _)).trans (List.perm_append_comm_assoc _ _ _))).trans (List.perm_append_comm_assoc _ _ _))).trans (List.perm_append_comm_assoc _ _ _))).trans (List.perm_append_comm_assoc _ _ _))).trans (List.perm_append_comm_assoc _ _ _))).trans (List.perm_append_comm_assoc _ _ _))).trans (List.perm_append_comm_assoc _ _ _))).trans (List.perm_append_comm_assoc _ _ _))).trans (List.perm_append_comm_assoc _ _ _))).trans (List.perm_append_comm_assoc _ _ _))).trans (List.perm_append_comm_assoc _ _ _)).symm ?_
  exact kont rr f_lanesZ f_lengthsZ f_cellsZ _ ⟨h, qp, qs, qj, ly, qh, kk, rd, pg, ss, w_now, w_past, w_pars, w_judg, w_layr, w_heap, w_kept, w_rnds, w_plnr, w_shts, wmZ, ro, hac, hnp, hkc, hpe, H_now, H_past, H_pars, H_judg, H_layr, H_heap, H_kept, H_rnds, H_plnr, H_shts, H_refZ, rfl⟩ hE
set_option maxRecDepth 100000 in
theorem my_write {X : XT} {E : EV} {ws : va_W} {lv : List (Nat × Value)} {rest : List Value} {kC nC : Nat} {hx hm : Nat} {tl : Nat} {ct : Nat → Int} {pe : Nat} {kn : Int32} {ac : Nat} {np : Nat} {kc : Nat} {mN : AM} {pV : Nat → AM} {kV : Nat → AM} {st : Nat → Nat} {sn : Nat → Nat} {sl : Nat → Nat} {scx : Nat → Nat → Int32} {tT : Nat → Option SVal} {ec : Nat → Nat} {er : Nat → Nat} {ed : Nat → Nat → Int32} {eT : Nat → Nat → Option SVal} {eb : Nat → Nat → Int32} {en : Nat → Nat → Int32} {q_undos : Nat} {q_models : Nat} {PGv : Nat → AM} {f_afterOf : Nat → Int32} {f_actMany : Nat → Int32} {f_actOf : Nat → Int32} {f_whom : Nat → Int32} {f_hasIf : Nat → Int32} {f_becomes : Nat → Int32} {f_goneOf : Nat → Int32} {q_taped : Nat} {cr : Nat → Int} {q_people : Nat} {f_secrets : Nat → Int32} {f_lanes : Nat → Int32} {f_lengths : Nat → Int32} {f_cells : Nat → Int32} {f_tokens : Nat → Int32} {f_afters : Nat → Int32} {f_caseMany : Nat → Int32} {f_happen : Nat → Int32} {f_heard : Nat → Int32} {v0 : Int32} {v1 : Int32} {v2 : Int32} (C : CX X room_1 cL_law 4 RL ret E) (hW : Nat.ble (rest.map fun v => v.category).sum 8 = true) (hk : kC ≤ 600000 ∧ nC ≤ 7302250) (hS : ST E hx hm tl ct pe kn ac np kc mN pV kV st sn sl scx tT ec er ed eT eb en q_undos q_models PGv f_afterOf f_actMany f_actOf f_whom f_hasIf f_becomes f_goneOf q_taped cr q_people f_secrets f_lanes f_lengths f_cells f_tokens f_afters f_caseMany f_happen f_heard ws) (kont : ∀ (rr : Int32) (f_cellsZ : Nat → Int32) (wsZ : va_W), ST E hx hm tl ct pe kn ac np kc mN pV kV st sn sl scx tT ec er ed eT eb en q_undos q_models PGv f_afterOf f_actMany f_actOf f_whom f_hasIf f_becomes f_goneOf q_taped cr q_people f_secrets f_lanes f_lengths f_cellsZ f_tokens f_afters f_caseMany f_happen f_heard wsZ → (((v0.toInt < 0 ∨ 3 < v0.toInt) ∧ rr = -1 ∧ f_cellsZ = f_cells) ∨ ∃ k_ : Nat, v0 = nI k_ ∧ k_ ≤ 3 ∧ ((f_lanes k_ = -4 ∧ rr = -11 ∧ f_cellsZ = f_cells) ∨ (f_lanes k_ ≠ -4 ∧ (v1.toInt < 0 ∨ ((cN f_lengths k_ : Nat) : Int) ≤ v1.toInt) ∧ rr = -12 ∧ f_cellsZ = f_cells) ∨ (f_lanes k_ ≠ -4 ∧ (0 ≤ v1.toInt ∧ v1.toInt < ((cN f_lengths k_ : Nat) : Int)) ∧ rr = 1 ∧ ∃ i_ : Nat, v1 = nI i_ ∧ i_ < 48 ∧ upd f_cells (48 * k_ + i_) (putw (f_lanes k_) v2) = f_cellsZ))) → WW X 4 E 1359 lv (.int rr :: rest) wsZ kC nC) : WW X 4 E 1356 lv (.int v2 :: .int v1 :: .int v0 :: .ref hm :: rest) ws kC nC := by
  unfold ST at hS
  refine ex8 hS ?_
  clear hS
  intro h qp qs qj ly qh kk rd hS
  refine ex8 hS ?_
  clear hS
  intro pg ss w_now w_past w_pars w_judg w_layr w_heap hS
  refine ex6 hS ?_
  clear hS
  intro w_kept w_rnds w_plnr w_shts wm ro hS
  refine an8 hS ?_
  clear hS
  intro hac hnp hkc hpe H_now H_past H_pars H_judg hS
  refine an7 hS ?_
  clear hS
  intro H_layr H_heap H_kept H_rnds H_plnr H_shts H_ref hS
  have we_st := hS
  clear hS
  subst we_st
  refine ww_perm (ws' := wm ++ ([(hx, .inr (11, [.ref h, .ref qp, .int (nI ac), .int (nI np), .ref qs, .ref qj, .ref ly, .ref qh, .ref kk, .int (nI kc), .ref rd, .ref pg, .int (nI pe), .int kn, .ref ss]))] ++ (w_now ++ (w_past ++ (w_pars ++ (w_judg ++ (w_layr ++ (w_heap ++ (w_kept ++ (w_rnds ++ (w_plnr ++ (w_shts ++ ro)))))))))))) ((List.Perm.append_left _ ((List.Perm.append_left _ ((List.Perm.append_left _ ((List.Perm.append_left _ ((List.Perm.append_left _ ((List.Perm.append_left _ ((List.Perm.append_left _ ((List.Perm.append_left _ ((List.Perm.append_left _ ((List.Perm.append_left _ ((List.Perm.append_left _ (List.Perm.refl _)).trans (List.perm_append_comm_assoc _ _ _))).trans (List.perm_append_comm_assoc _ _ _))).trans (List.perm_append_comm_assoc _ _ _))).trans (List.perm_append_comm_assoc _ _ _))).trans (List.perm_append_comm_assoc _ _ _))).trans (List.perm_append_comm_assoc _ _ _))).trans (List.perm_append_comm_assoc _ _ _))).trans (List.perm_append_comm_assoc _ _ _))).trans (List.perm_append_comm_assoc _ _ _))).trans (List.perm_append_comm_assoc _ _ _))).trans (List.perm_append_comm_assoc _ _ _)) ?_
  refine lm_write C hW hk H_ref (fun rr f_cellsZ wmZ H_refZ hE => ?_)
  refine ww_perm (ws' := [(hx, .inr (11, [.ref h, .ref qp, .int (nI ac), .int (nI np), .ref qs, .ref qj, .ref ly, .ref qh, .ref kk, .int (nI kc), .ref rd, .ref pg, .int (nI pe), .int kn, .ref ss]))] ++ (w_now ++ (w_past ++ (w_pars ++ (w_judg ++ (w_layr ++ (w_heap ++ (w_kept ++ (w_rnds ++ (w_plnr ++ (w_shts ++ (wmZ ++ ro)))))))))))) ((List.Perm.append_left _ ((List.Perm.append_left _ ((List.Perm.append_left _ ((List.Perm.append_left _ ((List.Perm.append_left _ ((List.Perm.append_left _ ((List.Perm.append_left _ ((List.Perm.append_left _ ((List.Perm.append_left _ ((List.Perm.append_left _ ((List.Perm.append_left _ (List.Perm.refl _)).trans (List.perm_append_comm_assoc _ _ _))).trans (List.perm_append_comm_assoc _ _ _))).trans (List.perm_append_comm_assoc _ _ _))).trans (List.perm_append_comm_assoc _ _ _))).trans (List.perm_append_comm_assoc _ _ _))).trans (List.perm_append_comm_assoc _ _ _))).trans (List.perm_append_comm_assoc _ _ _))).trans (List.perm_append_comm_assoc _ _ _))).trans (List.perm_append_comm_assoc _ _ _))).trans (List.perm_append_comm_assoc _ _ _))).trans (List.perm_append_comm_assoc _ _ _)).symm ?_
  exact kont rr f_cellsZ _ ⟨h, qp, qs, qj, ly, qh, kk, rd, pg, ss, w_now, w_past, w_pars, w_judg, w_layr, w_heap, w_kept, w_rnds, w_plnr, w_shts, wmZ, ro, hac, hnp, hkc, hpe, H_now, H_past, H_pars, H_judg, H_layr, H_heap, H_kept, H_rnds, H_plnr, H_shts, H_refZ, rfl⟩ hE
set_option maxRecDepth 100000 in
theorem my_read {X : XT} {E : EV} {ws : va_W} {lv : List (Nat × Value)} {rest : List Value} {kC nC : Nat} {hx hm : Nat} {tl : Nat} {ct : Nat → Int} {pe : Nat} {kn : Int32} {ac : Nat} {np : Nat} {kc : Nat} {mN : AM} {pV : Nat → AM} {kV : Nat → AM} {st : Nat → Nat} {sn : Nat → Nat} {sl : Nat → Nat} {scx : Nat → Nat → Int32} {tT : Nat → Option SVal} {ec : Nat → Nat} {er : Nat → Nat} {ed : Nat → Nat → Int32} {eT : Nat → Nat → Option SVal} {eb : Nat → Nat → Int32} {en : Nat → Nat → Int32} {q_undos : Nat} {q_models : Nat} {PGv : Nat → AM} {f_afterOf : Nat → Int32} {f_actMany : Nat → Int32} {f_actOf : Nat → Int32} {f_whom : Nat → Int32} {f_hasIf : Nat → Int32} {f_becomes : Nat → Int32} {f_goneOf : Nat → Int32} {q_taped : Nat} {cr : Nat → Int} {q_people : Nat} {f_secrets : Nat → Int32} {f_lanes : Nat → Int32} {f_lengths : Nat → Int32} {f_cells : Nat → Int32} {f_tokens : Nat → Int32} {f_afters : Nat → Int32} {f_caseMany : Nat → Int32} {f_happen : Nat → Int32} {f_heard : Nat → Int32} {v0 : Int32} {v1 : Int32} {v2 : Int32} {v3 : Int32} (C : CX X room_1 cL_law 4 RL ret E) (hW : Nat.ble (rest.map fun v => v.category).sum 8 = true) (hk : kC ≤ 600000 ∧ nC ≤ 7302250) (hS : ST E hx hm tl ct pe kn ac np kc mN pV kV st sn sl scx tT ec er ed eT eb en q_undos q_models PGv f_afterOf f_actMany f_actOf f_whom f_hasIf f_becomes f_goneOf q_taped cr q_people f_secrets f_lanes f_lengths f_cells f_tokens f_afters f_caseMany f_happen f_heard ws) (kont : ∀ (rr : Int32) (q_undosZ : Nat) (PGvZ : Nat → AM) (wsZ : va_W), ST E hx hm tl ct pe kn ac np kc mN pV kV st sn sl scx tT ec er ed eT eb en q_undosZ q_models PGvZ f_afterOf f_actMany f_actOf f_whom f_hasIf f_becomes f_goneOf q_taped cr q_people f_secrets f_lanes f_lengths f_cells f_tokens f_afters f_caseMany f_happen f_heard wsZ → ((((v0.toInt < 0 ∨ 3 < v0.toInt ∨ v1.toInt < 0 ∨ 2 < v1.toInt ∨ v3.toInt < 0 ∨ 24 < v3.toInt) ∧ rr = -1) ∨ ∃ k_ l_ n_ : Nat, v0 = nI k_ ∧ v1 = nI l_ ∧ v3 = nI n_ ∧ k_ ≤ 3 ∧ l_ ≤ 2 ∧ n_ ≤ 24 ∧ rr = rdB (f_lanes k_) (cN f_lengths k_) (fun j => f_cells (48 * k_ + j)) l_ v2 n_) ∧ ((rr.toInt < 0 ∧ asM q_undosZ PGvZ = asM q_undos PGv) ∨ ∃ k_ n_ : Nat, v0 = nI k_ ∧ k_ ≤ 3 ∧ v3 = nI n_ ∧ n_ ≤ 24 ∧ rr = nI n_ ∧ asM q_undosZ PGvZ = aRem (asM q_undos PGv) (aRd (fun i_ => f_cells (48 * k_ + (v2.toInt.toNat + i_))) n_)) ∧ KP6 PGv PGvZ) → WW X 4 E 1412 lv (.int rr :: rest) wsZ kC nC) : WW X 4 E 1409 lv (.int v3 :: .int v2 :: .int v1 :: .int v0 :: .ref hm :: rest) ws kC nC := by
  unfold ST at hS
  refine ex8 hS ?_
  clear hS
  intro h qp qs qj ly qh kk rd hS
  refine ex8 hS ?_
  clear hS
  intro pg ss w_now w_past w_pars w_judg w_layr w_heap hS
  refine ex6 hS ?_
  clear hS
  intro w_kept w_rnds w_plnr w_shts wm ro hS
  refine an8 hS ?_
  clear hS
  intro hac hnp hkc hpe H_now H_past H_pars H_judg hS
  refine an7 hS ?_
  clear hS
  intro H_layr H_heap H_kept H_rnds H_plnr H_shts H_ref hS
  have we_st := hS
  clear hS
  subst we_st
  refine ww_perm (ws' := wm ++ ([(hx, .inr (11, [.ref h, .ref qp, .int (nI ac), .int (nI np), .ref qs, .ref qj, .ref ly, .ref qh, .ref kk, .int (nI kc), .ref rd, .ref pg, .int (nI pe), .int kn, .ref ss]))] ++ (w_now ++ (w_past ++ (w_pars ++ (w_judg ++ (w_layr ++ (w_heap ++ (w_kept ++ (w_rnds ++ (w_plnr ++ (w_shts ++ ro)))))))))))) ((List.Perm.append_left _ ((List.Perm.append_left _ ((List.Perm.append_left _ ((List.Perm.append_left _ ((List.Perm.append_left _ ((List.Perm.append_left _ ((List.Perm.append_left _ ((List.Perm.append_left _ ((List.Perm.append_left _ ((List.Perm.append_left _ ((List.Perm.append_left _ (List.Perm.refl _)).trans (List.perm_append_comm_assoc _ _ _))).trans (List.perm_append_comm_assoc _ _ _))).trans (List.perm_append_comm_assoc _ _ _))).trans (List.perm_append_comm_assoc _ _ _))).trans (List.perm_append_comm_assoc _ _ _))).trans (List.perm_append_comm_assoc _ _ _))).trans (List.perm_append_comm_assoc _ _ _))).trans (List.perm_append_comm_assoc _ _ _))).trans (List.perm_append_comm_assoc _ _ _))).trans (List.perm_append_comm_assoc _ _ _))).trans (List.perm_append_comm_assoc _ _ _)) ?_
  refine lm_read C hW hk H_ref (fun rr q_undosZ PGvZ wmZ H_refZ hE => ?_)
  refine ww_perm (ws' := [(hx, .inr (11, [.ref h, .ref qp, .int (nI ac), .int (nI np), .ref qs, .ref qj, .ref ly, .ref qh, .ref kk, .int (nI kc), .ref rd, .ref pg, .int (nI pe), .int kn, .ref ss]))] ++ (w_now ++ (w_past ++ (w_pars ++ (w_judg ++ (w_layr ++ (w_heap ++ (w_kept ++ (w_rnds ++ (w_plnr ++ (w_shts ++ (wmZ ++ ro)))))))))))) ((List.Perm.append_left _ ((List.Perm.append_left _ ((List.Perm.append_left _ ((List.Perm.append_left _ ((List.Perm.append_left _ ((List.Perm.append_left _ ((List.Perm.append_left _ ((List.Perm.append_left _ ((List.Perm.append_left _ ((List.Perm.append_left _ ((List.Perm.append_left _ (List.Perm.refl _)).trans (List.perm_append_comm_assoc _ _ _))).trans (List.perm_append_comm_assoc _ _ _))).trans (List.perm_append_comm_assoc _ _ _))).trans (List.perm_append_comm_assoc _ _ _))).trans (List.perm_append_comm_assoc _ _ _))).trans (List.perm_append_comm_assoc _ _ _))).trans (List.perm_append_comm_assoc _ _ _))).trans (List.perm_append_comm_assoc _ _ _))).trans (List.perm_append_comm_assoc _ _ _))).trans (List.perm_append_comm_assoc _ _ _))).trans (List.perm_append_comm_assoc _ _ _)).symm ?_
  exact kont rr q_undosZ PGvZ _ ⟨h, qp, qs, qj, ly, qh, kk, rd, pg, ss, w_now, w_past, w_pars, w_judg, w_layr, w_heap, w_kept, w_rnds, w_plnr, w_shts, wmZ, ro, hac, hnp, hkc, hpe, H_now, H_past, H_pars, H_judg, H_layr, H_heap, H_kept, H_rnds, H_plnr, H_shts, H_refZ, rfl⟩ hE
set_option maxRecDepth 100000 in
theorem my_undo {X : XT} {E : EV} {ws : va_W} {lv : List (Nat × Value)} {rest : List Value} {kC nC : Nat} {hx hm : Nat} {tl : Nat} {ct : Nat → Int} {pe : Nat} {kn : Int32} {ac : Nat} {np : Nat} {kc : Nat} {mN : AM} {pV : Nat → AM} {kV : Nat → AM} {st : Nat → Nat} {sn : Nat → Nat} {sl : Nat → Nat} {scx : Nat → Nat → Int32} {tT : Nat → Option SVal} {ec : Nat → Nat} {er : Nat → Nat} {ed : Nat → Nat → Int32} {eT : Nat → Nat → Option SVal} {eb : Nat → Nat → Int32} {en : Nat → Nat → Int32} {q_undos : Nat} {q_models : Nat} {PGv : Nat → AM} {f_afterOf : Nat → Int32} {f_actMany : Nat → Int32} {f_actOf : Nat → Int32} {f_whom : Nat → Int32} {f_hasIf : Nat → Int32} {f_becomes : Nat → Int32} {f_goneOf : Nat → Int32} {q_taped : Nat} {cr : Nat → Int} {q_people : Nat} {f_secrets : Nat → Int32} {f_lanes : Nat → Int32} {f_lengths : Nat → Int32} {f_cells : Nat → Int32} {f_tokens : Nat → Int32} {f_afters : Nat → Int32} {f_caseMany : Nat → Int32} {f_happen : Nat → Int32} {f_heard : Nat → Int32}  (C : CX X room_1 cL_law 4 RL ret E) (hW : Nat.ble (rest.map fun v => v.category).sum 8 = true) (hk : kC ≤ 600000 ∧ nC ≤ 7302250) (hS : ST E hx hm tl ct pe kn ac np kc mN pV kV st sn sl scx tT ec er ed eT eb en q_undos q_models PGv f_afterOf f_actMany f_actOf f_whom f_hasIf f_becomes f_goneOf q_taped cr q_people f_secrets f_lanes f_lengths f_cells f_tokens f_afters f_caseMany f_happen f_heard ws) (kont : ∀ (rr : Int32) (q_undosZ : Nat) (PGvZ : Nat → AM) (wsZ : va_W), ST E hx hm tl ct pe kn ac np kc mN pV kV st sn sl scx tT ec er ed eT eb en q_undosZ q_models PGvZ f_afterOf f_actMany f_actOf f_whom f_hasIf f_becomes f_goneOf q_taped cr q_people f_secrets f_lanes f_lengths f_cells f_tokens f_afters f_caseMany f_happen f_heard wsZ → (((asM q_undosZ PGvZ), rr) = opUndo (asM q_undos PGv) ∧ KP6 PGv PGvZ) → WW X 4 E 1425 lv (.int rr :: rest) wsZ kC nC) : WW X 4 E 1422 lv (.ref hm :: rest) ws kC nC := by
  unfold ST at hS
  refine ex8 hS ?_
  clear hS
  intro h qp qs qj ly qh kk rd hS
  refine ex8 hS ?_
  clear hS
  intro pg ss w_now w_past w_pars w_judg w_layr w_heap hS
  refine ex6 hS ?_
  clear hS
  intro w_kept w_rnds w_plnr w_shts wm ro hS
  refine an8 hS ?_
  clear hS
  intro hac hnp hkc hpe H_now H_past H_pars H_judg hS
  refine an7 hS ?_
  clear hS
  intro H_layr H_heap H_kept H_rnds H_plnr H_shts H_ref hS
  have we_st := hS
  clear hS
  subst we_st
  refine ww_perm (ws' := wm ++ ([(hx, .inr (11, [.ref h, .ref qp, .int (nI ac), .int (nI np), .ref qs, .ref qj, .ref ly, .ref qh, .ref kk, .int (nI kc), .ref rd, .ref pg, .int (nI pe), .int kn, .ref ss]))] ++ (w_now ++ (w_past ++ (w_pars ++ (w_judg ++ (w_layr ++ (w_heap ++ (w_kept ++ (w_rnds ++ (w_plnr ++ (w_shts ++ ro)))))))))))) ((List.Perm.append_left _ ((List.Perm.append_left _ ((List.Perm.append_left _ ((List.Perm.append_left _ ((List.Perm.append_left _ ((List.Perm.append_left _ ((List.Perm.append_left _ ((List.Perm.append_left _ ((List.Perm.append_left _ ((List.Perm.append_left _ ((List.Perm.append_left _ (List.Perm.refl _)).trans (List.perm_append_comm_assoc _ _ _))).trans (List.perm_append_comm_assoc _ _ _))).trans (List.perm_append_comm_assoc _ _ _))).trans (List.perm_append_comm_assoc _ _ _))).trans (List.perm_append_comm_assoc _ _ _))).trans (List.perm_append_comm_assoc _ _ _))).trans (List.perm_append_comm_assoc _ _ _))).trans (List.perm_append_comm_assoc _ _ _))).trans (List.perm_append_comm_assoc _ _ _))).trans (List.perm_append_comm_assoc _ _ _))).trans (List.perm_append_comm_assoc _ _ _)) ?_
  refine lm_undo C hW hk H_ref (fun rr q_undosZ PGvZ wmZ H_refZ hE => ?_)
  refine ww_perm (ws' := [(hx, .inr (11, [.ref h, .ref qp, .int (nI ac), .int (nI np), .ref qs, .ref qj, .ref ly, .ref qh, .ref kk, .int (nI kc), .ref rd, .ref pg, .int (nI pe), .int kn, .ref ss]))] ++ (w_now ++ (w_past ++ (w_pars ++ (w_judg ++ (w_layr ++ (w_heap ++ (w_kept ++ (w_rnds ++ (w_plnr ++ (w_shts ++ (wmZ ++ ro)))))))))))) ((List.Perm.append_left _ ((List.Perm.append_left _ ((List.Perm.append_left _ ((List.Perm.append_left _ ((List.Perm.append_left _ ((List.Perm.append_left _ ((List.Perm.append_left _ ((List.Perm.append_left _ ((List.Perm.append_left _ ((List.Perm.append_left _ ((List.Perm.append_left _ (List.Perm.refl _)).trans (List.perm_append_comm_assoc _ _ _))).trans (List.perm_append_comm_assoc _ _ _))).trans (List.perm_append_comm_assoc _ _ _))).trans (List.perm_append_comm_assoc _ _ _))).trans (List.perm_append_comm_assoc _ _ _))).trans (List.perm_append_comm_assoc _ _ _))).trans (List.perm_append_comm_assoc _ _ _))).trans (List.perm_append_comm_assoc _ _ _))).trans (List.perm_append_comm_assoc _ _ _))).trans (List.perm_append_comm_assoc _ _ _))).trans (List.perm_append_comm_assoc _ _ _)).symm ?_
  exact kont rr q_undosZ PGvZ _ ⟨h, qp, qs, qj, ly, qh, kk, rd, pg, ss, w_now, w_past, w_pars, w_judg, w_layr, w_heap, w_kept, w_rnds, w_plnr, w_shts, wmZ, ro, hac, hnp, hkc, hpe, H_now, H_past, H_pars, H_judg, H_layr, H_heap, H_kept, H_rnds, H_plnr, H_shts, H_refZ, rfl⟩ hE
set_option maxRecDepth 100000 in
theorem my_count {X : XT} {E : EV} {ws : va_W} {lv : List (Nat × Value)} {rest : List Value} {kC nC : Nat} {hx hm : Nat} {tl : Nat} {ct : Nat → Int} {pe : Nat} {kn : Int32} {ac : Nat} {np : Nat} {kc : Nat} {mN : AM} {pV : Nat → AM} {kV : Nat → AM} {st : Nat → Nat} {sn : Nat → Nat} {sl : Nat → Nat} {scx : Nat → Nat → Int32} {tT : Nat → Option SVal} {ec : Nat → Nat} {er : Nat → Nat} {ed : Nat → Nat → Int32} {eT : Nat → Nat → Option SVal} {eb : Nat → Nat → Int32} {en : Nat → Nat → Int32} {q_undos : Nat} {q_models : Nat} {PGv : Nat → AM} {f_afterOf : Nat → Int32} {f_actMany : Nat → Int32} {f_actOf : Nat → Int32} {f_whom : Nat → Int32} {f_hasIf : Nat → Int32} {f_becomes : Nat → Int32} {f_goneOf : Nat → Int32} {q_taped : Nat} {cr : Nat → Int} {q_people : Nat} {f_secrets : Nat → Int32} {f_lanes : Nat → Int32} {f_lengths : Nat → Int32} {f_cells : Nat → Int32} {f_tokens : Nat → Int32} {f_afters : Nat → Int32} {f_caseMany : Nat → Int32} {f_happen : Nat → Int32} {f_heard : Nat → Int32} {v0 : Int32} (C : CX X room_1 cL_law 4 RL ret E) (hW : Nat.ble (rest.map fun v => v.category).sum 8 = true) (hk : kC ≤ 600000 ∧ nC ≤ 7302250) (hS : ST E hx hm tl ct pe kn ac np kc mN pV kV st sn sl scx tT ec er ed eT eb en q_undos q_models PGv f_afterOf f_actMany f_actOf f_whom f_hasIf f_becomes f_goneOf q_taped cr q_people f_secrets f_lanes f_lengths f_cells f_tokens f_afters f_caseMany f_happen f_heard ws) (kont : ∀ (rr : Int32) (wsZ : va_W), ST E hx hm tl ct pe kn ac np kc mN pV kV st sn sl scx tT ec er ed eT eb en q_undos q_models PGv f_afterOf f_actMany f_actOf f_whom f_hasIf f_becomes f_goneOf q_taped cr q_people f_secrets f_lanes f_lengths f_cells f_tokens f_afters f_caseMany f_happen f_heard wsZ → (rr = ansCnt (PGv 0).1 (PGv 0).2.1 (cb (fun k => decide (0 < (f_tokens k).toInt)) 8) (cb (fun e => decide (0 < cN f_caseMany e)) 4) q_models q_undos q_people q_taped (if f_lanes 0 = -4 then -4 else nI (cN f_lengths 0)) v0) → WW X 4 E 1448 lv (.int rr :: rest) wsZ kC nC) : WW X 4 E 1445 lv (.int v0 :: .ref hm :: rest) ws kC nC := by
  unfold ST at hS
  refine ex8 hS ?_
  clear hS
  intro h qp qs qj ly qh kk rd hS
  refine ex8 hS ?_
  clear hS
  intro pg ss w_now w_past w_pars w_judg w_layr w_heap hS
  refine ex6 hS ?_
  clear hS
  intro w_kept w_rnds w_plnr w_shts wm ro hS
  refine an8 hS ?_
  clear hS
  intro hac hnp hkc hpe H_now H_past H_pars H_judg hS
  refine an7 hS ?_
  clear hS
  intro H_layr H_heap H_kept H_rnds H_plnr H_shts H_ref hS
  have we_st := hS
  clear hS
  subst we_st
  refine ww_perm (ws' := wm ++ ([(hx, .inr (11, [.ref h, .ref qp, .int (nI ac), .int (nI np), .ref qs, .ref qj, .ref ly, .ref qh, .ref kk, .int (nI kc), .ref rd, .ref pg, .int (nI pe), .int kn, .ref ss]))] ++ (w_now ++ (w_past ++ (w_pars ++ (w_judg ++ (w_layr ++ (w_heap ++ (w_kept ++ (w_rnds ++ (w_plnr ++ (w_shts ++ ro)))))))))))) ((List.Perm.append_left _ ((List.Perm.append_left _ ((List.Perm.append_left _ ((List.Perm.append_left _ ((List.Perm.append_left _ ((List.Perm.append_left _ ((List.Perm.append_left _ ((List.Perm.append_left _ ((List.Perm.append_left _ ((List.Perm.append_left _ ((List.Perm.append_left _ (List.Perm.refl _)).trans (List.perm_append_comm_assoc _ _ _))).trans (List.perm_append_comm_assoc _ _ _))).trans (List.perm_append_comm_assoc _ _ _))).trans (List.perm_append_comm_assoc _ _ _))).trans (List.perm_append_comm_assoc _ _ _))).trans (List.perm_append_comm_assoc _ _ _))).trans (List.perm_append_comm_assoc _ _ _))).trans (List.perm_append_comm_assoc _ _ _))).trans (List.perm_append_comm_assoc _ _ _))).trans (List.perm_append_comm_assoc _ _ _))).trans (List.perm_append_comm_assoc _ _ _)) ?_
  refine lm_count C hW hk H_ref (fun rr wmZ H_refZ hE => ?_)
  refine ww_perm (ws' := [(hx, .inr (11, [.ref h, .ref qp, .int (nI ac), .int (nI np), .ref qs, .ref qj, .ref ly, .ref qh, .ref kk, .int (nI kc), .ref rd, .ref pg, .int (nI pe), .int kn, .ref ss]))] ++ (w_now ++ (w_past ++ (w_pars ++ (w_judg ++ (w_layr ++ (w_heap ++ (w_kept ++ (w_rnds ++ (w_plnr ++ (w_shts ++ (wmZ ++ ro)))))))))))) ((List.Perm.append_left _ ((List.Perm.append_left _ ((List.Perm.append_left _ ((List.Perm.append_left _ ((List.Perm.append_left _ ((List.Perm.append_left _ ((List.Perm.append_left _ ((List.Perm.append_left _ ((List.Perm.append_left _ ((List.Perm.append_left _ ((List.Perm.append_left _ (List.Perm.refl _)).trans (List.perm_append_comm_assoc _ _ _))).trans (List.perm_append_comm_assoc _ _ _))).trans (List.perm_append_comm_assoc _ _ _))).trans (List.perm_append_comm_assoc _ _ _))).trans (List.perm_append_comm_assoc _ _ _))).trans (List.perm_append_comm_assoc _ _ _))).trans (List.perm_append_comm_assoc _ _ _))).trans (List.perm_append_comm_assoc _ _ _))).trans (List.perm_append_comm_assoc _ _ _))).trans (List.perm_append_comm_assoc _ _ _))).trans (List.perm_append_comm_assoc _ _ _)).symm ?_
  exact kont rr  _ ⟨h, qp, qs, qj, ly, qh, kk, rd, pg, ss, w_now, w_past, w_pars, w_judg, w_layr, w_heap, w_kept, w_rnds, w_plnr, w_shts, wmZ, ro, hac, hnp, hkc, hpe, H_now, H_past, H_pars, H_judg, H_layr, H_heap, H_kept, H_rnds, H_plnr, H_shts, H_refZ, rfl⟩ hE
end
section
theorem cb_24 {x : Int32} (h : ∀ b, b < 32 → bt x b = true → b < 4) : cb (bt x) 24 = cb (bt x) 32 := by
  have e : cb (bt x) 32 = cb (bt x) 24 + cb (fun i => bt x (24 + i)) 8 := by rw [← cb_add]
  rw [e, cb_zero (f := fun i => bt x (24 + i)) (fun i hi => by
    cases hb : bt x (24 + i) with
    | false => rfl
    | true => have := h (24 + i) (by omega) hb; omega), Nat.add_zero]
/-- both sides' sheets -/
def SHE (st sn sl : Nat → Nat) (fl fn : Nat → Int32) : Prop := ∀ k, k < 4 → ((st k = 0 ∧ fl k = -4) ∨ (st k = 1 ∧ fl k = nI (sl k) ∧ sl k ≤ 2)) ∧ fn k = nI (sn k) ∧ sn k ≤ 48
theorem SHE.put {st sn sl st' sn' sl' : Nat → Nat} {fl fn fl' fn' : Nat → Int32} {k l n : Nat} (h : SHE st sn sl fl fn) (hl : l ≤ 2) (hn : n ≤ 48) (h1 : ∀ i, i < 4 → st' i = if i = k then 1 else st i) (h2 : ∀ i, i < 4 → sn' i = if i = k then n else sn i) (h3 : ∀ i, i < 4 → sl' i = if i = k then l else sl i) (e1 : upd fl k (nI l) = fl') (e2 : upd fn k (nI n) = fn') : SHE st' sn' sl' fl' fn' := by
  intro i hi
  rw [h1 i hi, h2 i hi, h3 i hi]
  by_cases hk : i = k
  · subst hk
    rw [if_pos rfl, if_pos rfl, if_pos rfl, ← e1, ← e2, pk_us, pk_us]
    exact ⟨Or.inr ⟨rfl, rfl, hl⟩, rfl, hn⟩
  · rw [if_neg hk, if_neg hk, if_neg hk, ← e1, ← e2, pk_un hk, pk_un hk]
    exact h i hi
theorem SHE.len {st sn sl : Nat → Nat} {fl fn : Nat → Int32} {k : Nat} (h : SHE st sn sl fl fn) (hk : k < 4) : cN fn k = sn k := by
  have h1 := h k hk
  unfold cN; rw [h1.2.1]; exact nI_clamp (by omega)
theorem SHE.no {st sn sl : Nat → Nat} {fl fn : Nat → Int32} {k : Nat} (h : SHE st sn sl fl fn) (hk : k < 4) : (st k = 0 ∧ fl k = -4) ∨ (st k = 1 ∧ fl k ≠ -4) := by
  rcases (h k hk).1 with q | ⟨q1, q2, q3⟩
  · exact Or.inl q
  · refine Or.inr ⟨q1, fun e => ?_⟩
    rw [q2] at e
    have h1 := nI_toInt (n := sl k) (by omega)
    rw [e] at h1
    have e4 : (-4 : Int32).toInt = -4 := rfl
    omega
/-- both sides' secrets -/
def SEC (pe : Nat) (kn : Int32) (fs : Nat → Int32) : Prop := ∀ i, i < pe → fs i = sc kn i
theorem SEC.call {pe i j : Nat} {kn : Int32} {fs fs' : Nat → Int32} (h : SEC pe kn fs) (hp : pe ≤ 4) (hi : i < pe) (hj : j < pe) (e : upd (upd fs i (fs i ||| fs j)) j (fs i ||| fs j) = fs') : SEC pe (cl kn i j) fs' := by
  intro m hm
  rw [sc_cl (by omega) (by omega) (by omega), ← e, h i hi, h j hj]
  by_cases h1 : m = j
  · subst h1; rw [pk_us, if_pos (Or.inr rfl)]
  · rw [pk_un h1]
    by_cases h2 : m = i
    · subst h2; rw [pk_us, if_pos (Or.inl rfl)]
    · rw [pk_un h2, if_neg (by omega), h m hm]
theorem SEC.ans {pe i j : Nat} {kn : Int32} {fs : Nat → Int32} (h : SEC pe kn fs) (hp : pe ≤ 4) (hi : i < pe) (hj : j < pe) : bcf (sc (cl kn i j) i) = nI (cb (bt (fs i ||| fs j)) 24) := by
  rw [sc_cl (by omega) (by omega) (by omega), if_pos (Or.inl rfl), h i hi, h j hj, bcf_bt]
  congr 1
  symm
  apply cb_24
  intro b hb hbt
  rw [y_b (by omega) (by omega) hb] at hbt
  by_cases h4 : b < 4
  · exact h4
  · rw [decide_eq_false h4, Bool.false_and] at hbt; cases hbt
/-- who can tell all to all -/
def CPK (pe : Nat) (kn : Int32) : Prop := pe = 0 ∨ (2 ≤ pe ∧ cpK pe (sc kn))
theorem CPK.call {pe i j : Nat} {kn : Int32} (h : CPK pe kn) (h4 : pe ≤ 4) (hi : i < pe) (hj : j < pe) : CPK pe (cl kn i j) :=
  h.elim Or.inl (fun q => Or.inr ⟨q.1, fun m hm => by
    have e : sc (cl kn i j) m = cpC (sc kn) i j m := sc_cl (by omega) (by omega) (by omega)
    rw [e]; exact cpK_call q.2 hi hj m hm⟩)
theorem cpk_2 : cpK 2 (sc 33) := by unfold cpK; decide +kernel
theorem cpk_3 : cpK 3 (sc 1057) := by unfold cpK; decide +kernel
theorem cpk_4 : cpK 4 (sc 33825) := by unfold cpK; decide +kernel
theorem fw_eq {pe : Nat} {kn : Int32} {fs : Nat → Int32} {v r1 r2 : Int32} (hx : FWx pe (cpL pe) (sc kn) v r1) (hm : FWQr pe fs v r2) (hs : SEC pe kn fs) (hk : CPK pe kn) (h4 : pe ≤ 4) : r1 = r2 := by
  have hx2 : FWx pe (cpE pe) (sc kn) v r1 := hx.cg (fun h0 d S => cpL_E (hk.resolve_left h0).1 h4 d S)
  have hks : pe = 0 ∨ (2 ≤ pe ∧ pe ≤ 4 ∧ cpK pe fs) := hk.elim Or.inl (fun h => Or.inr ⟨h.1, h4, fun i hi => by rw [hs i hi]; exact h.2 i hi⟩)
  have hm2 : FWx pe (cpE pe) (sc kn) v r2 := (hm.x hks).cgR hs
  exact FWx.uniq (fun h0 => cpE_4 (hk.resolve_left h0).1 h4 (hk.resolve_left h0).2) hx2 hm2
theorem she0 {fl : Nat → Int32} (h0 : fl 0 = -4) (h1 : fl 1 = -4) (h2 : fl 2 = -4) (h3 : fl 3 = -4) : SHE (pick4 0 0 0 0) (pick4 0 0 0 0) (pick4 0 0 0 0) fl (fun _ => 0) := by
  intro k hk
  rcases (show k = 0 ∨ k = 1 ∨ k = 2 ∨ k = 3 by omega) with rfl | rfl | rfl | rfl
  · exact ⟨Or.inl ⟨rfl, h0⟩, rfl, by decide⟩
  · exact ⟨Or.inl ⟨rfl, h1⟩, rfl, by decide⟩
  · exact ⟨Or.inl ⟨rfl, h2⟩, rfl, by decide⟩
  · exact ⟨Or.inl ⟨rfl, h3⟩, rfl, by decide⟩
/-- both sides' cells -/
def CEL (st sn : Nat → Nat) (sc : Nat → Nat → Int32) (fc : Nat → Int32) : Prop := ∀ k, k < 4 → st k = 1 → ∀ i, i < sn k → sc k i = fc (48 * k + i)
theorem cel0 {sc : Nat → Nat → Int32} {fc : Nat → Int32} : CEL (pick4 0 0 0 0) (pick4 0 0 0 0) sc fc := by
  intro k hk hs
  rcases (show k = 0 ∨ k = 1 ∨ k = 2 ∨ k = 3 by omega) with rfl | rfl | rfl | rfl <;> exact absurd hs (by decide)
theorem CEL.sheet {st sn sl st' sn' : Nat → Nat} {sc sc' : Nat → Nat → Int32} {fl fn fc fc' : Nat → Int32} {k n : Nat} (h : CEL st sn sc fc) (hS : SHE st sn sl fl fn) (hn : n ≤ 48) (h1 : ∀ i, i < 4 → st' i = if i = k then 1 else st i) (h2 : ∀ i, i < 4 → sn' i = if i = k then n else sn i) (hs : ∀ i, i < 4 → i ≠ k → sc' i = sc i) (hz : Z0x n (sc' k)) (hc : CZR k 48 fc fc') : CEL st' sn' sc' fc' := by
  intro i hi ht j hj
  rw [h1 i hi] at ht
  rw [h2 i hi] at hj
  by_cases q : i = k
  · subst q
    rw [if_pos rfl] at hj
    rw [hz j hj, hc.1 j (by omega)]
  · rw [if_neg q] at hj ht
    have h3 := (hS i hi).2.2
    rw [hs i hi q, hc.2 _ (by omega)]
    exact h i hi ht j hj
theorem shl24 (v : Int32) : v <<< ((24 : Int32) &&& 31) >>> ((24 : Int32) &&& 31) = v.toInt8.toInt32 := by
  apply b_ext
  intro i hi
  have e24 : (24 : Int32) = nI 24 := rfl
  rw [e24, b_sshr 24 (by omega) _ hi]
  have h8 : bt (v.toInt8.toInt32) i = if i < 8 then bt v i else bt v 7 := by
    unfold bt
    rw [Int8.toBitVec_toInt32, BitVec.getLsbD_signExtend, Int32.toBitVec_toInt8, BitVec.msb_eq_getLsbD_last, BitVec.getLsbD_signExtend, BitVec.getLsbD_signExtend]
    by_cases q : i < 8
    · simp [hi, q]
    · simp [hi, q]
  rw [h8]
  by_cases q : i < 8
  · rw [if_pos (by omega), if_pos q, b_shl 24 (by omega) _ (by omega)]
    simp [show 24 + i - 24 = i by omega]
  · rw [if_neg (by omega), if_neg q, b_shl 24 (by omega) _ (by omega)]
    simp
theorem shl16 (v : Int32) : v <<< ((16 : Int32) &&& 31) >>> ((16 : Int32) &&& 31) = v.toInt16.toInt32 := by
  apply b_ext
  intro i hi
  have e16 : (16 : Int32) = nI 16 := rfl
  rw [e16, b_sshr 16 (by omega) _ hi]
  have h8 : bt (v.toInt16.toInt32) i = if i < 16 then bt v i else bt v 15 := by
    unfold bt
    rw [Int16.toBitVec_toInt32, BitVec.getLsbD_signExtend, Int32.toBitVec_toInt16, BitVec.msb_eq_getLsbD_last, BitVec.getLsbD_signExtend, BitVec.getLsbD_signExtend]
    by_cases q : i < 16
    · simp [hi, q]
    · simp [hi, q]
  rw [h8]
  by_cases q : i < 16
  · rw [if_pos (by omega), if_pos q, b_shl 16 (by omega) _ (by omega)]
    simp [show 16 + i - 16 = i by omega]
  · rw [if_neg (by omega), if_neg q, b_shl 16 (by omega) _ (by omega)]
    simp
theorem putw_v {l : Nat} {v : Int32} (h : l ≤ 2) : putw (nI l) v = putv l v := by
  unfold putw putv
  rw [nI_toInt (by omega), shl24, shl16]
  rcases (show l = 0 ∨ l = 1 ∨ l = 2 by omega) with rfl | rfl | rfl <;> rfl
theorem CEL.write {st sn sl : Nat → Nat} {sc sc' : Nat → Nat → Int32} {fl fn fc fc' : Nat → Int32} {k i : Nat} {v : Int32} (h : CEL st sn sc fc) (hS : SHE st sn sl fl fn) (hk : k < 4) (hst : st k = 1) (hi : i < 48) (hs : ∀ j, j < 4 → j ≠ k → sc' j = sc j) (e : upd (sc k) i (putv (sl k) v) = sc' k) (e2 : upd fc (48 * k + i) (putw (fl k) v) = fc') : CEL st sn sc' fc' := by
  intro m hm ht j hj
  have h3 := (hS m hm).2.2
  by_cases q : m = k
  · subst q
    rcases (hS m hm).1 with ⟨z1, z2⟩ | ⟨z1, z2, z3⟩
    · omega
    · rw [← e, ← e2, z2, putw_v z3]
      by_cases r : j = i
      · rw [r, pk_us, pk_us]
      · rw [pk_un r, pk_un (by omega)]; exact h m hm ht j hj
  · rw [hs m hm q, ← e2, pk_un (by omega)]; exact h m hm ht j hj
theorem rd_eq {st sn sl : Nat → Nat} {sc : Nat → Nat → Int32} {fl fn fc : Nat → Int32} {k l n : Nat} {f : Int32} (hS : SHE st sn sl fl fn) (h : CEL st sn sc fc) (hk : k < 4) (hl : l ≤ 2) : rdA (st k) (sl k) (sn k) (sc k) l f n = rdB (fl k) (cN fn k) (fun j => fc (48 * k + j)) l f n := by
  have e4 : (-4 : Int32).toInt = -4 := rfl
  rw [SHE.len hS hk]
  rcases (hS k hk).1 with ⟨z1, z2⟩ | ⟨z1, z2, z3⟩
  · rw [← rdB_1 (la := fl k) (by rw [z2, e4]; omega) hl (by rw [z2, e4])]
    unfold rdA
    rw [← chk_0 z1, if_neg (by decide)]
  · by_cases q : sl k = l
    · rw [rdB_3 (by rw [z2, nI_toInt (by omega), q]) hl]
      unfold rdA
      rw [chk_2 (by omega) (by omega), ck_congr (fun j hj => h k hk z1 j hj)]
    · rw [← rdB_2 (la := fl k) (by rw [z2, nI_toInt (by omega)]; omega) hl (by rw [z2, nI_toInt (by omega)]; omega)]
      unfold rdA
      rw [← chk_1 (by omega) (by omega), if_neg (by decide)]
/-- both sides' events -/
def EVQ (ec er : Nat → Nat) (ed : Nat → Nat → Int32) (fc fh fd : Nat → Int32) : Prop := ∀ e, e < 4 → ec e = cN fc e ∧ er e = cN fh e ∧ ∀ c, c < 16 → ed e c = fd (16 * e + c)
theorem evq0 {ed : Nat → Nat → Int32} (h : ∀ e c, ed e c = 0) : EVQ (pick4 0 0 0 0) (pick4 0 0 0 0) ed (fun _ => 0) (fun _ => 0) (fun _ => 0) := by
  intro e he
  rcases (show e = 0 ∨ e = 1 ∨ e = 2 ∨ e = 3 by omega) with rfl | rfl | rfl | rfl <;> exact ⟨rfl, rfl, fun c _ => h _ c⟩
theorem EVQ.cse {ec er : Nat → Nat} {ed : Nat → Nat → Int32} {fc fh fd : Nat → Int32} {e i : Int32} (h : EVQ ec er ed fc fh fd) : CSE ec e i ↔ CSE (cN fc) e i := by
  unfold CSE
  constructor
  · rintro ⟨h1, h2, h3, h4⟩
    obtain ⟨j, e1, e2⟩ := nI_ex (x := e) (n := 3) h1 h2
    refine ⟨h1, h2, h3, ?_⟩
    subst e1
    rw [nI_clamp (by omega)] at h4 ⊢
    rw [← (h j (by omega)).1]; exact h4
  · rintro ⟨h1, h2, h3, h4⟩
    obtain ⟨j, e1, e2⟩ := nI_ex (x := e) (n := 3) h1 h2
    refine ⟨h1, h2, h3, ?_⟩
    subst e1
    rw [nI_clamp (by omega)] at h4 ⊢
    rw [(h j (by omega)).1]; exact h4
theorem EVQ.put {ec er ec' er' : Nat → Nat} {ed ed' : Nat → Nat → Int32} {fc fh fd fc' fh' fd' : Nat → Int32} {k n : Nat} (h : EVQ ec er ed fc fh fd) (hk : k ≤ 3) (hn : n ≤ 4) (h1 : ∀ i, i < 4 → ec' i = if i = k then n else ec i) (h2 : ∀ i, i < 4 → er' i = if i = k then 0 else er i) (h3 : ∀ i, i < 4 → i ≠ k → ed' i = ed i) (h4 : ∀ c, c < 16 → ed' k c = fd' (16 * k + c)) (e1 : upd fc k (nI n) = fc') (e2 : upd fh k (nI 0) = fh') (h5 : ∀ j, (j < 16 * k ∨ 16 * k + 16 ≤ j) → fd' j = fd j) : EVQ ec' er' ed' fc' fh' fd' := by
  intro e he
  rw [h1 e he, h2 e he]
  by_cases q : e = k
  · subst q
    rw [if_pos rfl, if_pos rfl, cN_s (by omega) e1, cN_s (by omega) e2]
    exact ⟨rfl, rfl, h4⟩
  · rw [if_neg q, if_neg q, cN_n e1 q, cN_n e2 q, h3 e he q]
    exact ⟨(h e he).1, (h e he).2.1, fun c hc => by rw [h5 _ (by omega)]; exact (h e he).2.2 c hc⟩
theorem EVQ.hear {ec er : Nat → Nat} {ed ed' : Nat → Nat → Int32} {fc fh fd fd' : Nat → Int32} {k n i : Nat} {x : Int32} (h : EVQ ec er ed fc fh fd) (hk : k ≤ 3) (hn : n ≤ 3) (hi : i ≤ 3) (h3 : ∀ j, j < 4 → j ≠ k → ed' j = ed j) (e1 : upd (ed k) (n * 4 + i) x = ed' k) (e2 : upd fd (16 * k + 4 * n + i) x = fd') : EVQ ec er ed' fc fh fd' := by
  intro e he
  refine ⟨(h e he).1, (h e he).2.1, fun c hc => ?_⟩
  by_cases q : e = k
  · subst q
    rw [← e1, ← e2]
    by_cases z : c = n * 4 + i
    · rw [z, pk_us, show 16 * e + (n * 4 + i) = 16 * e + 4 * n + i by omega, pk_us]
    · rw [pk_un z, pk_un (by omega)]; exact (h e he).2.2 c hc
  · rw [h3 e he q, ← e2, pk_un (by omega)]; exact (h e he).2.2 c hc
theorem EVQ.hap {ec er er' : Nat → Nat} {ed : Nat → Nat → Int32} {fc fh fh' fd : Nat → Int32} {k i : Nat} (h : EVQ ec er ed fc fh fd) (hi : i ≤ 3) (h2 : ∀ j, j < 4 → er' j = if j = k then i else er j) (e1 : upd fh k (nI i) = fh') : EVQ ec er' ed fc fh' fd := by
  intro e he
  refine ⟨(h e he).1, ?_, (h e he).2.2⟩
  rw [h2 e he]
  by_cases q : e = k
  · rw [if_pos q, q, cN_s (by omega) e1]
  · rw [if_neg q, cN_n e1 q]; exact (h e he).2.1
theorem EVQ.wd {k d : Nat} {gr : Int32} {f g ek : Nat → Int32} (h : (d = 0 ∧ SAx 4 ek) ∨ (d ≠ 0 ∧ SPx gr 4 ek)) (hw : WX k d gr 4 f g) : ∀ c, c < 16 → ek c = g (16 * k + c) := by
  intro c hc
  rw [hw.1 c hc, if_pos (by omega)]
  rcases h with ⟨h1, h2⟩ | ⟨h1, h2⟩
  · rw [h2 c hc]
    by_cases q : c % 4 = 0
    · rw [if_pos ⟨q, by omega⟩, if_pos q, if_pos (Or.inl h1)]
    · rw [if_neg (fun z => q z.1), if_neg q, if_pos h1]
      split <;> rfl
  · rw [h2 c hc, if_pos (by omega)]
    by_cases q : c % 4 = 0
    · rw [if_pos q, if_pos q]
      by_cases z : bt gr (c / 4) = true
      · rw [if_pos z, if_pos (Or.inr z)]
      · rw [if_neg z, if_neg (fun y => y.elim h1 z)]
    · rw [if_neg q, if_neg q, if_neg h1]
/-- both sides' sayings: told or not, how many afters -/
def TLQ (tT : Nat → Option SVal) (ft fa : Nat → Int32) : Prop := ∀ k, k < 8 → sNs tT k = tRr ft fa k
theorem tlq0 : TLQ (fun _ => none) (fun _ => 0) (fun _ => 0) := fun k _ => rfl
theorem TLQ.pln {tT : Nat → Option SVal} {ft fa : Nat → Int32} {k : Int32} (h : TLQ tT ft fa) : PLN (sNs tT) k ↔ PLN (tRr ft fa) k := by
  unfold PLN
  constructor
  · rintro ⟨h1, h2, h3⟩
    obtain ⟨j, e1, e2⟩ := nI_ex (x := k) (n := 7) h1 h2
    refine ⟨h1, h2, ?_⟩
    subst e1
    rw [nI_clamp (by omega)] at h3 ⊢
    rw [← h j (by omega)]; exact h3
  · rintro ⟨h1, h2, h3⟩
    obtain ⟨j, e1, e2⟩ := nI_ex (x := k) (n := 7) h1 h2
    refine ⟨h1, h2, ?_⟩
    subst e1
    rw [nI_clamp (by omega)] at h3 ⊢
    rw [h j (by omega)]; exact h3
theorem TLQ.kp {tT : Nat → Option SVal} {ft fa fa' : Nat → Int32} (h : TLQ tT ft fa) (hk : KP 8 fa fa') : TLQ tT ft fa' := by
  intro k hk8
  rw [h k hk8]
  unfold tRr
  rw [hk.at hk8]
theorem TLQ.say {tT : Nat → Option SVal} {ft fa ft' fa' : Nat → Int32} {k n m : Nat} {S : SVal} (h : TLQ tT ft fa) (hS : sNa S = n) (hm : 1 ≤ m) (hm2 : m ≤ 32) (hn : n ≤ 2) (e1 : upd ft k (nI m) = ft') (e2 : fa' k = nI n ∧ ∀ j, j < 8 → j ≠ k → fa' j = fa j) : TLQ (va_up tT k (some S)) ft' fa' := by
  intro j hj
  unfold sNs tRr
  by_cases q : j = k
  · subst q
    rw [vup_s, ← e1, pk_us, nI_toInt (by omega), if_pos (by omega)]
    have : cN fa' j = n := by unfold cN; rw [e2.1]; exact nI_clamp (by omega)
    rw [this, ← hS]
    rfl
  · have h2 := h j hj
    unfold sNs tRr at h2
    have e3 : cN fa' j = cN fa j := by unfold cN; rw [e2.2 j hj q]
    rw [vup_n q, ← e1, pk_un q, e3]
    exact h2
theorem SOK.pos {c : Nat → Int} {p n v w K m : Nat} (h : SOK c p n v w K m) : 1 ≤ K := by
  obtain ⟨a1, a2, a3, a4, q, a5, a6⟩ := h
  apply Classical.byContradiction
  intro hk
  have e : K = 0 := by omega
  subst e
  have a5' : (Sum.inr (p, 0, 1) : Nat ⊕ (Nat × Nat × Nat)) = .inr (q, m, 0) := a5
  cases a5'
/-! two tellings that read alike -/
theorem vSt_cg {m : AM} {nn : Nat} {o ar o' ar' : Nat → Int32} (h : ∀ i, i < nn → o i = o' i ∧ ar i = ar' i) : ∀ d, d ≤ nn → vSt m nn o ar d = vSt m nn o' ar' d
  | 0, _ => rfl
  | d + 1, hd => by
    have h1 := h (nn - 1 - d) (by omega)
    have h2 : lastN o (nn - 1 - d) = lastN o' (nn - 1 - d) := by unfold lastN; rw [opn_cg _ (fun i hi => (h i (by omega)).1)]
    show va_up (vSt m nn o ar d) (lastN o (nn - 1 - d)) _ = va_up (vSt m nn o' ar' d) (lastN o' (nn - 1 - d)) _
    rw [vSt_cg h d (by omega), h2, h1.1, h1.2]
theorem vPl_cg {m : AM} {n n' : Nat} {o ar o' ar' : Nat → Int32} (hn : n = n') (h : ∀ i, i < n → o i = o' i ∧ ar i = ar' i) : vPl m n o ar = vPl m n' o' ar' := by
  subst hn
  unfold vPl
  rw [vSt_cg h n (Nat.le_refl _)]
def SQ (S S' : SVal) : Prop := S.1 = S'.1 ∧ ∀ i, i < S.1 → S.2.1 i = S'.2.1 i ∧ S.2.2.1 i = S'.2.2.1 i
theorem SQ.pl {m : AM} {S S' : SVal} (h : SQ S S') : vPl m S.1 S.2.1 S.2.2.1 = vPl m S'.1 S'.2.1 S'.2.2.1 := vPl_cg h.1 h.2
def SQA (S S' : SVal) : Prop := SQ S S' ∧ aftL S = aftL S' ∧ ∀ e, e ∈ aftL S → e < 4
theorem SQA.zero : SQA sv0 sv0 := ⟨⟨rfl, fun _ _ => ⟨rfl, rfl⟩⟩, rfl, fun e h => absurd h (by show ¬ e ∈ aftL sv0; unfold aftL; exact List.not_mem_nil)⟩
/-- both none, or alike -/
def OQ (R : SVal → SVal → Prop) (o o' : Option SVal) : Prop := (o = none ∧ o' = none) ∨ ∃ S S', o = some S ∧ o' = some S' ∧ R S S'
theorem OQ.can {m : AM} {o o' : Option SVal} (h : OQ SQ o o') : canE m o = canE m o' := by
  rcases h with ⟨a, b⟩ | ⟨S, S', a, b, c⟩
  · rw [a, b]
  · rw [a, b]; exact c.pl
theorem OQ.some {R : SVal → SVal → Prop} {o o' : Option SVal} (h : OQ R o o') : o.isSome = o'.isSome := by
  rcases h with ⟨a, b⟩ | ⟨S, S', a, b, c⟩ <;> rw [a, b]; rfl
theorem OQ.get {o o' : Option SVal} (h : OQ SQA o o') : SQA (o.getD sv0) (o'.getD sv0) := by
  rcases h with ⟨a, b⟩ | ⟨S, S', a, b, c⟩
  · rw [a, b]; exact SQA.zero
  · rw [a, b]; exact c
def EQv (e e' : EVl) : Prop := e.1 = e'.1 ∧ e.2.1 = e'.2.1 ∧ (∀ c, c < 4 → OQ SQ (e.2.2.1 c) (e'.2.2.1 c)) ∧ (∀ c, c < 4 → e.2.2.2.1 c = e'.2.2.2.1 c ∧ e.2.2.2.2.1 c = e'.2.2.2.2.1 c) ∧ ∀ q, q < 16 → e.2.2.2.2.2 q = e'.2.2.2.2.2 q
theorem cmpS_cg {P : Nat → Bool} {N r : Nat} {F F' : Nat → Int32} {R R' : Nat → Nat → Nat → Bool} (hF : ∀ p, F p = F' p) (hR : ∀ k p q, k < 4 → R k p q = R' k p q) : cmpS P N r F R = cmpS P N r F' R' := by
  unfold cmpS
  refine Prod.ext rfl (Prod.ext rfl (Prod.ext ?_ ?_))
  · funext j
    show (if j < cb P N then F (nth P N j) else 0) = (if j < cb P N then F' (nth P N j) else 0)
    rw [hF]
  · funext k j i
    show (decide (k < 4) && (decide (j < cb P N) && (decide (i < cb P N) && R k (nth P N j) (nth P N i)))) = (decide (k < 4) && (decide (j < cb P N) && (decide (i < cb P N) && R' k (nth P N j) (nth P N i))))
    by_cases hk : k < 4
    · rw [hR _ _ _ hk]
    · rw [decide_eq_false hk, Bool.false_and, Bool.false_and]
section EQVS
variable {m : AM} {e e' : EVl} {T : Nat → Bool}
theorem EQv.P (h : EQv e e') : lyP m e = lyP m e' := by
  funext p
  unfold lyP
  rw [h.1, (h.2.2.1 (p % 4) (Nat.mod_lt _ (by decide))).can]
theorem EQv.C (h : EQv e e') : lyC m e = lyC m e' := by unfold lyC; rw [h.P]
theorem EQv.lay (h : EQv e e') : aLay m e = aLay m e' := by
  unfold aLay
  rw [h.P, h.2.1]
  refine cmpS_cg (fun p => ?_) (fun k p q hk => ?_)
  · have h1 := h.2.2.2.1 (p % 4) (Nat.mod_lt _ (by decide))
    unfold lyF chg
    rw [h1.1, h1.2]
  · have h4 := Nat.mod_lt p (show 0 < 4 by decide)
    unfold lyR
    rw [h.2.2.2.2 (k * 4 + p % 4) (by omega)]
theorem EQv.back (h : EQv e e') : vBack m e T = vBack m e' T := by
  unfold vBack
  rw [h.P, h.2.1]
theorem EQv.L (h : EQv e e') : canL m e = canL m e' := by
  unfold canL
  rw [h.P, h.C, h.2.1]
end EQVS
def ESQ (ev ev' : Nat → EVl) : Prop := ∀ e, e < 4 → EQv (ev e) (ev' e)
theorem vW_cg {ev ev' : Nat → EVl} {S S' : SVal} (hS : SQ S S') (he : ESQ ev ev') : ∀ (L : List Nat) (m : AM), (∀ e, e ∈ L → e < 4) → vW m ev S L = vW m ev' S' L
  | [], m, _ => hS.pl
  | e :: es, m, h => by
    have h4 := he e (h e List.mem_cons_self)
    show (if lyC m (ev e) ≤ 24 then vBack m (ev e) (vW (aLay m (ev e)) ev S es) else vAll m) = (if lyC m (ev' e) ≤ 24 then vBack m (ev' e) (vW (aLay m (ev' e)) ev' S' es) else vAll m)
    rw [h4.C, h4.lay, h4.back, vW_cg hS he es _ (fun x hx => h x (List.mem_cons_of_mem _ hx))]
theorem vWho_cg {m : AM} {ev ev' : Nat → EVl} {S S' : SVal} (hS : SQA S S') (he : ESQ ev ev') : vWho m ev S = vWho m ev' S' := by
  unfold vWho
  rw [← hS.2.1]; exact vW_cg hS.1 he _ m hS.2.2
def TQ (T T' : Nat → Option SVal) : Prop := ∀ k, k < 8 → OQ SQA (T k) (T' k)
section TQS
variable {m : AM} {ev ev' : Nat → EVl} {T T' : Nat → Option SVal} {gr sg v0 v1 v2 v3 x : Int32}
theorem tN_8 (h : ¬ (v0.toInt < 0 ∨ 7 < v0.toInt)) : tN v0 < 8 := by
  unfold tN
  have h1 := i_cl (x := v0) (N := 7) (by omega) (by omega) (by omega)
  have h2 := h1.2
  have h3 := h1.1
  omega
theorem tru_cg (hT : TQ T T') (he : ESQ ev ev') : ansTruth m ev T v0 = ansTruth m ev' T' v0 := by
  unfold ansTruth
  by_cases q : v0.toInt < 0 ∨ 7 < v0.toInt
  · rw [if_pos q, if_pos q]
  · rw [if_neg q, if_neg q]
    rcases hT (tN v0) (tN_8 q) with ⟨a, b⟩ | ⟨S, S', a, b, c⟩
    · rw [a, b]
    · rw [a, b]; show ofB (vWho m ev S) = ofB (vWho m ev' S'); rw [vWho_cg c he]
theorem hol_cg (hT : TQ T T') (he : ESQ ev ev') : ansHolds m ev T v0 = ansHolds m ev' T' v0 := by
  unfold ansHolds
  by_cases q : v0.toInt < 0 ∨ 7 < v0.toInt
  · rw [if_pos q, if_pos q]
  · rw [if_neg q, if_neg q]
    rcases hT (tN v0) (tN_8 q) with ⟨a, b⟩ | ⟨S, S', a, b, c⟩
    · rw [a, b]
    · rw [a, b]
      show (if m.1 = 0 then (-2 : Int32) else if vWho m ev S m.2.1 = true then 1 else 0) = (if m.1 = 0 then -2 else if vWho m ev' S' m.2.1 = true then 1 else 0)
      rw [vWho_cg c he]
theorem tN_4 (h : ¬ (v0.toInt < 0 ∨ 3 < v0.toInt)) : tN v0 < 4 := by
  unfold tN
  have h1 := i_cl (x := v0) (N := 3) (by omega) (by omega) (by omega)
  have h2 := h1.2
  have h3 := h1.1
  omega
theorem lay_cg {s : ASt} (he : ESQ ev ev') : opLay s ev v0 = opLay s ev' v0 := by
  unfold opLay
  by_cases q : v0.toInt < 0 ∨ 3 < v0.toInt
  · rw [if_pos (q.elim Or.inl (fun z => Or.inr (Or.inl z))), if_pos (q.elim Or.inl (fun z => Or.inr (Or.inl z)))]
  · have h := he (tN v0) (tN_4 q)
    rw [h.1, h.2.1, h.P, h.C, h.lay]
theorem askd_cg {k : Nat} (hT : TQ T T') : askd T gr sg k = askd T' gr sg k := by unfold askd; rw [(hT _ sgI_lt).some]
theorem aKn_cg {k : Nat} (hT : TQ T T') (he : ESQ ev ev') : aKn m ev T sg k = aKn m ev' T' sg k := by unfold aKn; rw [vWho_cg (hT _ sgI_lt).get he]
theorem stS_cg (hT : TQ T T') (he : ESQ ev ev') : ∀ k, stS m ev T gr sg k = stS m ev' T' gr sg k
  | 0 => rfl
  | k + 1 => by
    funext w
    show (stS m ev T gr sg k w && (!askd T gr sg k || (if aKn m ev T sg k m.2.1 = true then aKn m ev T sg k w else !aKn m ev T sg k w))) = (stS m ev' T' gr sg k w && (!askd T' gr sg k || (if aKn m ev' T' sg k m.2.1 = true then aKn m ev' T' sg k w else !aKn m ev' T' sg k w)))
    rw [stS_cg hT he k, askd_cg hT, aKn_cg hT he]
theorem knS_cg (hT : TQ T T') (he : ESQ ev ev') (i : Nat) : knS m ev T gr sg i = knS m ev' T' gr sg i := by
  funext k
  unfold knS
  rw [askd_cg hT, aKn_cg hT he]
theorem TQ.can (hT : TQ T T') : canT T v0 v1 ↔ canT T' v0 v1 := ⟨fun h => canT_cg (fun k hk => (hT k hk).some) h, fun h => canT_cg (fun k hk => (hT k hk).some.symm) h⟩
theorem turn_cg {s : ASt} (hT : TQ T T') (he : ESQ ev ev') : opTurn s ev T v0 v1 = opTurn s ev' T' v0 v1 := by
  unfold opTurn
  by_cases q : canT T v0 v1
  · rw [if_pos q, if_pos (hT.can.mp q), stS_cg hT he, knS_cg hT he]
  · rw [if_neg q, if_neg (fun z => q (hT.can.mpr z))]
theorem goS_cg (hT : TQ T T') (he : ESQ ev ev') : ∀ i, goS m ev T gr sg i = goS m ev' T' gr sg i
  | 0 => rfl
  | i + 1 => by
    show aCut (goS m ev T gr sg i) (stS (goS m ev T gr sg i) ev T gr sg 4) = aCut (goS m ev' T' gr sg i) (stS (goS m ev' T' gr sg i) ev' T' gr sg 4)
    rw [goS_cg hT he i, stS_cg hT he]
theorem rest_cg {i : Nat} (hT : TQ T T') (he : ESQ ev ev') : restG m ev T gr sg i ↔ restG m ev' T' gr sg i := by
  unfold restG
  rw [goS_cg hT he, stS_cg hT he]
theorem GOE_cg {N : Nat} (hT : TQ T T') (he : ESQ ev ev') (h : GOE m ev T gr sg N) : GOE m ev' T' gr sg N :=
  ⟨fun i hi z => h.1 i hi ((rest_cg hT he).mpr z), (rest_cg hT he).mp h.2⟩
theorem fstS_cg (hT : TQ T T') (he : ESQ ev ev') {k : Nat} : ∀ i, fstS m ev T gr sg k i = fstS m ev' T' gr sg k i
  | 0 => rfl
  | i + 1 => by
    show (if fstS m ev T gr sg k i = -4 ∧ knS (goS m ev T gr sg i) ev T gr sg 4 k = true then nI (i + 1) else fstS m ev T gr sg k i) = (if fstS m ev' T' gr sg k i = -4 ∧ knS (goS m ev' T' gr sg i) ev' T' gr sg 4 k = true then nI (i + 1) else fstS m ev' T' gr sg k i)
    rw [fstS_cg hT he i, goS_cg hT he, knS_cg hT he]
theorem TUR_cg (hT : TQ T T') (he : ESQ ev ev') (h : TUR m ev T v0 v1 v2 x) : TUR m ev' T' v0 v1 v2 x := by
  rcases h with ⟨a, b⟩ | ⟨a1, a2, a3, b⟩ | ⟨a1, a2, a3, N, g, b⟩
  · exact Or.inl ⟨a.elim Or.inl (fun z => Or.inr (fun y => z (hT.can.mpr y))), b⟩
  · exact Or.inr (Or.inl ⟨a1, hT.can.mp a2, a3, b⟩)
  · refine Or.inr (Or.inr ⟨a1, hT.can.mp a2, a3, N, GOE_cg hT he g, ?_⟩)
    rw [b, goS_cg hT he, goS_cg hT he, knS_cg hT he, fstS_cg hT he]
theorem hid_cg {H H' : Option SVal} (hH : OQ SQA H H') (he : ESQ ev ev') : hidO m ev H = hidO m ev' H' := by
  rcases hH with ⟨a, b⟩ | ⟨S, S', a, b, c⟩
  · rw [a, b]; rfl
  · rw [a, b]; show vWho m ev S m.2.1 = vWho m ev' S' m.2.1; rw [vWho_cg c he]
theorem plB_cg {A A' : SVal} {H H' : Option SVal} (hA : SQA A A') (hH : OQ SQA H H') (he : ESQ ev ev') : ∀ (L : Nat) (m : AM) (r : Nat), plB ev A H L m r = plB ev' A' H' L m r
  | 0, m, r => by
    show (if (hidO m ev H && vWho m ev A m.2.1) = true then some r else none) = (if (hidO m ev' H' && vWho m ev' A' m.2.1) = true then some r else none)
    rw [hid_cg hH he, vWho_cg hA he]
  | L + 1, m, r => by
    show (if hidO m ev H = true then fstO (fun i => if canL m (ev i) = true then plB ev A H L (aLay m (ev i)) (r * 10 + i) else none) 4 else none) = (if hidO m ev' H' = true then fstO (fun i => if canL m (ev' i) = true then plB ev' A' H' L (aLay m (ev' i)) (r * 10 + i) else none) 4 else none)
    rw [hid_cg hH he]
    by_cases q : hidO m ev' H' = true
    · rw [if_pos q, if_pos q]
      refine fstO_cg (fun i hi => ?_)
      rw [(he i hi).L, (he i hi).lay, plB_cg hA hH he L]
    · rw [if_neg q, if_neg q]
theorem NTD_cg (hT : TQ T T') (h : NTD T v0) : NTD T' v0 := ⟨h.1, h.2.1, by rw [← (hT (tN v0) (tN_8 (by have h1 := h.1; have h2 := h.2.1; omega))).some]; exact h.2.2⟩
theorem TQ.symm' (hT : TQ T T') : ∀ k, k < 8 → (T' k).isSome = (T k).isSome := fun k hk => (hT k hk).some.symm
theorem NTD_iff (hT : TQ T T') : NTD T v0 ↔ NTD T' v0 := ⟨NTD_cg hT, fun h => ⟨h.1, h.2.1, by rw [(hT (tN v0) (tN_8 (by have h1 := h.1; have h2 := h.2.1; omega))).some]; exact h.2.2⟩⟩
theorem NTD_8 (h : NTD T v0) : tN v0 < 8 := tN_8 (by have h1 := h.1; have h2 := h.2.1; omega)
theorem PLA_cg (hT : TQ T T') (he : ESQ ev ev') (h : PLA m ev T v0 v1 v2 v3 x) : PLA m ev' T' v0 v1 v2 v3 x := by
  rcases h with ⟨a, b⟩ | ⟨⟨a0, a1, a2, a3, a4, a5⟩, b, c⟩ | ⟨⟨a0, a1, a2, a3, a4, a5⟩, b, c⟩
  · refine Or.inl ⟨?_, b⟩
    rcases a with a | ⟨a, a'⟩ | a
    · exact Or.inl (fun z => a ((NTD_iff hT).mpr z))
    · exact Or.inr (Or.inl ⟨a, fun z => a' ((NTD_iff hT).mpr z)⟩)
    · exact Or.inr (Or.inr a)
  · exact Or.inr (Or.inl ⟨⟨(NTD_iff hT).mp a0, a1.elim Or.inl (fun z => Or.inr ((NTD_iff hT).mp z)), a2, a3, a4, a5⟩, b, c⟩)
  · have hA : SQA ((T (tN v0)).getD sv0) ((T' (tN v0)).getD sv0) := (hT _ (NTD_8 a0)).get
    have hH : OQ SQA (if v1 = -4 then none else T (tN v1)) (if v1 = -4 then none else T' (tN v1)) := by
      by_cases q : v1 = -4
      · rw [if_pos q, if_pos q]; exact Or.inl ⟨rfl, rfl⟩
      · rw [if_neg q, if_neg q]
        rcases a1 with z | z
        · exact absurd z q
        · exact hT _ (NTD_8 z)
    have hB := plB_cg hA hH he
    refine Or.inr (Or.inr ⟨⟨(NTD_iff hT).mp a0, a1.elim Or.inl (fun z => Or.inr ((NTD_iff hT).mp z)), a2, a3, a4, a5⟩, b, ?_⟩)
    rcases c with ⟨c, d⟩ | ⟨l, row, c1, c2, c3, d⟩
    · exact Or.inl ⟨fun l hl => by rw [← hB]; exact c l hl, d⟩
    · exact Or.inr ⟨l, row, c1, by rw [← hB]; exact c2, fun k hk => by rw [← hB]; exact c3 k hk, d⟩
theorem PLA.uniq {y : Int32} (h1 : PLA m ev T v0 v1 v2 v3 x) (h2 : PLA m ev T v0 v1 v2 v3 y) : x = y := by
  have key : (NTD T v0 ∧ (v1 = -4 ∨ NTD T v1) ∧ 0 ≤ v2.toInt ∧ v2.toInt ≤ 3 ∧ 0 ≤ v3.toInt ∧ v3.toInt ≤ 1) → ¬ (¬ NTD T v0 ∨ (v1 ≠ -4 ∧ ¬ NTD T v1) ∨ v2.toInt < 0 ∨ 3 < v2.toInt ∨ v3.toInt < 0 ∨ 1 < v3.toInt) := by
    rintro ⟨a0, a1, a2, a3, a4, a5⟩ q
    rcases q with q | ⟨q, q'⟩ | q
    · exact q a0
    · exact a1.elim q q'
    · omega
  rcases h1 with ⟨a, b⟩ | ⟨a, b, c⟩ | ⟨a, b, c⟩
  · rcases h2 with ⟨a', b'⟩ | ⟨a', b', c'⟩ | ⟨a', b', c'⟩
    · rw [b, b']
    · exact absurd a (key a')
    · exact absurd a (key a')
  · rcases h2 with ⟨a', b'⟩ | ⟨a', b', c'⟩ | ⟨a', b', c'⟩
    · exact absurd a' (key a)
    · rw [c, c']
    · exact absurd b b'
  · rcases h2 with ⟨a', b'⟩ | ⟨a', b', c'⟩ | ⟨a', b', c'⟩
    · exact absurd a' (key a)
    · exact absurd b' b
    · rcases c with ⟨c, d⟩ | ⟨l, row, c1, c2, c3, d⟩
      · rcases c' with ⟨c', d'⟩ | ⟨l', row', c1', c2', c3', d'⟩
        · rw [d, d']
        · exfalso; rw [c l' c1'] at c2'; cases c2'
      · rcases c' with ⟨c', d'⟩ | ⟨l', row', c1', c2', c3', d'⟩
        · exfalso; rw [c' l c1] at c2; cases c2
        · have e : l = l' := by
            rcases Nat.lt_trichotomy l l' with q | q | q
            · exfalso; rw [c3' l q] at c2; cases c2
            · exact q
            · exfalso; rw [c3 l' q] at c2'; cases c2'
          subst e
          rw [c2] at c2'
          cases c2'
          rw [d, d']
end TQS
end
section
/-! what a text's run says of the groups -/
theorem gA_lt {a g : Nat} (h : gA a g ≠ 0) : gA a g = g ∧ (a < 10 → cb g.testBit 32 = 1) := by
  unfold gA at h ⊢
  by_cases q : a < 10 ∧ cb g.testBit 32 ≠ 1
  · rw [if_pos q] at h; exact absurd rfl h
  · rw [if_neg q]
    refine ⟨rfl, fun ha => ?_⟩
    apply Classical.byContradiction
    intro z
    exact q ⟨ha, z⟩
theorem run_g {c : Nat → Int} {p K q n : Nat} (h : RUN c p K) (he : it c p K = .inr (q, n, 0)) : ∀ i, i < K → 8 ≤ aI c p i → gI c p i ≠ 0 ∧ (aI c p i < 10 → cb (gI c p i).testBit 32 = 1) := fun i hi h8 => by
  obtain ⟨q1, n1, o1, e1, ho⟩ := h i hi
  have h1 := it_s e1 ho
  rw [aI_at e1] at h8 ⊢
  rw [gI_at e1, if_neg (by omega)]
  have h2 : gA (aF c q1) (gF c (sE c q1)) ≠ 0 := by
    intro z
    have h3 : ∃ l, stp c q1 n1 o1 = .inl l := by
      unfold stp
      by_cases a1 : 13 ≤ aF c q1 ∨ 32 ≤ n1
      · rw [if_pos a1]; exact ⟨_, rfl⟩
      · rw [if_neg a1]
        by_cases a2 : sK c (sE c q1) = 3
        · rw [if_pos a2]; exact ⟨_, rfl⟩
        · rw [if_neg a2, if_neg (by omega), if_pos (Or.inl z)]; exact ⟨_, rfl⟩
    obtain ⟨l, hl⟩ := h3
    rw [hl] at h1
    have h4 := it_inl h1 (K - (i + 1))
    rw [show i + 1 + (K - (i + 1)) = K by omega, he] at h4
    cases h4
  have h5 := gA_lt h2
  refine ⟨h2, fun h10 => ?_⟩
  rw [h5.1]; exact h5.2 h10
theorem whs_of {x : Int32} {a g : Nat} (e : x = nI g) (hg : 8 ≤ a → g ≠ 0 ∧ (a < 10 → cb g.testBit 32 = 1)) (ha : a < 13) (h16 : g < 16) (h8 : 8 ≤ (a : Int)) : ∃ g', x = nI g' ∧ g' < 16 ∧ g' ≠ 0 ∧ ((a : Int) = 9 → cb g'.testBit 32 = 1) :=
  ⟨g, e, h16, (hg (by omega)).1, fun h9 => (hg (by omega)).2 (by omega)⟩
/-! what is told, on both sides -/
def SLQ (S : SVal) (fm fa fw : Nat → Int32) (s : Nat) : Prop := S.1 = cN fm s ∧ S.1 ≤ 32 ∧ ∀ i, i < S.1 → S.2.1 i = rO fa s i ∧ S.2.2.1 i = rA fa fw s i
section SLQS
variable {S : SVal} {fm fa fw fm' fa' fw' : Nat → Int32} {s s' n n' : Nat}
theorem SLQ.cg (h : SLQ S fm fa fw s) (hm : cN fm' s' = cN fm s) (ha : ∀ i, i < 32 → fa' (32 * s' + i) = fa (32 * s + i)) (hw : ∀ i, i < 32 → fw' (32 * s' + i) = fw (32 * s + i)) : SLQ S fm' fa' fw' s' := by
  refine ⟨by rw [hm]; exact h.1, h.2.1, fun i hi => ?_⟩
  have h1 := h.2.2 i hi
  have h2 := h.2.1
  have e1 := ha i (by omega)
  have e2 := hw i (by omega)
  unfold rO rA cN at h1 ⊢
  rw [e1, e2]; exact h1
theorem WHs.cg (h : WHs n fa fw s) (hn : n' = n) (h32 : n ≤ 32) (ha : ∀ i, i < 32 → fa' (32 * s' + i) = fa (32 * s + i)) (hw : ∀ i, i < 32 → fw' (32 * s' + i) = fw (32 * s + i)) : WHs n' fa' fw' s' := by
  subst hn
  refine ⟨h.1, fun i hi h8 => ?_⟩
  rw [ha i (by omega)] at h8 ⊢
  rw [hw i (by omega)]
  exact h.2 i hi h8
theorem SLQ.rs {g : Nat → Int32} (h : SLQ S fm fa fw s) : SQ S (cN fm s, rO fa s, rA fa fw s, g, 0, 0, 0, 0) := ⟨h.1, h.2.2⟩
end SLQS
def TVQ (tT : Nat → Option SVal) (ft fm fa fw fo fn : Nat → Int32) : Prop := ∀ k, k < 8 → (tT k = none ∧ (ft k).toInt ≤ 0) ∨ ∃ S, tT k = some S ∧ 0 < (ft k).toInt ∧ SLQ S fm fa fw k ∧ sNa S = cN fn k ∧ sNa S ≤ 2 ∧ (∀ a, a < sNa S → cN S.2.2.2.1 a = cN fo (2 * k + a) ∧ cN S.2.2.2.1 a < 4) ∧ WHs (cN fm k) fa fw k
def IVQ (eT : Nat → Nat → Option SVal) (eb en : Nat → Nat → Int32) (fI fm fa fw fb fg : Nat → Int32) : Prop := ∀ e, e < 4 → ∀ c, c < 4 → ((eT e c = none ∧ fI (4 * e + c) = 0) ∨ ∃ S, eT e c = some S ∧ fI (4 * e + c) ≠ 0 ∧ SLQ S fm fa fw (8 + 4 * e + c) ∧ WHs (cN fm (8 + 4 * e + c)) fa fw (8 + 4 * e + c)) ∧ eb e c = fb (4 * e + c) ∧ en e c = fg (4 * e + c)
section TVQS
variable {tT : Nat → Option SVal} {ft fm fa fw fo fn fm' fa' fw' fI fb fg fI' fb' fg' : Nat → Int32} {eT eT' : Nat → Nat → Option SVal} {eb en eb' en' : Nat → Nat → Int32}
theorem aft_2q {S : SVal} (h : sNa S ≤ 2) (h4 : ∀ a, a < sNa S → cN S.2.2.2.1 a < 4) : ∀ e, e ∈ aftL S → e < 4 := by
  intro e he
  have hs : sNa S = S.2.2.2.2.2.2.2 := rfl
  unfold aftL at he
  by_cases q0 : S.2.2.2.2.2.2.2 = 0
  · rw [if_pos q0] at he; exact absurd he List.not_mem_nil
  · rw [if_neg q0] at he
    by_cases q1 : S.2.2.2.2.2.2.2 = 1
    · rw [if_pos q1] at he
      rw [List.mem_singleton.mp he]; exact h4 0 (by omega)
    · rw [if_neg q1] at he
      rcases List.mem_cons.mp he with z | z
      · rw [z]; exact h4 0 (by omega)
      · rw [List.mem_singleton.mp z]; exact h4 1 (by omega)
theorem aft_eq {S S' : SVal} (h : sNa S = sNa S') (h2 : sNa S ≤ 2) (hc : ∀ a, a < sNa S → cN S.2.2.2.1 a = cN S'.2.2.2.1 a) : aftL S = aftL S' := by
  have e1 : S.2.2.2.2.2.2.2 = S'.2.2.2.2.2.2.2 := h
  have e0 : sNa S = S.2.2.2.2.2.2.2 := rfl
  unfold aftL
  rw [← e1]
  by_cases q0 : S.2.2.2.2.2.2.2 = 0
  · rw [if_pos q0, if_pos q0]
  · by_cases q1 : S.2.2.2.2.2.2.2 = 1
    · rw [if_neg q0, if_neg q0, if_pos q1, if_pos q1, hc 0 (by omega)]
    · rw [if_neg q0, if_neg q0, if_neg q1, if_neg q1, hc 0 (by omega), hc 1 (by omega)]
theorem TVQ.tq (h : TVQ tT ft fm fa fw fo fn) : TQ tT (rTT ft fm fa fw fo fn) := fun k hk => by
  rcases h k hk with ⟨a, b⟩ | ⟨S, a1, a2, a3, a4, a5, a6, a7⟩
  · exact Or.inl ⟨a, rTT_n b⟩
  · exact Or.inr ⟨S, _, a1, rTT_s a2, ⟨a3.1, a3.2.2⟩, aft_eq (S' := rT fm fa fw fo fn k) a4 a5 (fun a ha => (a6 a ha).1), aft_2q a5 (fun a ha => (a6 a ha).2)⟩
theorem TVQ.wht (h : TVQ tT ft fm fa fw fo fn) : WHT ft fm fa fw := fun k hk h0 => by
  rcases h k hk with ⟨a, b⟩ | ⟨S, a1, a2, a3, a4, a5, a6, a7⟩
  · omega
  · exact a7
theorem TVQ.keep (h : TVQ tT ft fm fa fw fo fn) (hm : ∀ j, j < 8 → cN fm' j = cN fm j) (ha : ∀ j, j < 256 → fa' j = fa j) (hw : ∀ j, j < 256 → fw' j = fw j) : TVQ tT ft fm' fa' fw' fo fn := fun k hk => by
  rcases h k hk with ⟨a, b⟩ | ⟨S, a1, a2, a3, a4, a5, a6, a7⟩
  · exact Or.inl ⟨a, b⟩
  · have e1 : ∀ i, i < 32 → fa' (32 * k + i) = fa (32 * k + i) := fun i hi => ha _ (by omega)
    have e2 : ∀ i, i < 32 → fw' (32 * k + i) = fw (32 * k + i) := fun i hi => hw _ (by omega)
    exact Or.inr ⟨S, a1, a2, a3.cg (hm k hk) e1 e2, a4, a5, a6, a7.cg (hm k hk) (by have := a3.1; have := a3.2.1; omega) e1 e2⟩
theorem TVQ.kp {fo' fn' : Nat → Int32} (h : TVQ tT ft fm fa fw fo fn) (hm : KP 24 fm fm') (ha : KP 768 fa fa') (hw : KP 768 fw fw') (ho : KP 16 fo fo') (hn : KP 8 fn fn') : TVQ tT ft fm' fa' fw' fo' fn' := fun k hk => by
  rcases TVQ.keep h (fm' := fm') (fa' := fa') (fw' := fw') (fun j hj => KP.at hm (by omega)) (fun j hj => ha j (by omega)) (fun j hj => hw j (by omega)) k hk with ⟨a, b⟩ | ⟨S, a1, a2, a3, a4, a5, a6, a7⟩
  · exact Or.inl ⟨a, b⟩
  · exact Or.inr ⟨S, a1, a2, a3, by rw [KP.at hn hk]; exact a4, a5, fun a ha => ⟨by rw [KP.at ho (by omega)]; exact (a6 a ha).1, (a6 a ha).2⟩, a7⟩
theorem IVQ.kp (h : IVQ eT eb en fI fm fa fw fb fg) (hm : ∀ j, 8 ≤ j → j < 24 → cN fm' j = cN fm j) (ha : ∀ j, 256 ≤ j → j < 768 → fa' j = fa j) (hw : ∀ j, 256 ≤ j → j < 768 → fw' j = fw j) : IVQ eT eb en fI fm' fa' fw' fb fg := fun e he c hc => by
  refine ⟨?_, (h e he c hc).2⟩
  rcases (h e he c hc).1 with ⟨a, b⟩ | ⟨S, a1, a2, a3, a4⟩
  · exact Or.inl ⟨a, b⟩
  · have e1 : ∀ i, i < 32 → fa' (32 * (8 + 4 * e + c) + i) = fa (32 * (8 + 4 * e + c) + i) := fun i hi => ha _ (by omega) (by omega)
    have e2 : ∀ i, i < 32 → fw' (32 * (8 + 4 * e + c) + i) = fw (32 * (8 + 4 * e + c) + i) := fun i hi => hw _ (by omega) (by omega)
    exact Or.inr ⟨S, a1, a2, a3.cg (hm _ (by omega) (by omega)) e1 e2, a4.cg (hm _ (by omega) (by omega)) (by have := a3.1; have := a3.2.1; omega) e1 e2⟩
theorem IVQ.whi (h : IVQ eT eb en fI fm fa fw fb fg) : WHI fI fm fa fw := fun c hc h0 => by
  have e : 4 * (c / 4) + c % 4 = c := by omega
  rcases (h (c / 4) (by omega) (c % 4) (by omega)).1 with ⟨a, b⟩ | ⟨S, a1, a2, a3, a4⟩
  · rw [e] at b; exact absurd b h0
  · rw [show 8 + 4 * (c / 4) + c % 4 = 8 + c by omega] at a4; exact a4
theorem IVQ.esq {ec er : Nat → Nat} {ed : Nat → Nat → Int32} {fc fh fd : Nat → Int32} (h : IVQ eT eb en fI fm fa fw fb fg) (hv : EVQ ec er ed fc fh fd) : ESQ (ev6 ec er eT eb en ed) (rEv fc fh fI fm fa fw fb fg fd) := fun e he => by
  have h1 := hv e he
  refine ⟨h1.1, h1.2.1, fun c hc => ?_, fun c hc => (h e he c hc).2, fun q hq => h1.2.2 q hq⟩
  show OQ SQ (eT e c) (cOp fI fm fa fw (4 * e + c))
  rcases (h e he c hc).1 with ⟨a, b⟩ | ⟨S, a1, a2, a3, a4⟩
  · exact Or.inl ⟨a, by unfold cOp; rw [if_pos b]⟩
  · refine Or.inr ⟨S, _, a1, (by unfold cOp; rw [if_neg a2]), ?_⟩
    rw [show 8 + (4 * e + c) = 8 + 4 * e + c by omega]
    exact a3.rs
/-- an event begins anew: its four cases are empty -/
theorem IVQ.clr {k : Nat} (h : IVQ eT eb en fI fm fa fw fb fg) (hk : k ≤ 3) (a1 : ∀ i, i < 4 → i ≠ k → eT' i = eT i) (a2 : ∀ i, i < 4 → i ≠ k → eb' i = eb i) (a3 : ∀ i, i < 4 → i ≠ k → en' i = en i) (a4 : ∀ z, z < 4 → eb' k z = 0 ∧ en' k z = 0) (a5 : ∀ z, z < 4 → eT' k z = none) (b1 : Z4 k 4 fI fI') (b2 : Z4 k 4 fb fb') (b3 : Z4 k 4 fg fg') : IVQ eT' eb' en' fI' fm fa fw fb' fg' := fun e he c hc => by
  by_cases q : e = k
  · subst q
    exact ⟨Or.inl ⟨a5 c hc, b1.1 c hc⟩, by rw [(a4 c hc).1, b2.1 c hc], by rw [(a4 c hc).2, b3.1 c hc]⟩
  · have h1 := h e he c hc
    rw [a1 e he q, a2 e he q, a3 e he q, b1.2 _ (by omega), b2.2 _ (by omega), b3.2 _ (by omega)]
    exact h1
/-- a case is given another if -/
theorem SLQ.cpy {S : SVal} {s t : Nat} (h : SLQ S fm fa fw s) (hm : upd fm t (nI (cN fm s)) = fm') (ha : CPG 32 s t 32 fa fa') (hw : CPG 32 s t 32 fw fw') : SLQ S fm' fa' fw' t := h.cg (cN_s (by have h1 := h.1; have h2 := h.2.1; omega) hm) (fun i hi => ha.1 i hi) (fun i hi => hw.1 i hi)
theorem IVQ.giv {k i : Nat} {o : Option SVal} (h : IVQ eT eb en fI fm fa fw fb fg) (hk : k ≤ 3) (hi : i ≤ 3) (a1 : ∀ e, e < 4 → e ≠ k → eT' e = eT e) (a2 : ∀ c, c < 4 → eT' k c = if c = i then o else eT k c)
    (hI : ∀ c, c < 16 → c ≠ 4 * k + i → fI' c = fI c) (hm : ∀ j, j < 24 → j ≠ 8 + 4 * k + i → cN fm' j = cN fm j) (ha : ∀ j, j < 768 → (j < 32 * (8 + 4 * k + i) ∨ 32 * (8 + 4 * k + i) + 32 ≤ j) → fa' j = fa j) (hw : ∀ j, j < 768 → (j < 32 * (8 + 4 * k + i) ∨ 32 * (8 + 4 * k + i) + 32 ≤ j) → fw' j = fw j)
    (hn : (o = none ∧ fI' (4 * k + i) = 0) ∨ ∃ S, o = some S ∧ fI' (4 * k + i) ≠ 0 ∧ SLQ S fm' fa' fw' (8 + 4 * k + i) ∧ WHs (cN fm' (8 + 4 * k + i)) fa' fw' (8 + 4 * k + i))
    (hb : ∀ e, e < 4 → ∀ c, c < 4 → eb' e c = fb' (4 * e + c)) (hg : ∀ e, e < 4 → ∀ c, c < 4 → en' e c = fg' (4 * e + c)) : IVQ eT' eb' en' fI' fm' fa' fw' fb' fg' := fun e he c hc => by
  refine ⟨?_, hb e he c hc, hg e he c hc⟩
  by_cases q : e = k ∧ c = i
  · rw [q.1, q.2, a2 i (by omega), if_pos rfl]; exact hn
  · have e0 : eT' e c = eT e c := by
      by_cases z : e = k
      · rw [z, a2 c hc, if_neg (fun y => q ⟨z, y⟩)]
      · rw [a1 e he z]
    rw [e0, hI _ (by omega) (fun z => q ⟨by omega, by omega⟩)]
    rcases (h e he c hc).1 with ⟨a, b⟩ | ⟨S, a1, a2, a3, a4⟩
    · exact Or.inl ⟨a, b⟩
    · have hne : 8 + 4 * e + c ≠ 8 + 4 * k + i := fun z => q ⟨by omega, by omega⟩
      have e1 : ∀ x, x < 32 → fa' (32 * (8 + 4 * e + c) + x) = fa (32 * (8 + 4 * e + c) + x) := fun x hx => ha _ (by omega) (by omega)
      have e2 : ∀ x, x < 32 → fw' (32 * (8 + 4 * e + c) + x) = fw (32 * (8 + 4 * e + c) + x) := fun x hx => hw _ (by omega) (by omega)
      exact Or.inr ⟨S, a1, a2, a3.cg (hm _ (by omega) hne) e1 e2, a4.cg (hm _ (by omega) hne) (by have := a3.1; have := a3.2.1; omega) e1 e2⟩
theorem up_e {eb eb' : Nat → Nat → Int32} {fb fb' : Nat → Int32} {k i : Nat} {v : Int32} (h : ∀ e, e < 4 → ∀ c, c < 4 → eb e c = fb (4 * e + c)) (hk : k ≤ 3) (hi : i ≤ 3) (a1 : ∀ e, e < 4 → e ≠ k → eb' e = eb e) (a2 : upd (eb k) i v = eb' k) (b : upd fb (4 * k + i) v = fb') : ∀ e, e < 4 → ∀ c, c < 4 → eb' e c = fb' (4 * e + c) := fun e he c hc => by
  rw [← b]
  by_cases q : e = k
  · subst q
    rw [← a2]
    by_cases z : c = i
    · rw [z, pk_us, pk_us]
    · rw [pk_un z, pk_un (by omega)]; exact h e he c hc
  · rw [a1 e he q, pk_un (by omega)]; exact h e he c hc
theorem TVQ.at {s : Nat} (h : TVQ tT ft fm fa fw fo fn) (hs : s ≤ 7) (ho : (tT s).isSome = true) : ∃ S, tT s = some S ∧ SLQ S fm fa fw s ∧ WHs (cN fm s) fa fw s := by
  rcases h s (by omega) with ⟨a, b⟩ | ⟨S, a1, a2, a3, a4, a5, a6, a7⟩
  · rw [a] at ho; cases ho
  · exact ⟨S, a1, a3, a7⟩
/-- a saying is told -/
theorem TVQ.say {c : Nat → Int} {jk p n v w K m : Nat} {S : SVal} {ft' fo' fn' : Nat → Int32} (h : TVQ tT ft fm fa fw fo fn) (hj : jk ≤ 7) (hK : 1 ≤ K ∧ K ≤ 32) (hm0 : 0 < m ∧ m ≤ 32) (hn2 : n ≤ 2) (hR : ∀ i, i < K → 8 ≤ aI c p i → gI c p i ≠ 0 ∧ (aI c p i < 10 → cb (gI c p i).testBit 32 = 1)) (s1 : S.1 = K) (s2 : OPX c p K S.2.1 S.2.2.1) (s3 : sNa S = n) (s4 : 0 < n → S.2.2.2.1 0 = nI v) (s5 : 1 < n → S.2.2.2.1 1 = nI w) (s6 : AFI n S.2.2.2.1)
    (m1 : ∀ i, i < K → fa' (32 * jk + i) = nI (aI c p i)) (m2 : ∀ i, i < K → fw' (32 * jk + i) = nI (gI c p i)) (m4 : ∀ j, j < 768 → (j < 32 * jk ∨ 32 * jk + 32 ≤ j) → fa' j = fa j) (m5 : ∀ j, j < 768 → (j < 32 * jk ∨ 32 * jk + 32 ≤ j) → fw' j = fw j) (m6 : cN fm' jk = K ∧ ∀ j, j < 24 → j ≠ jk → cN fm' j = cN fm j)
    (m7 : upd ft jk (nI m) = ft') (m8 : fn' jk = nI n ∧ ∀ j, j < 8 → j ≠ jk → fn' j = fn j) (m9 : (0 < n → fo' (2 * jk) = nI v) ∧ (1 < n → fo' (2 * jk + 1) = nI w) ∧ ∀ j, j < 16 → j ≠ 2 * jk → j ≠ 2 * jk + 1 → fo' j = fo j) : TVQ (va_up tT jk (some S)) ft' fm' fa' fw' fo' fn' := fun k hk => by
  by_cases q : k = jk
  · subst q
    refine Or.inr ⟨S, vup_s, ?_, ⟨by rw [m6.1]; exact s1, by omega, fun i hi => ?_⟩, ?_, by omega, fun a ha => ?_, ?_⟩
    · rw [← m7, pk_us, nI_toInt (by omega)]; omega
    · have h1 := s2 i (by omega)
      have e1 := m1 i (by omega)
      have e2 := m2 i (by omega)
      refine ⟨?_, ?_⟩
      · rw [h1.1]; unfold rO; rw [cN_of e1 (by omega)]
      · rw [h1.2.1]; unfold rA; rw [cN_of e1 (by omega), cN_of e2 (by omega)]
    · rw [s3]; unfold cN; rw [m8.1, nI_clamp (by omega)]
    · rw [s3] at ha
      obtain ⟨j, hj4, ej⟩ := s6 a ha
      refine ⟨?_, by rw [cN_of ej (by omega)]; exact hj4⟩
      rcases (show a = 0 ∨ a = 1 by omega) with z | z
      · subst z; show cN S.2.2.2.1 0 = cN fo' (2 * k); unfold cN; rw [s4 (by omega), m9.1 (by omega)]
      · subst z; unfold cN; rw [s5 (by omega), m9.2.1 (by omega)]
    · rw [m6.1]
      refine ⟨hK.1, fun i hi h8 => ?_⟩
      have h1 := s2 i hi
      rw [m1 i hi, nI_toInt (by omega)] at h8 ⊢
      have hg := hR i hi
      exact whs_of (m2 i hi) hg h1.2.2.1 h1.2.2.2 h8
  · rw [vup_n q, show ft' k = ft k by rw [← m7, pk_un q]]
    rcases h k hk with ⟨a, b⟩ | ⟨T, a1, a2, a3, a4, a5, a6, a7⟩
    · exact Or.inl ⟨a, b⟩
    · have e1 : ∀ i, i < 32 → fa' (32 * k + i) = fa (32 * k + i) := fun i hi => m4 _ (by omega) (by omega)
      have e2 : ∀ i, i < 32 → fw' (32 * k + i) = fw (32 * k + i) := fun i hi => m5 _ (by omega) (by omega)
      have em := m6.2 k (by omega) q
      refine Or.inr ⟨T, a1, a2, a3.cg em e1 e2, ?_, a5, fun a ha => ⟨?_, (a6 a ha).2⟩, a7.cg em (by have := a3.1; have := a3.2.1; omega) e1 e2⟩
      · rw [a4]; unfold cN; rw [m8.2 k hk q]
      · rw [(a6 a ha).1]; unfold cN; rw [m9.2.2 _ (by omega) (by omega) (by omega)]
theorem vup_if {α : Type} {f g : Nat → α} {i : Nat} {o : α} (h : f = va_up g i o) : ∀ c, c < 4 → f c = if c = i then o else g c := fun c _ => by
  rw [h]
  by_cases q : c = i
  · rw [q, vup_s, if_pos rfl]
  · rw [vup_n q, if_neg q]
theorem whn_ {k i : Nat} {v2 v3 v4 : Int32} (hV : TVQ tT ft fm fa fw fo fn) (hI : IVQ eT eb en fI fm fa fw fb fg) (hk : k ≤ 3) (hi : i ≤ 3) (a7 : ∀ e, e < 4 → e ≠ k → eT' e = eT e) (a8 : ∀ e, e < 4 → e ≠ k → eb' e = eb e) (a9 : ∀ e, e < 4 → e ≠ k → en' e = en e)
    (aa : (v2 = -4 ∧ eT' k = va_up (eT k) i none) ∨ ∃ s : Nat, v2 = nI s ∧ s ≤ 7 ∧ (tT s).isSome = true ∧ eT' k = va_up (eT k) i (tT s)) (ab : upd (eb k) i v3 = eb' k) (ac : upd (en k) i v4 = en' k)
    (b7 : (v2 = -4 ∧ upd fI (4 * k + i) 0 = fI' ∧ fm' = fm ∧ fa' = fa ∧ fw' = fw) ∨ ∃ s : Nat, v2 = nI s ∧ s ≤ 7 ∧ upd fI (4 * k + i) 1 = fI' ∧ upd fm (8 + 4 * k + i) (nI (cN fm s)) = fm' ∧ CPG 32 s (8 + 4 * k + i) 32 fa fa' ∧ CPG 32 s (8 + 4 * k + i) 32 fw fw') (b8 : upd fb (4 * k + i) v3 = fb') (b9 : upd fg (4 * k + i) v4 = fg') : TVQ tT ft fm' fa' fw' fo fn ∧ IVQ eT' eb' en' fI' fm' fa' fw' fb' fg' := by
  have hb := up_e (fun e he c hc => (hI e he c hc).2.1) hk hi a8 ab b8
  have hg := up_e (fun e he c hc => (hI e he c hc).2.2) hk hi a9 ac b9
  have e4 : (-4 : Int32).toInt = -4 := rfl
  rcases aa with ⟨y1, y2⟩ | ⟨s, y1, y2, y3, y4⟩
  · rcases b7 with ⟨z1, z2, z3, z4, z5⟩ | ⟨s', z1, z2, z3, z4, z5, z6⟩
    · rw [z3, z4, z5]
      exact ⟨hV, IVQ.giv (o := none) hI hk hi a7 (vup_if y2) (fun c _ q => by rw [← z2, pk_un q]) (fun _ _ _ => rfl) (fun _ _ _ => rfl) (fun _ _ _ => rfl) (Or.inl ⟨rfl, by rw [← z2, pk_us]⟩) hb hg⟩
    · exfalso
      have h := congrArg Int32.toInt (y1.symm.trans z1)
      rw [nI_toInt (by omega)] at h; omega
  · rcases b7 with ⟨z1, z2, z3, z4, z5⟩ | ⟨s', z1, z2, z3, z4, z5, z6⟩
    · exfalso
      have h := congrArg Int32.toInt (z1.symm.trans y1)
      rw [nI_toInt (by omega)] at h; omega
    · have e := (nI_eq (by omega) (by omega)).mp (y1.symm.trans z1)
      subst e
      obtain ⟨S, S1, S2, S3⟩ := hV.at y2 y3
      have h32 : cN fm s ≤ 32 := by have h1 := S2.1; have h2 := S2.2.1; omega
      exact ⟨TVQ.keep hV (fun j hj => cN_n z4 (by omega)) (fun j hj => z5.2 j (Or.inl (by omega))) (fun j hj => z6.2 j (Or.inl (by omega))), IVQ.giv (o := tT s) hI hk hi a7 (vup_if y4) (fun c _ q => by rw [← z3, pk_un q]) (fun j _ q => cN_n z4 q) (fun j _ q => z5.2 j q) (fun j _ q => z6.2 j q) (Or.inr ⟨S, S1, (by rw [← z3, pk_us]; decide), SLQ.cpy S2 z4 z5 z6, S3.cg (cN_s (by omega) z4) h32 (fun x hx => z5.1 x hx) (fun x hx => z6.1 x hx)⟩) hb hg⟩
theorem wrd_ {k d : Nat} {v2 : Int32} (hV : TVQ tT ft fm fa fw fo fn) (hI : IVQ eT eb en fI fm fa fw fb fg) (hk : k ≤ 3) (hd : d ≤ 2) (a7 : ∀ e, e < 4 → e ≠ k → eT' e = eT e) (a8 : ∀ e, e < 4 → e ≠ k → eb' e = eb e) (a9 : ∀ e, e < 4 → e ≠ k → en' e = en e)
    (aa : ∃ s : Nat, v2 = nI s ∧ s ≤ 7 ∧ (tT s).isSome = true ∧ ∀ c, c < 4 → eT' k c = if c = (if d = 2 then 1 else 0) then tT s else none) (ab : ∀ c, c < 4 → eb' k c = 0 ∧ en' k c = 0)
    (b7 : ∃ (s : Nat) (h : Nat → Int32), v2 = nI s ∧ s ≤ 7 ∧ Z4 k 4 fI h ∧ upd h (4 * k + (if d = 2 then 1 else 0)) 1 = fI' ∧ upd fm (8 + 4 * k + (if d = 2 then 1 else 0)) (nI (cN fm s)) = fm' ∧ CPG 32 s (8 + 4 * k + (if d = 2 then 1 else 0)) 32 fa fa' ∧ CPG 32 s (8 + 4 * k + (if d = 2 then 1 else 0)) 32 fw fw') (b8 : Z4 k 4 fb fb') (b9 : Z4 k 4 fg fg') : TVQ tT ft fm' fa' fw' fo fn ∧ IVQ eT' eb' en' fI' fm' fa' fw' fb' fg' := by
  obtain ⟨i, ei⟩ : ∃ i : Nat, (if d = 2 then 1 else 0) = i := ⟨_, rfl⟩
  have hi : i ≤ 3 := by rw [← ei]; split <;> omega
  rw [ei] at b7
  rw [ei] at aa
  obtain ⟨s, y1, y2, y3, y4⟩ := aa
  obtain ⟨s', h, z1, z2, z0, z3, z4, z5, z6⟩ := b7
  have e := (nI_eq (by omega) (by omega)).mp (y1.symm.trans z1)
  subst e
  obtain ⟨S, S1, S2, S3⟩ := hV.at y2 y3
  have h32 : cN fm s ≤ 32 := by have h1 := S2.1; have h2 := S2.2.1; omega
  obtain ⟨eT1, f1, f2⟩ : ∃ eT1 : Nat → Nat → Option SVal, (∀ e, e < 4 → e ≠ k → eT1 e = eT e) ∧ ∀ c, eT1 k c = none := ⟨fun e => if e = k then fun _ => none else eT e, fun e _ q => if_neg q, fun c => by show (if k = k then fun _ => none else eT k) c = none; rw [if_pos rfl]⟩
  have hC := IVQ.clr hI hk f1 a8 a9 ab (fun z _ => f2 z) z0 b8 b9
  exact ⟨TVQ.keep hV (fun j hj => cN_n z4 (by omega)) (fun j hj => z5.2 j (Or.inl (by omega))) (fun j hj => z6.2 j (Or.inl (by omega))), IVQ.giv (o := tT s) hC hk hi (fun e he q => (a7 e he q).trans (f1 e he q).symm) (fun c hc => by rw [y4 c hc, f2]) (fun c _ q => by rw [← z3, pk_un q]) (fun j _ q => cN_n z4 q) (fun j _ q => z5.2 j q) (fun j _ q => z6.2 j q) (Or.inr ⟨S, S1, (by rw [← z3, pk_us]; decide), SLQ.cpy S2 z4 z5 z6, S3.cg (cN_s (by omega) z4) h32 (fun x hx => z5.1 x hx) (fun x hx => z6.1 x hx)⟩) (fun e he c hc => (hC e he c hc).2.1) (fun e he c hc => (hC e he c hc).2.2)⟩
end TVQS
/-- a read that gives cells speaks of a sheet that is there -/
theorem rdA_st {t la sz l n q : Nat} {cl : Nat → Int32} {f x : Int32} {A B : Prop} (h : x = rdA t la sz cl l f n) (hx : x = nI q) (hq : q ≤ 24) (h01 : (t = 0 ∧ A) ∨ (t = 1 ∧ B)) : t = 1 := by
  rcases h01 with ⟨z, _⟩ | ⟨z, _⟩
  · exfalso
    unfold rdA at h
    rw [← chk_0 z, if_neg (by decide)] at h
    have h1 := congrArg Int32.toInt (h.symm.trans hx)
    rw [nI_toInt (by omega)] at h1
    have e : (-11 : Int32).toInt = -11 := rfl
    omega
  · exact z
/-! what is kept, on both sides -/
def KEQ (qm kc : Nat) (KV PG : Nat → AM) : Prop := qm = kc ∧ ∀ j, j < kc → KV j = PG (6 + j) ∧ (KV j).2.1 < (KV j).1
section KEQS
variable {qm kc kc' qm' : Nat} {KV KV' PG PG' : Nat → AM} {m : AM} {x y v0 : Int32} {s : ASt}
theorem KEQ.kp6 (h : KEQ qm kc KV PG) (hk : kc ≤ 4) (h6 : KP6 PG PG') : KEQ qm kc KV PG' := ⟨h.1, fun j hj => ⟨by rw [h6 (6 + j) (by omega) (by omega)]; exact (h.2 j hj).1, (h.2 j hj).2⟩⟩
theorem KEQ.n (h : KEQ qm kc KV PG) : ∀ j, j < qm → (PG (6 + j)).2.1 < (PG (6 + j)).1 := fun j hj => by
  rw [h.1] at hj
  have h1 := h.2 j hj
  rw [← h1.1]; exact h1.2
theorem KEQ.keep (h : KEQ qm kc KV PG) (hk : kc ≤ 4) (hx : KPx m.1 kc kc' m KV KV' x) (hm : KPx m.1 qm qm' m (fun i => PG (6 + i)) (fun i => PG' (6 + i)) y) : x = y ∧ KEQ qm' kc' KV' PG' := by
  have e := h.1
  subst e
  rcases hx with ⟨a1, a2, a3, a4⟩ | ⟨a1, a2, a3, a4, a5⟩ | ⟨a1, a2, a3, a4, a5, a6⟩
  · rcases hm with ⟨b1, b2, b3, b4⟩ | ⟨b1, b2, b3, b4, b5⟩ | ⟨b1, b2, b3, b4, b5, b6⟩
    · refine ⟨by rw [a2, b2], by omega, fun j hj => ?_⟩
      have h1 := h.2 j (by omega)
      have h2 : PG' (6 + j) = PG (6 + j) := b4 j (by omega)
      rw [a4 j (by omega), h2]; exact h1
    · exact absurd a1 b1
    · exact absurd a1 b1
  · rcases hm with ⟨b1, b2, b3, b4⟩ | ⟨b1, b2, b3, b4, b5⟩ | ⟨b1, b2, b3, b4, b5, b6⟩
    · exact absurd b1 a1
    · refine ⟨by rw [a3, b3], by omega, fun j hj => ?_⟩
      have h1 := h.2 j (by omega)
      have h2 : PG' (6 + j) = PG (6 + j) := b5 j (by omega)
      rw [a5 j (by omega), h2]; exact h1
    · exfalso; omega
  · rcases hm with ⟨b1, b2, b3, b4⟩ | ⟨b1, b2, b3, b4, b5⟩ | ⟨b1, b2, b3, b4, b5, b6⟩
    · exact absurd b1 a1
    · exfalso; omega
    · refine ⟨by rw [a3, b3], by omega, fun j hj => ?_⟩
      have h2 : PG' (6 + j) = if j = qm then m else PG (6 + j) := b6 j (by omega)
      rw [a6 j (by omega), h2]
      by_cases q : j = qm
      · rw [if_pos q, if_pos q]; exact ⟨rfl, a5⟩
      · rw [if_neg q, if_neg q]; exact h.2 j (by omega)
theorem tN_lt {k : Nat} (h : ¬ (v0.toInt < 0 ∨ (k : Int) ≤ v0.toInt)) (hk : k ≤ 100) : tN v0 < k := by
  unfold tN
  have h1 := i_cl (x := v0) (N := k - 1) (by omega) (by omega) (by omega)
  have h2 := h1.2
  omega
theorem KEQ.stand (h : KEQ qm kc KV PG) (hk : kc ≤ 4) : opStand s kc KV v0 = opStand s qm (fun i => PG (6 + i)) v0 := by
  have e := h.1
  subst e
  unfold opStand
  by_cases q : v0.toInt < 0 ∨ (qm : Int) ≤ v0.toInt
  · rw [if_pos q, if_pos q]
  · rw [if_neg q, if_neg q, (h.2 _ (tN_lt q (by omega))).1]
theorem KEQ.same (h : KEQ qm kc KV PG) (hk : kc ≤ 4) : ansSame m kc KV v0 = ansSame m qm (fun i => PG (6 + i)) v0 := by
  have e := h.1
  subst e
  unfold ansSame
  by_cases q : v0.toInt < 0 ∨ (qm : Int) ≤ v0.toInt
  · rw [if_pos q, if_pos q]
  · rw [if_neg q, if_neg q, (h.2 _ (tN_lt q (by omega))).1]
end KEQS
theorem KP6.of {PG PG' : Nat → AM} (h : KPA 0 PG PG') : KP6 PG PG' := KP6.kpa h
theorem asM_kpu {ud : Nat} {PG PG' : Nat → AM} (hu : ud ≤ 8) (h : KPU PG PG') : asM ud PG' = asM ud PG := asM_cg hu (h 0 (by omega) (Or.inl (by omega))) (fun p a b => h p b (Or.inr a))
theorem dep_un {m : AM} {v0 v1 x y : Int32} (h1 : ansDep m v0 v1 x) (h2 : ansDep m v0 v1 y) : x = y := by
  rcases h1 with ⟨a, b⟩ | ⟨a, b⟩
  · rcases h2 with ⟨c, d⟩ | ⟨c, d⟩
    · rw [b, d]
    · exfalso; omega
  · rcases h2 with ⟨c, d⟩ | ⟨c, d⟩
    · exfalso; omega
    · exact DEPx.uniq b d
theorem aRd_cg {F G : Nat → Int32} : ∀ n : Nat, (∀ i, i < n → F i = G i) → aRd F n = aRd G n
  | 0, _ => rfl
  | n + 1, h => by
    show aAdd (aRd F n) (F n) = aAdd (aRd G n) (G n)
    rw [aRd_cg n (fun i hi => h i (by omega)), h n (by omega)]
theorem cnt_cg {n r ts es kc ac pe tl n' r' ts' es' kc' ac' pe' tl' : Nat} {sh sh' v0 : Int32} (h1 : n = n') (h2 : r = r') (h3 : ts = ts') (h4 : es = es') (h5 : kc = kc') (h6 : ac = ac') (h7 : pe = pe') (h8 : tl = tl') (h9 : sh = sh') : ansCnt n r ts es kc ac pe tl sh v0 = ansCnt n' r' ts' es' kc' ac' pe' tl' sh' v0 := by
  subst h1; subst h2; subst h3; subst h4; subst h5; subst h6; subst h7; subst h8; subst h9; rfl
/-! the start -/
theorem am_0z {f g f' g' : Nat → Int32} : am 0 0 f g = am 0 0 f' g' := by
  unfold am
  refine Prod.ext rfl (Prod.ext rfl (Prod.ext ?_ ?_))
  · funext w
    show (if w < 0 then f w else 0) = (if w < 0 then f' w else 0)
    rw [if_neg (Nat.not_lt_zero w), if_neg (Nat.not_lt_zero w)]
  · funext k w v
    show (decide (k < 4) && (decide (w < 0) && bt (g (k * 24 + w)) v)) = (decide (k < 4) && (decide (w < 0) && bt (g' (k * 24 + w)) v))
    rw [decide_eq_false (Nat.not_lt_zero w), Bool.false_and, Bool.false_and]
theorem asz_0 {f g ff fp : Nat → Int32} {pV : Nat → AM} : asX (am 0 0 f g) 0 0 pV = asM 0 (pgs (fun _ => 0) (fun _ => 0) ff fp) := by
  unfold asX asM
  have h0 : cN (fun _ => (0 : Int32)) 0 = 0 := rfl
  refine Prod.ext ?_ (Prod.ext rfl ?_)
  · show am 0 0 f g = am (cN (fun _ => 0) 0) (cN (fun _ => 0) 0) _ _
    rw [h0]; exact am_0z
  · funext j
    show (if j < 0 then pV ((0 + 7 - j) % 8) else am0) = (if j < 0 then pgs (fun _ => 0) (fun _ => 0) ff fp (10 + 0 - 1 - j) else am0)
    rw [if_neg (Nat.not_lt_zero j), if_neg (Nat.not_lt_zero j)]
theorem keq0 {KV PG : Nat → AM} : KEQ 0 0 KV PG := ⟨rfl, fun j hj => absurd hj (Nat.not_lt_zero _)⟩
theorem tvq0 {fm fa fw fo fn : Nat → Int32} : TVQ (fun _ => none) (fun _ => 0) fm fa fw fo fn := fun k _ => Or.inl ⟨rfl, Int.le_refl _⟩
theorem p4n {e c : Nat} : pick4 (fun _ => (none : Option SVal)) (fun _ => none) (fun _ => none) (fun _ => none) e c = none := by unfold pick4; split <;> rfl
theorem ivq0 {eT : Nat → Nat → Option SVal} {eb en : Nat → Nat → Int32} {fm fa fw : Nat → Int32} (h1 : ∀ e c, eT e c = none) (h2 : ∀ e c, eb e c = 0) (h3 : ∀ e c, en e c = 0) : IVQ eT eb en (fun _ => 0) fm fa fw (fun _ => 0) (fun _ => 0) := fun e he c hc => ⟨Or.inl ⟨h1 e c, rfl⟩, h2 e c, h3 e c⟩
/-! what is asked of sayings -/
def SGQ (tT : Nat → Option SVal) (ft : Nat → Int32) : Prop := ∀ k, k < 8 → ∀ S, tT k = some S → nI S.2.2.2.2.1 = ft k ∧ S.2.2.2.2.2.1 = nI (dPl S.1 S.2.1) ∧ S.2.2.2.2.2.2.1 = nPl S.2.1 S.2.2.1 S.1
theorem sgq0 {ft : Nat → Int32} : SGQ (fun _ => none) ft := fun _ _ _ h => by cases h
theorem SGQ.say {tT : Nat → Option SVal} {ft ft' : Nat → Int32} {jk m : Nat} {S : SVal} (h : SGQ tT ft) (e : upd ft jk (nI m) = ft') (s1 : S.2.2.2.2.1 = m) (s2 : S.2.2.2.2.2.1 = nI (dPl S.1 S.2.1)) (s3 : S.2.2.2.2.2.2.1 = nPl S.2.1 S.2.2.1 S.1) : SGQ (va_up tT jk (some S)) ft' := fun k hk T hT => by
  by_cases q : k = jk
  · rw [q, vup_s] at hT
    cases hT
    rw [← e, q, pk_us, s1]; exact ⟨rfl, s2, s3⟩
  · rw [vup_n q] at hT
    rw [← e, pk_un q]; exact h k hk T hT
theorem SGQ.eq {tT : Nat → Option SVal} {ft fm fa fw fo fn : Nat → Int32} (h : SGQ tT ft) (hv : TVQ tT ft fm fa fw fo fn) : ∀ k, k < 8 → sy4T tT k = rSy ft fm fa fw fn k := fun k hk => by
  rcases hv k hk with ⟨a, b⟩ | ⟨S, a1, a2, a3, a4, a5, a6, a7⟩
  · unfold sy4T rSy; rw [a, if_neg (by omega)]; rfl
  · obtain ⟨h1, h2, h3⟩ := h k hk S a1
    have e1 : dPl S.1 S.2.1 = dPl (cN fm k) (rO fa k) := by rw [dPl_cg (fun i hi => (a3.2.2 i hi).1), a3.1]
    have e2 : nPl S.2.1 S.2.2.1 S.1 = nPl (rO fa k) (rA fa fw k) (cN fm k) := by rw [nPl_cg S.1 a3.2.2, a3.1]
    have e3 : S.2.2.2.2.2.2.2 = cN fn k := a4
    rw [sy4_at a1, rsy_at a2, ← h1, ← e1, ← e2, ← e3, ← h2, ← h3]
    rfl
end
