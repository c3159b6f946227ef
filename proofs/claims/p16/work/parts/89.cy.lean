set_option maxRecDepth 100000 in
theorem my_world {X : XT} {E : EV} {ws : va_W} {lv : List (Nat × Value)} {rest : List Value} {kC nC : Nat} {hx hm : Nat} {tl : Nat} {ct : Nat → Int} {pe : Nat} {kn : Int32} {st : Nat → Nat} {sn : Nat → Nat} {sl : Nat → Nat} {scx : Nat → Nat → Int32} {tT : Nat → Option SVal} {ec : Nat → Nat} {er : Nat → Nat} {ed : Nat → Nat → Int32} {q_taped : Nat} {cr : Nat → Int} {q_people : Nat} {f_secrets : Nat → Int32} {f_lanes : Nat → Int32} {f_lengths : Nat → Int32} {f_cells : Nat → Int32} {f_tokens : Nat → Int32} {f_afters : Nat → Int32} {f_caseMany : Nat → Int32} {f_happen : Nat → Int32} {f_heard : Nat → Int32} {v0 : Int32} (C : CX X room_1 cL_law 4 RL ret E) (hW : Nat.ble (rest.map fun v => v.category).sum 8 = true) (hk : kC ≤ 600000 ∧ nC ≤ 7302250) (hS : ST E hx hm tl ct pe kn st sn sl scx tT ec er ed q_taped cr q_people f_secrets f_lanes f_lengths f_cells f_tokens f_afters f_caseMany f_happen f_heard ws) (kont : ∀ (rr : Int32) (wsZ : va_W), ST E hx hm tl ct pe kn st sn sl scx tT ec er ed q_taped cr q_people f_secrets f_lanes f_lengths f_cells f_tokens f_afters f_caseMany f_happen f_heard wsZ → (True) → WW X 4 E 219 lv (.int rr :: rest) wsZ kC nC) : WW X 4 E 216 lv (.int v0 :: .ref hm :: rest) ws kC nC := by
  unfold ST at hS
  refine ex8 hS ?_
  clear hS
  intro h qp qs qj ly qh kk rd hS
  refine ex8 hS ?_
  clear hS
  intro pg ss ac np kc w_now w_past w_pars hS
  refine ex8 hS ?_
  clear hS
  intro w_judg w_layr w_heap w_kept w_rnds w_plnr w_shts wm hS
  refine ex1 hS ?_
  clear hS
  intro ro hS
  refine an8 hS ?_
  clear hS
  intro hac hnp hkc hpe H_now H_past H_pars H_judg hS
  refine an7 hS ?_
  clear hS
  intro H_layr H_heap H_kept H_rnds H_plnr H_shts H_ref hS
  have we_st := hS
  clear hS
  subst we_st
  refine ww_perm (ws' := wm ++ ([(hx, .inr (11, [.ref h, .ref qp, .int (nI ac), .int (nI np), .ref qs, .ref qj, .ref ly, .ref qh, .ref kk, .int (nI kc), .ref rd, .ref pg, .int (nI pe), .int kn, .ref ss]))] ++ (w_now ++ (w_past ++ (w_pars ++ (w_judg ++ (w_layr ++ (w_heap ++ (w_kept ++ (w_rnds ++ (w_plnr ++ (w_shts ++ ro)))))))))))) ((List.Perm.append_left _ ((List.Perm.append_left _ ((List.Perm.append_left _ ((List.Perm.append_left _ ((List.Perm.append_left _ ((List.Perm.append_left _ ((List.Perm.append_left _ ((List.Perm.append_left _ ((List.Perm.append_left _ ((List.Perm.append_left _ ((List.Perm.append_left _ (List.Perm.refl _)).trans (List.perm_append_comm_assoc _ _ _))).trans (List.perm_append_comm_assoc _ _ _))).trans (List.perm_append_comm_assoc _ _ _))).trans (List.perm_append_comm_assoc _ _ _))).trans (List.perm_append_comm_assoc _ _ _))).trans (List.perm_append_comm_assoc _ _ _))).trans (List.perm_append_comm_assoc _ _ _))).trans (List.perm_append_comm_assoc _ _ _))).trans (List.perm_append_comm_assoc _ _ _))).trans (List.perm_append_comm_assoc _ _ _))).trans (List.perm_append_comm_assoc _ _ _)) ?_
  refine lm_world C hW hk H_ref (fun rr wmZ H_refZ hE => ?_)
  refine ww_perm (ws' := [(hx, .inr (11, [.ref h, .ref qp, .int (nI ac), .int (nI np), .ref qs, .ref qj, .ref ly, .ref qh, .ref kk, .int (nI kc), .ref rd, .ref pg, .int (nI pe), .int kn, .ref ss]))] ++ (w_now ++ (w_past ++ (w_pars ++ (w_judg ++ (w_layr ++ (w_heap ++ (w_kept ++ (w_rnds ++ (w_plnr ++ (w_shts ++ (wmZ ++ ro)))))))))))) ((List.Perm.append_left _ ((List.Perm.append_left _ ((List.Perm.append_left _ ((List.Perm.append_left _ ((List.Perm.append_left _ ((List.Perm.append_left _ ((List.Perm.append_left _ ((List.Perm.append_left _ ((List.Perm.append_left _ ((List.Perm.append_left _ ((List.Perm.append_left _ (List.Perm.refl _)).trans (List.perm_append_comm_assoc _ _ _))).trans (List.perm_append_comm_assoc _ _ _))).trans (List.perm_append_comm_assoc _ _ _))).trans (List.perm_append_comm_assoc _ _ _))).trans (List.perm_append_comm_assoc _ _ _))).trans (List.perm_append_comm_assoc _ _ _))).trans (List.perm_append_comm_assoc _ _ _))).trans (List.perm_append_comm_assoc _ _ _))).trans (List.perm_append_comm_assoc _ _ _))).trans (List.perm_append_comm_assoc _ _ _))).trans (List.perm_append_comm_assoc _ _ _)).symm ?_
  exact kont rr  _ ⟨h, qp, qs, qj, ly, qh, kk, rd, pg, ss, ac, np, kc, w_now, w_past, w_pars, w_judg, w_layr, w_heap, w_kept, w_rnds, w_plnr, w_shts, wmZ, ro, hac, hnp, hkc, hpe, H_now, H_past, H_pars, H_judg, H_layr, H_heap, H_kept, H_rnds, H_plnr, H_shts, H_refZ, rfl⟩ hE
set_option maxRecDepth 100000 in
theorem my_sees {X : XT} {E : EV} {ws : va_W} {lv : List (Nat × Value)} {rest : List Value} {kC nC : Nat} {hx hm : Nat} {tl : Nat} {ct : Nat → Int} {pe : Nat} {kn : Int32} {st : Nat → Nat} {sn : Nat → Nat} {sl : Nat → Nat} {scx : Nat → Nat → Int32} {tT : Nat → Option SVal} {ec : Nat → Nat} {er : Nat → Nat} {ed : Nat → Nat → Int32} {q_taped : Nat} {cr : Nat → Int} {q_people : Nat} {f_secrets : Nat → Int32} {f_lanes : Nat → Int32} {f_lengths : Nat → Int32} {f_cells : Nat → Int32} {f_tokens : Nat → Int32} {f_afters : Nat → Int32} {f_caseMany : Nat → Int32} {f_happen : Nat → Int32} {f_heard : Nat → Int32} {v0 : Int32} {v1 : Int32} {v2 : Int32} {v3 : Int32} {v4 : Int32} (C : CX X room_1 cL_law 4 RL ret E) (hW : Nat.ble (rest.map fun v => v.category).sum 8 = true) (hk : kC ≤ 600000 ∧ nC ≤ 7302250) (hS : ST E hx hm tl ct pe kn st sn sl scx tT ec er ed q_taped cr q_people f_secrets f_lanes f_lengths f_cells f_tokens f_afters f_caseMany f_happen f_heard ws) (kont : ∀ (rr : Int32) (wsZ : va_W), ST E hx hm tl ct pe kn st sn sl scx tT ec er ed q_taped cr q_people f_secrets f_lanes f_lengths f_cells f_tokens f_afters f_caseMany f_happen f_heard wsZ → (True) → WW X 4 E 314 lv (.int rr :: rest) wsZ kC nC) : WW X 4 E 311 lv (.int v4 :: .int v3 :: .int v2 :: .int v1 :: .int v0 :: .ref hm :: rest) ws kC nC := by
  unfold ST at hS
  refine ex8 hS ?_
  clear hS
  intro h qp qs qj ly qh kk rd hS
  refine ex8 hS ?_
  clear hS
  intro pg ss ac np kc w_now w_past w_pars hS
  refine ex8 hS ?_
  clear hS
  intro w_judg w_layr w_heap w_kept w_rnds w_plnr w_shts wm hS
  refine ex1 hS ?_
  clear hS
  intro ro hS
  refine an8 hS ?_
  clear hS
  intro hac hnp hkc hpe H_now H_past H_pars H_judg hS
  refine an7 hS ?_
  clear hS
  intro H_layr H_heap H_kept H_rnds H_plnr H_shts H_ref hS
  have we_st := hS
  clear hS
  subst we_st
  refine ww_perm (ws' := wm ++ ([(hx, .inr (11, [.ref h, .ref qp, .int (nI ac), .int (nI np), .ref qs, .ref qj, .ref ly, .ref qh, .ref kk, .int (nI kc), .ref rd, .ref pg, .int (nI pe), .int kn, .ref ss]))] ++ (w_now ++ (w_past ++ (w_pars ++ (w_judg ++ (w_layr ++ (w_heap ++ (w_kept ++ (w_rnds ++ (w_plnr ++ (w_shts ++ ro)))))))))))) ((List.Perm.append_left _ ((List.Perm.append_left _ ((List.Perm.append_left _ ((List.Perm.append_left _ ((List.Perm.append_left _ ((List.Perm.append_left _ ((List.Perm.append_left _ ((List.Perm.append_left _ ((List.Perm.append_left _ ((List.Perm.append_left _ ((List.Perm.append_left _ (List.Perm.refl _)).trans (List.perm_append_comm_assoc _ _ _))).trans (List.perm_append_comm_assoc _ _ _))).trans (List.perm_append_comm_assoc _ _ _))).trans (List.perm_append_comm_assoc _ _ _))).trans (List.perm_append_comm_assoc _ _ _))).trans (List.perm_append_comm_assoc _ _ _))).trans (List.perm_append_comm_assoc _ _ _))).trans (List.perm_append_comm_assoc _ _ _))).trans (List.perm_append_comm_assoc _ _ _))).trans (List.perm_append_comm_assoc _ _ _))).trans (List.perm_append_comm_assoc _ _ _)) ?_
  refine lm_sees C hW hk H_ref (fun rr wmZ H_refZ hE => ?_)
  refine ww_perm (ws' := [(hx, .inr (11, [.ref h, .ref qp, .int (nI ac), .int (nI np), .ref qs, .ref qj, .ref ly, .ref qh, .ref kk, .int (nI kc), .ref rd, .ref pg, .int (nI pe), .int kn, .ref ss]))] ++ (w_now ++ (w_past ++ (w_pars ++ (w_judg ++ (w_layr ++ (w_heap ++ (w_kept ++ (w_rnds ++ (w_plnr ++ (w_shts ++ (wmZ ++ ro)))))))))))) ((List.Perm.append_left _ ((List.Perm.append_left _ ((List.Perm.append_left _ ((List.Perm.append_left _ ((List.Perm.append_left _ ((List.Perm.append_left _ ((List.Perm.append_left _ ((List.Perm.append_left _ ((List.Perm.append_left _ ((List.Perm.append_left _ ((List.Perm.append_left _ (List.Perm.refl _)).trans (List.perm_append_comm_assoc _ _ _))).trans (List.perm_append_comm_assoc _ _ _))).trans (List.perm_append_comm_assoc _ _ _))).trans (List.perm_append_comm_assoc _ _ _))).trans (List.perm_append_comm_assoc _ _ _))).trans (List.perm_append_comm_assoc _ _ _))).trans (List.perm_append_comm_assoc _ _ _))).trans (List.perm_append_comm_assoc _ _ _))).trans (List.perm_append_comm_assoc _ _ _))).trans (List.perm_append_comm_assoc _ _ _))).trans (List.perm_append_comm_assoc _ _ _)).symm ?_
  exact kont rr  _ ⟨h, qp, qs, qj, ly, qh, kk, rd, pg, ss, ac, np, kc, w_now, w_past, w_pars, w_judg, w_layr, w_heap, w_kept, w_rnds, w_plnr, w_shts, wmZ, ro, hac, hnp, hkc, hpe, H_now, H_past, H_pars, H_judg, H_layr, H_heap, H_kept, H_rnds, H_plnr, H_shts, H_refZ, rfl⟩ hE
set_option maxRecDepth 100000 in
theorem my_blind {X : XT} {E : EV} {ws : va_W} {lv : List (Nat × Value)} {rest : List Value} {kC nC : Nat} {hx hm : Nat} {tl : Nat} {ct : Nat → Int} {pe : Nat} {kn : Int32} {st : Nat → Nat} {sn : Nat → Nat} {sl : Nat → Nat} {scx : Nat → Nat → Int32} {tT : Nat → Option SVal} {ec : Nat → Nat} {er : Nat → Nat} {ed : Nat → Nat → Int32} {q_taped : Nat} {cr : Nat → Int} {q_people : Nat} {f_secrets : Nat → Int32} {f_lanes : Nat → Int32} {f_lengths : Nat → Int32} {f_cells : Nat → Int32} {f_tokens : Nat → Int32} {f_afters : Nat → Int32} {f_caseMany : Nat → Int32} {f_happen : Nat → Int32} {f_heard : Nat → Int32} {v0 : Int32} (C : CX X room_1 cL_law 4 RL ret E) (hW : Nat.ble (rest.map fun v => v.category).sum 8 = true) (hk : kC ≤ 600000 ∧ nC ≤ 7302250) (hS : ST E hx hm tl ct pe kn st sn sl scx tT ec er ed q_taped cr q_people f_secrets f_lanes f_lengths f_cells f_tokens f_afters f_caseMany f_happen f_heard ws) (kont : ∀ (rr : Int32) (wsZ : va_W), ST E hx hm tl ct pe kn st sn sl scx tT ec er ed q_taped cr q_people f_secrets f_lanes f_lengths f_cells f_tokens f_afters f_caseMany f_happen f_heard wsZ → (True) → WW X 4 E 337 lv (.int rr :: rest) wsZ kC nC) : WW X 4 E 334 lv (.int v0 :: .ref hm :: rest) ws kC nC := by
  unfold ST at hS
  refine ex8 hS ?_
  clear hS
  intro h qp qs qj ly qh kk rd hS
  refine ex8 hS ?_
  clear hS
  intro pg ss ac np kc w_now w_past w_pars hS
  refine ex8 hS ?_
  clear hS
  intro w_judg w_layr w_heap w_kept w_rnds w_plnr w_shts wm hS
  refine ex1 hS ?_
  clear hS
  intro ro hS
  refine an8 hS ?_
  clear hS
  intro hac hnp hkc hpe H_now H_past H_pars H_judg hS
  refine an7 hS ?_
  clear hS
  intro H_layr H_heap H_kept H_rnds H_plnr H_shts H_ref hS
  have we_st := hS
  clear hS
  subst we_st
  refine ww_perm (ws' := wm ++ ([(hx, .inr (11, [.ref h, .ref qp, .int (nI ac), .int (nI np), .ref qs, .ref qj, .ref ly, .ref qh, .ref kk, .int (nI kc), .ref rd, .ref pg, .int (nI pe), .int kn, .ref ss]))] ++ (w_now ++ (w_past ++ (w_pars ++ (w_judg ++ (w_layr ++ (w_heap ++ (w_kept ++ (w_rnds ++ (w_plnr ++ (w_shts ++ ro)))))))))))) ((List.Perm.append_left _ ((List.Perm.append_left _ ((List.Perm.append_left _ ((List.Perm.append_left _ ((List.Perm.append_left _ ((List.Perm.append_left _ ((List.Perm.append_left _ ((List.Perm.append_left _ ((List.Perm.append_left _ ((List.Perm.append_left _ ((List.Perm.append_left _ (List.Perm.refl _)).trans (List.perm_append_comm_assoc _ _ _))).trans (List.perm_append_comm_assoc _ _ _))).trans (List.perm_append_comm_assoc _ _ _))).trans (List.perm_append_comm_assoc _ _ _))).trans (List.perm_append_comm_assoc _ _ _))).trans (List.perm_append_comm_assoc _ _ _))).trans (List.perm_append_comm_assoc _ _ _))).trans (List.perm_append_comm_assoc _ _ _))).trans (List.perm_append_comm_assoc _ _ _))).trans (List.perm_append_comm_assoc _ _ _))).trans (List.perm_append_comm_assoc _ _ _)) ?_
  refine lm_blind C hW hk H_ref (fun rr wmZ H_refZ hE => ?_)
  refine ww_perm (ws' := [(hx, .inr (11, [.ref h, .ref qp, .int (nI ac), .int (nI np), .ref qs, .ref qj, .ref ly, .ref qh, .ref kk, .int (nI kc), .ref rd, .ref pg, .int (nI pe), .int kn, .ref ss]))] ++ (w_now ++ (w_past ++ (w_pars ++ (w_judg ++ (w_layr ++ (w_heap ++ (w_kept ++ (w_rnds ++ (w_plnr ++ (w_shts ++ (wmZ ++ ro)))))))))))) ((List.Perm.append_left _ ((List.Perm.append_left _ ((List.Perm.append_left _ ((List.Perm.append_left _ ((List.Perm.append_left _ ((List.Perm.append_left _ ((List.Perm.append_left _ ((List.Perm.append_left _ ((List.Perm.append_left _ ((List.Perm.append_left _ ((List.Perm.append_left _ (List.Perm.refl _)).trans (List.perm_append_comm_assoc _ _ _))).trans (List.perm_append_comm_assoc _ _ _))).trans (List.perm_append_comm_assoc _ _ _))).trans (List.perm_append_comm_assoc _ _ _))).trans (List.perm_append_comm_assoc _ _ _))).trans (List.perm_append_comm_assoc _ _ _))).trans (List.perm_append_comm_assoc _ _ _))).trans (List.perm_append_comm_assoc _ _ _))).trans (List.perm_append_comm_assoc _ _ _))).trans (List.perm_append_comm_assoc _ _ _))).trans (List.perm_append_comm_assoc _ _ _)).symm ?_
  exact kont rr  _ ⟨h, qp, qs, qj, ly, qh, kk, rd, pg, ss, ac, np, kc, w_now, w_past, w_pars, w_judg, w_layr, w_heap, w_kept, w_rnds, w_plnr, w_shts, wmZ, ro, hac, hnp, hkc, hpe, H_now, H_past, H_pars, H_judg, H_layr, H_heap, H_kept, H_rnds, H_plnr, H_shts, H_refZ, rfl⟩ hE
set_option maxRecDepth 100000 in
theorem my_real {X : XT} {E : EV} {ws : va_W} {lv : List (Nat × Value)} {rest : List Value} {kC nC : Nat} {hx hm : Nat} {tl : Nat} {ct : Nat → Int} {pe : Nat} {kn : Int32} {st : Nat → Nat} {sn : Nat → Nat} {sl : Nat → Nat} {scx : Nat → Nat → Int32} {tT : Nat → Option SVal} {ec : Nat → Nat} {er : Nat → Nat} {ed : Nat → Nat → Int32} {q_taped : Nat} {cr : Nat → Int} {q_people : Nat} {f_secrets : Nat → Int32} {f_lanes : Nat → Int32} {f_lengths : Nat → Int32} {f_cells : Nat → Int32} {f_tokens : Nat → Int32} {f_afters : Nat → Int32} {f_caseMany : Nat → Int32} {f_happen : Nat → Int32} {f_heard : Nat → Int32} {v0 : Int32} (C : CX X room_1 cL_law 4 RL ret E) (hW : Nat.ble (rest.map fun v => v.category).sum 8 = true) (hk : kC ≤ 600000 ∧ nC ≤ 7302250) (hS : ST E hx hm tl ct pe kn st sn sl scx tT ec er ed q_taped cr q_people f_secrets f_lanes f_lengths f_cells f_tokens f_afters f_caseMany f_happen f_heard ws) (kont : ∀ (rr : Int32) (wsZ : va_W), ST E hx hm tl ct pe kn st sn sl scx tT ec er ed q_taped cr q_people f_secrets f_lanes f_lengths f_cells f_tokens f_afters f_caseMany f_happen f_heard wsZ → (True) → WW X 4 E 360 lv (.int rr :: rest) wsZ kC nC) : WW X 4 E 357 lv (.int v0 :: .ref hm :: rest) ws kC nC := by
  unfold ST at hS
  refine ex8 hS ?_
  clear hS
  intro h qp qs qj ly qh kk rd hS
  refine ex8 hS ?_
  clear hS
  intro pg ss ac np kc w_now w_past w_pars hS
  refine ex8 hS ?_
  clear hS
  intro w_judg w_layr w_heap w_kept w_rnds w_plnr w_shts wm hS
  refine ex1 hS ?_
  clear hS
  intro ro hS
  refine an8 hS ?_
  clear hS
  intro hac hnp hkc hpe H_now H_past H_pars H_judg hS
  refine an7 hS ?_
  clear hS
  intro H_layr H_heap H_kept H_rnds H_plnr H_shts H_ref hS
  have we_st := hS
  clear hS
  subst we_st
  refine ww_perm (ws' := wm ++ ([(hx, .inr (11, [.ref h, .ref qp, .int (nI ac), .int (nI np), .ref qs, .ref qj, .ref ly, .ref qh, .ref kk, .int (nI kc), .ref rd, .ref pg, .int (nI pe), .int kn, .ref ss]))] ++ (w_now ++ (w_past ++ (w_pars ++ (w_judg ++ (w_layr ++ (w_heap ++ (w_kept ++ (w_rnds ++ (w_plnr ++ (w_shts ++ ro)))))))))))) ((List.Perm.append_left _ ((List.Perm.append_left _ ((List.Perm.append_left _ ((List.Perm.append_left _ ((List.Perm.append_left _ ((List.Perm.append_left _ ((List.Perm.append_left _ ((List.Perm.append_left _ ((List.Perm.append_left _ ((List.Perm.append_left _ ((List.Perm.append_left _ (List.Perm.refl _)).trans (List.perm_append_comm_assoc _ _ _))).trans (List.perm_append_comm_assoc _ _ _))).trans (List.perm_append_comm_assoc _ _ _))).trans (List.perm_append_comm_assoc _ _ _))).trans (List.perm_append_comm_assoc _ _ _))).trans (List.perm_append_comm_assoc _ _ _))).trans (List.perm_append_comm_assoc _ _ _))).trans (List.perm_append_comm_assoc _ _ _))).trans (List.perm_append_comm_assoc _ _ _))).trans (List.perm_append_comm_assoc _ _ _))).trans (List.perm_append_comm_assoc _ _ _)) ?_
  refine lm_real C hW hk H_ref (fun rr wmZ H_refZ hE => ?_)
  refine ww_perm (ws' := [(hx, .inr (11, [.ref h, .ref qp, .int (nI ac), .int (nI np), .ref qs, .ref qj, .ref ly, .ref qh, .ref kk, .int (nI kc), .ref rd, .ref pg, .int (nI pe), .int kn, .ref ss]))] ++ (w_now ++ (w_past ++ (w_pars ++ (w_judg ++ (w_layr ++ (w_heap ++ (w_kept ++ (w_rnds ++ (w_plnr ++ (w_shts ++ (wmZ ++ ro)))))))))))) ((List.Perm.append_left _ ((List.Perm.append_left _ ((List.Perm.append_left _ ((List.Perm.append_left _ ((List.Perm.append_left _ ((List.Perm.append_left _ ((List.Perm.append_left _ ((List.Perm.append_left _ ((List.Perm.append_left _ ((List.Perm.append_left _ ((List.Perm.append_left _ (List.Perm.refl _)).trans (List.perm_append_comm_assoc _ _ _))).trans (List.perm_append_comm_assoc _ _ _))).trans (List.perm_append_comm_assoc _ _ _))).trans (List.perm_append_comm_assoc _ _ _))).trans (List.perm_append_comm_assoc _ _ _))).trans (List.perm_append_comm_assoc _ _ _))).trans (List.perm_append_comm_assoc _ _ _))).trans (List.perm_append_comm_assoc _ _ _))).trans (List.perm_append_comm_assoc _ _ _))).trans (List.perm_append_comm_assoc _ _ _))).trans (List.perm_append_comm_assoc _ _ _)).symm ?_
  exact kont rr  _ ⟨h, qp, qs, qj, ly, qh, kk, rd, pg, ss, ac, np, kc, w_now, w_past, w_pars, w_judg, w_layr, w_heap, w_kept, w_rnds, w_plnr, w_shts, wmZ, ro, hac, hnp, hkc, hpe, H_now, H_past, H_pars, H_judg, H_layr, H_heap, H_kept, H_rnds, H_plnr, H_shts, H_refZ, rfl⟩ hE
set_option maxRecDepth 100000 in
theorem my_of {X : XT} {E : EV} {ws : va_W} {lv : List (Nat × Value)} {rest : List Value} {kC nC : Nat} {hx hm : Nat} {tl : Nat} {ct : Nat → Int} {pe : Nat} {kn : Int32} {st : Nat → Nat} {sn : Nat → Nat} {sl : Nat → Nat} {scx : Nat → Nat → Int32} {tT : Nat → Option SVal} {ec : Nat → Nat} {er : Nat → Nat} {ed : Nat → Nat → Int32} {q_taped : Nat} {cr : Nat → Int} {q_people : Nat} {f_secrets : Nat → Int32} {f_lanes : Nat → Int32} {f_lengths : Nat → Int32} {f_cells : Nat → Int32} {f_tokens : Nat → Int32} {f_afters : Nat → Int32} {f_caseMany : Nat → Int32} {f_happen : Nat → Int32} {f_heard : Nat → Int32} {v0 : Int32} {v1 : Int32} (C : CX X room_1 cL_law 4 RL ret E) (hW : Nat.ble (rest.map fun v => v.category).sum 8 = true) (hk : kC ≤ 600000 ∧ nC ≤ 7302250) (hS : ST E hx hm tl ct pe kn st sn sl scx tT ec er ed q_taped cr q_people f_secrets f_lanes f_lengths f_cells f_tokens f_afters f_caseMany f_happen f_heard ws) (kont : ∀ (rr : Int32) (wsZ : va_W), ST E hx hm tl ct pe kn st sn sl scx tT ec er ed q_taped cr q_people f_secrets f_lanes f_lengths f_cells f_tokens f_afters f_caseMany f_happen f_heard wsZ → (True) → WW X 4 E 393 lv (.int rr :: rest) wsZ kC nC) : WW X 4 E 390 lv (.int v1 :: .int v0 :: .ref hm :: rest) ws kC nC := by
  unfold ST at hS
  refine ex8 hS ?_
  clear hS
  intro h qp qs qj ly qh kk rd hS
  refine ex8 hS ?_
  clear hS
  intro pg ss ac np kc w_now w_past w_pars hS
  refine ex8 hS ?_
  clear hS
  intro w_judg w_layr w_heap w_kept w_rnds w_plnr w_shts wm hS
  refine ex1 hS ?_
  clear hS
  intro ro hS
  refine an8 hS ?_
  clear hS
  intro hac hnp hkc hpe H_now H_past H_pars H_judg hS
  refine an7 hS ?_
  clear hS
  intro H_layr H_heap H_kept H_rnds H_plnr H_shts H_ref hS
  have we_st := hS
  clear hS
  subst we_st
  refine ww_perm (ws' := wm ++ ([(hx, .inr (11, [.ref h, .ref qp, .int (nI ac), .int (nI np), .ref qs, .ref qj, .ref ly, .ref qh, .ref kk, .int (nI kc), .ref rd, .ref pg, .int (nI pe), .int kn, .ref ss]))] ++ (w_now ++ (w_past ++ (w_pars ++ (w_judg ++ (w_layr ++ (w_heap ++ (w_kept ++ (w_rnds ++ (w_plnr ++ (w_shts ++ ro)))))))))))) ((List.Perm.append_left _ ((List.Perm.append_left _ ((List.Perm.append_left _ ((List.Perm.append_left _ ((List.Perm.append_left _ ((List.Perm.append_left _ ((List.Perm.append_left _ ((List.Perm.append_left _ ((List.Perm.append_left _ ((List.Perm.append_left _ ((List.Perm.append_left _ (List.Perm.refl _)).trans (List.perm_append_comm_assoc _ _ _))).trans (List.perm_append_comm_assoc _ _ _))).trans (List.perm_append_comm_assoc _ _ _))).trans (List.perm_append_comm_assoc _ _ _))).trans (List.perm_append_comm_assoc _ _ _))).trans (List.perm_append_comm_assoc _ _ _))).trans (List.perm_append_comm_assoc _ _ _))).trans (List.perm_append_comm_assoc _ _ _))).trans (List.perm_append_comm_assoc _ _ _))).trans (List.perm_append_comm_assoc _ _ _))).trans (List.perm_append_comm_assoc _ _ _)) ?_
  refine lm_of C hW hk H_ref (fun rr wmZ H_refZ hE => ?_)
  refine ww_perm (ws' := [(hx, .inr (11, [.ref h, .ref qp, .int (nI ac), .int (nI np), .ref qs, .ref qj, .ref ly, .ref qh, .ref kk, .int (nI kc), .ref rd, .ref pg, .int (nI pe), .int kn, .ref ss]))] ++ (w_now ++ (w_past ++ (w_pars ++ (w_judg ++ (w_layr ++ (w_heap ++ (w_kept ++ (w_rnds ++ (w_plnr ++ (w_shts ++ (wmZ ++ ro)))))))))))) ((List.Perm.append_left _ ((List.Perm.append_left _ ((List.Perm.append_left _ ((List.Perm.append_left _ ((List.Perm.append_left _ ((List.Perm.append_left _ ((List.Perm.append_left _ ((List.Perm.append_left _ ((List.Perm.append_left _ ((List.Perm.append_left _ ((List.Perm.append_left _ (List.Perm.refl _)).trans (List.perm_append_comm_assoc _ _ _))).trans (List.perm_append_comm_assoc _ _ _))).trans (List.perm_append_comm_assoc _ _ _))).trans (List.perm_append_comm_assoc _ _ _))).trans (List.perm_append_comm_assoc _ _ _))).trans (List.perm_append_comm_assoc _ _ _))).trans (List.perm_append_comm_assoc _ _ _))).trans (List.perm_append_comm_assoc _ _ _))).trans (List.perm_append_comm_assoc _ _ _))).trans (List.perm_append_comm_assoc _ _ _))).trans (List.perm_append_comm_assoc _ _ _)).symm ?_
  exact kont rr  _ ⟨h, qp, qs, qj, ly, qh, kk, rd, pg, ss, ac, np, kc, w_now, w_past, w_pars, w_judg, w_layr, w_heap, w_kept, w_rnds, w_plnr, w_shts, wmZ, ro, hac, hnp, hkc, hpe, H_now, H_past, H_pars, H_judg, H_layr, H_heap, H_kept, H_rnds, H_plnr, H_shts, H_refZ, rfl⟩ hE
set_option maxRecDepth 100000 in
theorem my_reach {X : XT} {E : EV} {ws : va_W} {lv : List (Nat × Value)} {rest : List Value} {kC nC : Nat} {hx hm : Nat} {tl : Nat} {ct : Nat → Int} {pe : Nat} {kn : Int32} {st : Nat → Nat} {sn : Nat → Nat} {sl : Nat → Nat} {scx : Nat → Nat → Int32} {tT : Nat → Option SVal} {ec : Nat → Nat} {er : Nat → Nat} {ed : Nat → Nat → Int32} {q_taped : Nat} {cr : Nat → Int} {q_people : Nat} {f_secrets : Nat → Int32} {f_lanes : Nat → Int32} {f_lengths : Nat → Int32} {f_cells : Nat → Int32} {f_tokens : Nat → Int32} {f_afters : Nat → Int32} {f_caseMany : Nat → Int32} {f_happen : Nat → Int32} {f_heard : Nat → Int32} {v0 : Int32} {v1 : Int32} (C : CX X room_1 cL_law 4 RL ret E) (hW : Nat.ble (rest.map fun v => v.category).sum 8 = true) (hk : kC ≤ 600000 ∧ nC ≤ 7302250) (hS : ST E hx hm tl ct pe kn st sn sl scx tT ec er ed q_taped cr q_people f_secrets f_lanes f_lengths f_cells f_tokens f_afters f_caseMany f_happen f_heard ws) (kont : ∀ (rr : Int32) (wsZ : va_W), ST E hx hm tl ct pe kn st sn sl scx tT ec er ed q_taped cr q_people f_secrets f_lanes f_lengths f_cells f_tokens f_afters f_caseMany f_happen f_heard wsZ → (True) → WW X 4 E 426 lv (.int rr :: rest) wsZ kC nC) : WW X 4 E 423 lv (.int v1 :: .int v0 :: .ref hm :: rest) ws kC nC := by
  unfold ST at hS
  refine ex8 hS ?_
  clear hS
  intro h qp qs qj ly qh kk rd hS
  refine ex8 hS ?_
  clear hS
  intro pg ss ac np kc w_now w_past w_pars hS
  refine ex8 hS ?_
  clear hS
  intro w_judg w_layr w_heap w_kept w_rnds w_plnr w_shts wm hS
  refine ex1 hS ?_
  clear hS
  intro ro hS
  refine an8 hS ?_
  clear hS
  intro hac hnp hkc hpe H_now H_past H_pars H_judg hS
  refine an7 hS ?_
  clear hS
  intro H_layr H_heap H_kept H_rnds H_plnr H_shts H_ref hS
  have we_st := hS
  clear hS
  subst we_st
  refine ww_perm (ws' := wm ++ ([(hx, .inr (11, [.ref h, .ref qp, .int (nI ac), .int (nI np), .ref qs, .ref qj, .ref ly, .ref qh, .ref kk, .int (nI kc), .ref rd, .ref pg, .int (nI pe), .int kn, .ref ss]))] ++ (w_now ++ (w_past ++ (w_pars ++ (w_judg ++ (w_layr ++ (w_heap ++ (w_kept ++ (w_rnds ++ (w_plnr ++ (w_shts ++ ro)))))))))))) ((List.Perm.append_left _ ((List.Perm.append_left _ ((List.Perm.append_left _ ((List.Perm.append_left _ ((List.Perm.append_left _ ((List.Perm.append_left _ ((List.Perm.append_left _ ((List.Perm.append_left _ ((List.Perm.append_left _ ((List.Perm.append_left _ ((List.Perm.append_left _ (List.Perm.refl _)).trans (List.perm_append_comm_assoc _ _ _))).trans (List.perm_append_comm_assoc _ _ _))).trans (List.perm_append_comm_assoc _ _ _))).trans (List.perm_append_comm_assoc _ _ _))).trans (List.perm_append_comm_assoc _ _ _))).trans (List.perm_append_comm_assoc _ _ _))).trans (List.perm_append_comm_assoc _ _ _))).trans (List.perm_append_comm_assoc _ _ _))).trans (List.perm_append_comm_assoc _ _ _))).trans (List.perm_append_comm_assoc _ _ _))).trans (List.perm_append_comm_assoc _ _ _)) ?_
  refine lm_reach C hW hk H_ref (fun rr wmZ H_refZ hE => ?_)
  refine ww_perm (ws' := [(hx, .inr (11, [.ref h, .ref qp, .int (nI ac), .int (nI np), .ref qs, .ref qj, .ref ly, .ref qh, .ref kk, .int (nI kc), .ref rd, .ref pg, .int (nI pe), .int kn, .ref ss]))] ++ (w_now ++ (w_past ++ (w_pars ++ (w_judg ++ (w_layr ++ (w_heap ++ (w_kept ++ (w_rnds ++ (w_plnr ++ (w_shts ++ (wmZ ++ ro)))))))))))) ((List.Perm.append_left _ ((List.Perm.append_left _ ((List.Perm.append_left _ ((List.Perm.append_left _ ((List.Perm.append_left _ ((List.Perm.append_left _ ((List.Perm.append_left _ ((List.Perm.append_left _ ((List.Perm.append_left _ ((List.Perm.append_left _ ((List.Perm.append_left _ (List.Perm.refl _)).trans (List.perm_append_comm_assoc _ _ _))).trans (List.perm_append_comm_assoc _ _ _))).trans (List.perm_append_comm_assoc _ _ _))).trans (List.perm_append_comm_assoc _ _ _))).trans (List.perm_append_comm_assoc _ _ _))).trans (List.perm_append_comm_assoc _ _ _))).trans (List.perm_append_comm_assoc _ _ _))).trans (List.perm_append_comm_assoc _ _ _))).trans (List.perm_append_comm_assoc _ _ _))).trans (List.perm_append_comm_assoc _ _ _))).trans (List.perm_append_comm_assoc _ _ _)).symm ?_
  exact kont rr  _ ⟨h, qp, qs, qj, ly, qh, kk, rd, pg, ss, ac, np, kc, w_now, w_past, w_pars, w_judg, w_layr, w_heap, w_kept, w_rnds, w_plnr, w_shts, wmZ, ro, hac, hnp, hkc, hpe, H_now, H_past, H_pars, H_judg, H_layr, H_heap, H_kept, H_rnds, H_plnr, H_shts, H_refZ, rfl⟩ hE
set_option maxRecDepth 100000 in
theorem my_feed {X : XT} {E : EV} {ws : va_W} {lv : List (Nat × Value)} {rest : List Value} {kC nC : Nat} {hx hm : Nat} {tl : Nat} {ct : Nat → Int} {pe : Nat} {kn : Int32} {st : Nat → Nat} {sn : Nat → Nat} {sl : Nat → Nat} {scx : Nat → Nat → Int32} {tT : Nat → Option SVal} {ec : Nat → Nat} {er : Nat → Nat} {ed : Nat → Nat → Int32} {q_taped : Nat} {cr : Nat → Int} {q_people : Nat} {f_secrets : Nat → Int32} {f_lanes : Nat → Int32} {f_lengths : Nat → Int32} {f_cells : Nat → Int32} {f_tokens : Nat → Int32} {f_afters : Nat → Int32} {f_caseMany : Nat → Int32} {f_happen : Nat → Int32} {f_heard : Nat → Int32} {v : Int64} (C : CX X room_1 cL_law 4 RL ret E) (hW : Nat.ble (rest.map fun v => v.category).sum 8 = true) (hk : kC ≤ 600000 ∧ nC ≤ 7302250) (hS : ST E hx hm tl ct pe kn st sn sl scx tT ec er ed q_taped cr q_people f_secrets f_lanes f_lengths f_cells f_tokens f_afters f_caseMany f_happen f_heard ws) (kont : ∀ (rr : Int32) (q_tapedZ : Nat) (crZ : Nat → Int) (wsZ : va_W), ST E hx hm tl ct pe kn st sn sl scx tT ec er ed q_tapedZ crZ q_people f_secrets f_lanes f_lengths f_cells f_tokens f_afters f_caseMany f_happen f_heard wsZ → ((q_taped + 8 ≤ 160 ∧ q_tapedZ = q_taped + 8 ∧ crZ = czf cr q_taped v ∧ rr = nI (q_taped + 8)) ∨ (160 < q_taped + 8 ∧ q_tapedZ = q_taped ∧ crZ = cr ∧ rr = -3)) → WW X 4 E 479 lv (.int rr :: rest) wsZ kC nC) : WW X 4 E 476 lv (.long v :: .ref hm :: rest) ws kC nC := by
  unfold ST at hS
  refine ex8 hS ?_
  clear hS
  intro h qp qs qj ly qh kk rd hS
  refine ex8 hS ?_
  clear hS
  intro pg ss ac np kc w_now w_past w_pars hS
  refine ex8 hS ?_
  clear hS
  intro w_judg w_layr w_heap w_kept w_rnds w_plnr w_shts wm hS
  refine ex1 hS ?_
  clear hS
  intro ro hS
  refine an8 hS ?_
  clear hS
  intro hac hnp hkc hpe H_now H_past H_pars H_judg hS
  refine an7 hS ?_
  clear hS
  intro H_layr H_heap H_kept H_rnds H_plnr H_shts H_ref hS
  have we_st := hS
  clear hS
  subst we_st
  refine ww_perm (ws' := wm ++ ([(hx, .inr (11, [.ref h, .ref qp, .int (nI ac), .int (nI np), .ref qs, .ref qj, .ref ly, .ref qh, .ref kk, .int (nI kc), .ref rd, .ref pg, .int (nI pe), .int kn, .ref ss]))] ++ (w_now ++ (w_past ++ (w_pars ++ (w_judg ++ (w_layr ++ (w_heap ++ (w_kept ++ (w_rnds ++ (w_plnr ++ (w_shts ++ ro)))))))))))) ((List.Perm.append_left _ ((List.Perm.append_left _ ((List.Perm.append_left _ ((List.Perm.append_left _ ((List.Perm.append_left _ ((List.Perm.append_left _ ((List.Perm.append_left _ ((List.Perm.append_left _ ((List.Perm.append_left _ ((List.Perm.append_left _ ((List.Perm.append_left _ (List.Perm.refl _)).trans (List.perm_append_comm_assoc _ _ _))).trans (List.perm_append_comm_assoc _ _ _))).trans (List.perm_append_comm_assoc _ _ _))).trans (List.perm_append_comm_assoc _ _ _))).trans (List.perm_append_comm_assoc _ _ _))).trans (List.perm_append_comm_assoc _ _ _))).trans (List.perm_append_comm_assoc _ _ _))).trans (List.perm_append_comm_assoc _ _ _))).trans (List.perm_append_comm_assoc _ _ _))).trans (List.perm_append_comm_assoc _ _ _))).trans (List.perm_append_comm_assoc _ _ _)) ?_
  refine lm_feed C hW hk H_ref (fun rr q_tapedZ crZ wmZ H_refZ hE => ?_)
  refine ww_perm (ws' := [(hx, .inr (11, [.ref h, .ref qp, .int (nI ac), .int (nI np), .ref qs, .ref qj, .ref ly, .ref qh, .ref kk, .int (nI kc), .ref rd, .ref pg, .int (nI pe), .int kn, .ref ss]))] ++ (w_now ++ (w_past ++ (w_pars ++ (w_judg ++ (w_layr ++ (w_heap ++ (w_kept ++ (w_rnds ++ (w_plnr ++ (w_shts ++ (wmZ ++ ro)))))))))))) ((List.Perm.append_left _ ((List.Perm.append_left _ ((List.Perm.append_left _ ((List.Perm.append_left _ ((List.Perm.append_left _ ((List.Perm.append_left _ ((List.Perm.append_left _ ((List.Perm.append_left _ ((List.Perm.append_left _ ((List.Perm.append_left _ ((List.Perm.append_left _ (List.Perm.refl _)).trans (List.perm_append_comm_assoc _ _ _))).trans (List.perm_append_comm_assoc _ _ _))).trans (List.perm_append_comm_assoc _ _ _))).trans (List.perm_append_comm_assoc _ _ _))).trans (List.perm_append_comm_assoc _ _ _))).trans (List.perm_append_comm_assoc _ _ _))).trans (List.perm_append_comm_assoc _ _ _))).trans (List.perm_append_comm_assoc _ _ _))).trans (List.perm_append_comm_assoc _ _ _))).trans (List.perm_append_comm_assoc _ _ _))).trans (List.perm_append_comm_assoc _ _ _)).symm ?_
  exact kont rr q_tapedZ crZ _ ⟨h, qp, qs, qj, ly, qh, kk, rd, pg, ss, ac, np, kc, w_now, w_past, w_pars, w_judg, w_layr, w_heap, w_kept, w_rnds, w_plnr, w_shts, wmZ, ro, hac, hnp, hkc, hpe, H_now, H_past, H_pars, H_judg, H_layr, H_heap, H_kept, H_rnds, H_plnr, H_shts, H_refZ, rfl⟩ hE
set_option maxRecDepth 100000 in
theorem my_end {X : XT} {E : EV} {ws : va_W} {lv : List (Nat × Value)} {rest : List Value} {kC nC : Nat} {hx hm : Nat} {tl : Nat} {ct : Nat → Int} {pe : Nat} {kn : Int32} {st : Nat → Nat} {sn : Nat → Nat} {sl : Nat → Nat} {scx : Nat → Nat → Int32} {tT : Nat → Option SVal} {ec : Nat → Nat} {er : Nat → Nat} {ed : Nat → Nat → Int32} {q_taped : Nat} {cr : Nat → Int} {q_people : Nat} {f_secrets : Nat → Int32} {f_lanes : Nat → Int32} {f_lengths : Nat → Int32} {f_cells : Nat → Int32} {f_tokens : Nat → Int32} {f_afters : Nat → Int32} {f_caseMany : Nat → Int32} {f_happen : Nat → Int32} {f_heard : Nat → Int32} {v0 : Int32} (C : CX X room_1 cL_law 4 RL ret E) (hW : Nat.ble (rest.map fun v => v.category).sum 8 = true) (hk : kC ≤ 600000 ∧ nC ≤ 7302250) (hS : ST E hx hm tl ct pe kn st sn sl scx tT ec er ed q_taped cr q_people f_secrets f_lanes f_lengths f_cells f_tokens f_afters f_caseMany f_happen f_heard ws) (kont : ∀ (rr : Int32) (q_tapedZ : Nat) (crZ : Nat → Int) (wsZ : va_W), ST E hx hm tl ct pe kn st sn sl scx tT ec er ed q_tapedZ crZ q_people f_secrets f_lanes f_lengths f_cells f_tokens f_afters f_caseMany f_happen f_heard wsZ → (((v0.toInt < 0 ∨ (q_taped : Int) < v0.toInt) ∧ q_tapedZ = q_taped ∧ crZ = cr ∧ rr = -1) ∨ (v0 = nI q_tapedZ ∧ q_tapedZ ≤ q_taped ∧ crZ = cze cr q_tapedZ ∧ rr = nI q_taped)) → WW X 4 E 502 lv (.int rr :: rest) wsZ kC nC) : WW X 4 E 499 lv (.int v0 :: .ref hm :: rest) ws kC nC := by
  unfold ST at hS
  refine ex8 hS ?_
  clear hS
  intro h qp qs qj ly qh kk rd hS
  refine ex8 hS ?_
  clear hS
  intro pg ss ac np kc w_now w_past w_pars hS
  refine ex8 hS ?_
  clear hS
  intro w_judg w_layr w_heap w_kept w_rnds w_plnr w_shts wm hS
  refine ex1 hS ?_
  clear hS
  intro ro hS
  refine an8 hS ?_
  clear hS
  intro hac hnp hkc hpe H_now H_past H_pars H_judg hS
  refine an7 hS ?_
  clear hS
  intro H_layr H_heap H_kept H_rnds H_plnr H_shts H_ref hS
  have we_st := hS
  clear hS
  subst we_st
  refine ww_perm (ws' := wm ++ ([(hx, .inr (11, [.ref h, .ref qp, .int (nI ac), .int (nI np), .ref qs, .ref qj, .ref ly, .ref qh, .ref kk, .int (nI kc), .ref rd, .ref pg, .int (nI pe), .int kn, .ref ss]))] ++ (w_now ++ (w_past ++ (w_pars ++ (w_judg ++ (w_layr ++ (w_heap ++ (w_kept ++ (w_rnds ++ (w_plnr ++ (w_shts ++ ro)))))))))))) ((List.Perm.append_left _ ((List.Perm.append_left _ ((List.Perm.append_left _ ((List.Perm.append_left _ ((List.Perm.append_left _ ((List.Perm.append_left _ ((List.Perm.append_left _ ((List.Perm.append_left _ ((List.Perm.append_left _ ((List.Perm.append_left _ ((List.Perm.append_left _ (List.Perm.refl _)).trans (List.perm_append_comm_assoc _ _ _))).trans (List.perm_append_comm_assoc _ _ _))).trans (List.perm_append_comm_assoc _ _ _))).trans (List.perm_append_comm_assoc _ _ _))).trans (List.perm_append_comm_assoc _ _ _))).trans (List.perm_append_comm_assoc _ _ _))).trans (List.perm_append_comm_assoc _ _ _))).trans (List.perm_append_comm_assoc _ _ _))).trans (List.perm_append_comm_assoc _ _ _))).trans (List.perm_append_comm_assoc _ _ _))).trans (List.perm_append_comm_assoc _ _ _)) ?_
  refine lm_end C hW hk H_ref (fun rr q_tapedZ crZ wmZ H_refZ hE => ?_)
  refine ww_perm (ws' := [(hx, .inr (11, [.ref h, .ref qp, .int (nI ac), .int (nI np), .ref qs, .ref qj, .ref ly, .ref qh, .ref kk, .int (nI kc), .ref rd, .ref pg, .int (nI pe), .int kn, .ref ss]))] ++ (w_now ++ (w_past ++ (w_pars ++ (w_judg ++ (w_layr ++ (w_heap ++ (w_kept ++ (w_rnds ++ (w_plnr ++ (w_shts ++ (wmZ ++ ro)))))))))))) ((List.Perm.append_left _ ((List.Perm.append_left _ ((List.Perm.append_left _ ((List.Perm.append_left _ ((List.Perm.append_left _ ((List.Perm.append_left _ ((List.Perm.append_left _ ((List.Perm.append_left _ ((List.Perm.append_left _ ((List.Perm.append_left _ ((List.Perm.append_left _ (List.Perm.refl _)).trans (List.perm_append_comm_assoc _ _ _))).trans (List.perm_append_comm_assoc _ _ _))).trans (List.perm_append_comm_assoc _ _ _))).trans (List.perm_append_comm_assoc _ _ _))).trans (List.perm_append_comm_assoc _ _ _))).trans (List.perm_append_comm_assoc _ _ _))).trans (List.perm_append_comm_assoc _ _ _))).trans (List.perm_append_comm_assoc _ _ _))).trans (List.perm_append_comm_assoc _ _ _))).trans (List.perm_append_comm_assoc _ _ _))).trans (List.perm_append_comm_assoc _ _ _)).symm ?_
  exact kont rr q_tapedZ crZ _ ⟨h, qp, qs, qj, ly, qh, kk, rd, pg, ss, ac, np, kc, w_now, w_past, w_pars, w_judg, w_layr, w_heap, w_kept, w_rnds, w_plnr, w_shts, wmZ, ro, hac, hnp, hkc, hpe, H_now, H_past, H_pars, H_judg, H_layr, H_heap, H_kept, H_rnds, H_plnr, H_shts, H_refZ, rfl⟩ hE
set_option maxRecDepth 100000 in
theorem my_say {X : XT} {E : EV} {ws : va_W} {lv : List (Nat × Value)} {rest : List Value} {kC nC : Nat} {hx hm : Nat} {tl : Nat} {ct : Nat → Int} {pe : Nat} {kn : Int32} {st : Nat → Nat} {sn : Nat → Nat} {sl : Nat → Nat} {scx : Nat → Nat → Int32} {tT : Nat → Option SVal} {ec : Nat → Nat} {er : Nat → Nat} {ed : Nat → Nat → Int32} {q_taped : Nat} {cr : Nat → Int} {q_people : Nat} {f_secrets : Nat → Int32} {f_lanes : Nat → Int32} {f_lengths : Nat → Int32} {f_cells : Nat → Int32} {f_tokens : Nat → Int32} {f_afters : Nat → Int32} {f_caseMany : Nat → Int32} {f_happen : Nat → Int32} {f_heard : Nat → Int32} {v0 : Int32} (C : CX X room_1 cL_law 4 RL ret E) (hW : Nat.ble (rest.map fun v => v.category).sum 8 = true) (hk : kC ≤ 600000 ∧ nC ≤ 7302250) (hS : ST E hx hm tl ct pe kn st sn sl scx tT ec er ed q_taped cr q_people f_secrets f_lanes f_lengths f_cells f_tokens f_afters f_caseMany f_happen f_heard ws) (kont : ∀ (rr : Int32) (q_tapedZ : Nat) (crZ : Nat → Int) (f_tokensZ : Nat → Int32) (f_aftersZ : Nat → Int32) (wsZ : va_W), ST E hx hm tl ct pe kn st sn sl scx tT ec er ed q_tapedZ crZ q_people f_secrets f_lanes f_lengths f_cells f_tokensZ f_aftersZ f_caseMany f_happen f_heard wsZ → (((v0.toInt < 0 ∨ 7 < v0.toInt) ∧ q_tapedZ = q_taped ∧ crZ = cr ∧ (f_tokensZ = f_tokens ∧ f_aftersZ = f_afters) ∧ rr = -1) ∨ (0 ≤ v0.toInt ∧ v0.toInt ≤ 7 ∧ q_tapedZ = 0 ∧ crZ = cze cr 0 ∧ ((∃ l, SBAD cr l ∧ rr = (-10 : Int32) - nI l ∧ f_tokensZ = f_tokens ∧ KP 8 f_afters f_aftersZ) ∨ ∃ jk p n v w K m, v0 = nI jk ∧ jk ≤ 7 ∧ SOK cr p n v w K m ∧ rr = nI m ∧ upd f_tokens jk (nI m) = f_tokensZ ∧ (f_aftersZ jk = nI n ∧ ∀ j, j < 8 → j ≠ jk → f_aftersZ j = f_afters j) ∧ m ≤ 32 ∧ n ≤ 2 ∧ K ≤ m))) → WW X 4 E 525 lv (.int rr :: rest) wsZ kC nC) : WW X 4 E 522 lv (.int v0 :: .ref hm :: rest) ws kC nC := by
  unfold ST at hS
  refine ex8 hS ?_
  clear hS
  intro h qp qs qj ly qh kk rd hS
  refine ex8 hS ?_
  clear hS
  intro pg ss ac np kc w_now w_past w_pars hS
  refine ex8 hS ?_
  clear hS
  intro w_judg w_layr w_heap w_kept w_rnds w_plnr w_shts wm hS
  refine ex1 hS ?_
  clear hS
  intro ro hS
  refine an8 hS ?_
  clear hS
  intro hac hnp hkc hpe H_now H_past H_pars H_judg hS
  refine an7 hS ?_
  clear hS
  intro H_layr H_heap H_kept H_rnds H_plnr H_shts H_ref hS
  have we_st := hS
  clear hS
  subst we_st
  refine ww_perm (ws' := wm ++ ([(hx, .inr (11, [.ref h, .ref qp, .int (nI ac), .int (nI np), .ref qs, .ref qj, .ref ly, .ref qh, .ref kk, .int (nI kc), .ref rd, .ref pg, .int (nI pe), .int kn, .ref ss]))] ++ (w_now ++ (w_past ++ (w_pars ++ (w_judg ++ (w_layr ++ (w_heap ++ (w_kept ++ (w_rnds ++ (w_plnr ++ (w_shts ++ ro)))))))))))) ((List.Perm.append_left _ ((List.Perm.append_left _ ((List.Perm.append_left _ ((List.Perm.append_left _ ((List.Perm.append_left _ ((List.Perm.append_left _ ((List.Perm.append_left _ ((List.Perm.append_left _ ((List.Perm.append_left _ ((List.Perm.append_left _ ((List.Perm.append_left _ (List.Perm.refl _)).trans (List.perm_append_comm_assoc _ _ _))).trans (List.perm_append_comm_assoc _ _ _))).trans (List.perm_append_comm_assoc _ _ _))).trans (List.perm_append_comm_assoc _ _ _))).trans (List.perm_append_comm_assoc _ _ _))).trans (List.perm_append_comm_assoc _ _ _))).trans (List.perm_append_comm_assoc _ _ _))).trans (List.perm_append_comm_assoc _ _ _))).trans (List.perm_append_comm_assoc _ _ _))).trans (List.perm_append_comm_assoc _ _ _))).trans (List.perm_append_comm_assoc _ _ _)) ?_
  refine lm_say C hW hk H_ref (fun rr q_tapedZ crZ f_tokensZ f_aftersZ wmZ H_refZ hE => ?_)
  refine ww_perm (ws' := [(hx, .inr (11, [.ref h, .ref qp, .int (nI ac), .int (nI np), .ref qs, .ref qj, .ref ly, .ref qh, .ref kk, .int (nI kc), .ref rd, .ref pg, .int (nI pe), .int kn, .ref ss]))] ++ (w_now ++ (w_past ++ (w_pars ++ (w_judg ++ (w_layr ++ (w_heap ++ (w_kept ++ (w_rnds ++ (w_plnr ++ (w_shts ++ (wmZ ++ ro)))))))))))) ((List.Perm.append_left _ ((List.Perm.append_left _ ((List.Perm.append_left _ ((List.Perm.append_left _ ((List.Perm.append_left _ ((List.Perm.append_left _ ((List.Perm.append_left _ ((List.Perm.append_left _ ((List.Perm.append_left _ ((List.Perm.append_left _ ((List.Perm.append_left _ (List.Perm.refl _)).trans (List.perm_append_comm_assoc _ _ _))).trans (List.perm_append_comm_assoc _ _ _))).trans (List.perm_append_comm_assoc _ _ _))).trans (List.perm_append_comm_assoc _ _ _))).trans (List.perm_append_comm_assoc _ _ _))).trans (List.perm_append_comm_assoc _ _ _))).trans (List.perm_append_comm_assoc _ _ _))).trans (List.perm_append_comm_assoc _ _ _))).trans (List.perm_append_comm_assoc _ _ _))).trans (List.perm_append_comm_assoc _ _ _))).trans (List.perm_append_comm_assoc _ _ _)).symm ?_
  exact kont rr q_tapedZ crZ f_tokensZ f_aftersZ _ ⟨h, qp, qs, qj, ly, qh, kk, rd, pg, ss, ac, np, kc, w_now, w_past, w_pars, w_judg, w_layr, w_heap, w_kept, w_rnds, w_plnr, w_shts, wmZ, ro, hac, hnp, hkc, hpe, H_now, H_past, H_pars, H_judg, H_layr, H_heap, H_kept, H_rnds, H_plnr, H_shts, H_refZ, rfl⟩ hE
set_option maxRecDepth 100000 in
theorem my_fault {X : XT} {E : EV} {ws : va_W} {lv : List (Nat × Value)} {rest : List Value} {kC nC : Nat} {hx hm : Nat} {tl : Nat} {ct : Nat → Int} {pe : Nat} {kn : Int32} {st : Nat → Nat} {sn : Nat → Nat} {sl : Nat → Nat} {scx : Nat → Nat → Int32} {tT : Nat → Option SVal} {ec : Nat → Nat} {er : Nat → Nat} {ed : Nat → Nat → Int32} {q_taped : Nat} {cr : Nat → Int} {q_people : Nat} {f_secrets : Nat → Int32} {f_lanes : Nat → Int32} {f_lengths : Nat → Int32} {f_cells : Nat → Int32} {f_tokens : Nat → Int32} {f_afters : Nat → Int32} {f_caseMany : Nat → Int32} {f_happen : Nat → Int32} {f_heard : Nat → Int32}  (C : CX X room_1 cL_law 4 RL ret E) (hW : Nat.ble (rest.map fun v => v.category).sum 8 = true) (hk : kC ≤ 600000 ∧ nC ≤ 7302250) (hS : ST E hx hm tl ct pe kn st sn sl scx tT ec er ed q_taped cr q_people f_secrets f_lanes f_lengths f_cells f_tokens f_afters f_caseMany f_happen f_heard ws) (kont : ∀ (rr : Int32) (wsZ : va_W), ST E hx hm tl ct pe kn st sn sl scx tT ec er ed q_taped cr q_people f_secrets f_lanes f_lengths f_cells f_tokens f_afters f_caseMany f_happen f_heard wsZ → (True) → WW X 4 E 538 lv (.int rr :: rest) wsZ kC nC) : WW X 4 E 535 lv (.ref hm :: rest) ws kC nC := by
  unfold ST at hS
  refine ex8 hS ?_
  clear hS
  intro h qp qs qj ly qh kk rd hS
  refine ex8 hS ?_
  clear hS
  intro pg ss ac np kc w_now w_past w_pars hS
  refine ex8 hS ?_
  clear hS
  intro w_judg w_layr w_heap w_kept w_rnds w_plnr w_shts wm hS
  refine ex1 hS ?_
  clear hS
  intro ro hS
  refine an8 hS ?_
  clear hS
  intro hac hnp hkc hpe H_now H_past H_pars H_judg hS
  refine an7 hS ?_
  clear hS
  intro H_layr H_heap H_kept H_rnds H_plnr H_shts H_ref hS
  have we_st := hS
  clear hS
  subst we_st
  refine ww_perm (ws' := wm ++ ([(hx, .inr (11, [.ref h, .ref qp, .int (nI ac), .int (nI np), .ref qs, .ref qj, .ref ly, .ref qh, .ref kk, .int (nI kc), .ref rd, .ref pg, .int (nI pe), .int kn, .ref ss]))] ++ (w_now ++ (w_past ++ (w_pars ++ (w_judg ++ (w_layr ++ (w_heap ++ (w_kept ++ (w_rnds ++ (w_plnr ++ (w_shts ++ ro)))))))))))) ((List.Perm.append_left _ ((List.Perm.append_left _ ((List.Perm.append_left _ ((List.Perm.append_left _ ((List.Perm.append_left _ ((List.Perm.append_left _ ((List.Perm.append_left _ ((List.Perm.append_left _ ((List.Perm.append_left _ ((List.Perm.append_left _ ((List.Perm.append_left _ (List.Perm.refl _)).trans (List.perm_append_comm_assoc _ _ _))).trans (List.perm_append_comm_assoc _ _ _))).trans (List.perm_append_comm_assoc _ _ _))).trans (List.perm_append_comm_assoc _ _ _))).trans (List.perm_append_comm_assoc _ _ _))).trans (List.perm_append_comm_assoc _ _ _))).trans (List.perm_append_comm_assoc _ _ _))).trans (List.perm_append_comm_assoc _ _ _))).trans (List.perm_append_comm_assoc _ _ _))).trans (List.perm_append_comm_assoc _ _ _))).trans (List.perm_append_comm_assoc _ _ _)) ?_
  refine lm_fault C hW hk H_ref (fun rr wmZ H_refZ hE => ?_)
  refine ww_perm (ws' := [(hx, .inr (11, [.ref h, .ref qp, .int (nI ac), .int (nI np), .ref qs, .ref qj, .ref ly, .ref qh, .ref kk, .int (nI kc), .ref rd, .ref pg, .int (nI pe), .int kn, .ref ss]))] ++ (w_now ++ (w_past ++ (w_pars ++ (w_judg ++ (w_layr ++ (w_heap ++ (w_kept ++ (w_rnds ++ (w_plnr ++ (w_shts ++ (wmZ ++ ro)))))))))))) ((List.Perm.append_left _ ((List.Perm.append_left _ ((List.Perm.append_left _ ((List.Perm.append_left _ ((List.Perm.append_left _ ((List.Perm.append_left _ ((List.Perm.append_left _ ((List.Perm.append_left _ ((List.Perm.append_left _ ((List.Perm.append_left _ ((List.Perm.append_left _ (List.Perm.refl _)).trans (List.perm_append_comm_assoc _ _ _))).trans (List.perm_append_comm_assoc _ _ _))).trans (List.perm_append_comm_assoc _ _ _))).trans (List.perm_append_comm_assoc _ _ _))).trans (List.perm_append_comm_assoc _ _ _))).trans (List.perm_append_comm_assoc _ _ _))).trans (List.perm_append_comm_assoc _ _ _))).trans (List.perm_append_comm_assoc _ _ _))).trans (List.perm_append_comm_assoc _ _ _))).trans (List.perm_append_comm_assoc _ _ _))).trans (List.perm_append_comm_assoc _ _ _)).symm ?_
  exact kont rr  _ ⟨h, qp, qs, qj, ly, qh, kk, rd, pg, ss, ac, np, kc, w_now, w_past, w_pars, w_judg, w_layr, w_heap, w_kept, w_rnds, w_plnr, w_shts, wmZ, ro, hac, hnp, hkc, hpe, H_now, H_past, H_pars, H_judg, H_layr, H_heap, H_kept, H_rnds, H_plnr, H_shts, H_refZ, rfl⟩ hE
set_option maxRecDepth 100000 in
theorem my_saying {X : XT} {E : EV} {ws : va_W} {lv : List (Nat × Value)} {rest : List Value} {kC nC : Nat} {hx hm : Nat} {tl : Nat} {ct : Nat → Int} {pe : Nat} {kn : Int32} {st : Nat → Nat} {sn : Nat → Nat} {sl : Nat → Nat} {scx : Nat → Nat → Int32} {tT : Nat → Option SVal} {ec : Nat → Nat} {er : Nat → Nat} {ed : Nat → Nat → Int32} {q_taped : Nat} {cr : Nat → Int} {q_people : Nat} {f_secrets : Nat → Int32} {f_lanes : Nat → Int32} {f_lengths : Nat → Int32} {f_cells : Nat → Int32} {f_tokens : Nat → Int32} {f_afters : Nat → Int32} {f_caseMany : Nat → Int32} {f_happen : Nat → Int32} {f_heard : Nat → Int32} {v0 : Int32} {v1 : Int32} (C : CX X room_1 cL_law 4 RL ret E) (hW : Nat.ble (rest.map fun v => v.category).sum 8 = true) (hk : kC ≤ 600000 ∧ nC ≤ 7302250) (hS : ST E hx hm tl ct pe kn st sn sl scx tT ec er ed q_taped cr q_people f_secrets f_lanes f_lengths f_cells f_tokens f_afters f_caseMany f_happen f_heard ws) (kont : ∀ (rr : Int32) (wsZ : va_W), ST E hx hm tl ct pe kn st sn sl scx tT ec er ed q_taped cr q_people f_secrets f_lanes f_lengths f_cells f_tokens f_afters f_caseMany f_happen f_heard wsZ → (True) → WW X 4 E 571 lv (.int rr :: rest) wsZ kC nC) : WW X 4 E 568 lv (.int v1 :: .int v0 :: .ref hm :: rest) ws kC nC := by
  unfold ST at hS
  refine ex8 hS ?_
  clear hS
  intro h qp qs qj ly qh kk rd hS
  refine ex8 hS ?_
  clear hS
  intro pg ss ac np kc w_now w_past w_pars hS
  refine ex8 hS ?_
  clear hS
  intro w_judg w_layr w_heap w_kept w_rnds w_plnr w_shts wm hS
  refine ex1 hS ?_
  clear hS
  intro ro hS
  refine an8 hS ?_
  clear hS
  intro hac hnp hkc hpe H_now H_past H_pars H_judg hS
  refine an7 hS ?_
  clear hS
  intro H_layr H_heap H_kept H_rnds H_plnr H_shts H_ref hS
  have we_st := hS
  clear hS
  subst we_st
  refine ww_perm (ws' := wm ++ ([(hx, .inr (11, [.ref h, .ref qp, .int (nI ac), .int (nI np), .ref qs, .ref qj, .ref ly, .ref qh, .ref kk, .int (nI kc), .ref rd, .ref pg, .int (nI pe), .int kn, .ref ss]))] ++ (w_now ++ (w_past ++ (w_pars ++ (w_judg ++ (w_layr ++ (w_heap ++ (w_kept ++ (w_rnds ++ (w_plnr ++ (w_shts ++ ro)))))))))))) ((List.Perm.append_left _ ((List.Perm.append_left _ ((List.Perm.append_left _ ((List.Perm.append_left _ ((List.Perm.append_left _ ((List.Perm.append_left _ ((List.Perm.append_left _ ((List.Perm.append_left _ ((List.Perm.append_left _ ((List.Perm.append_left _ ((List.Perm.append_left _ (List.Perm.refl _)).trans (List.perm_append_comm_assoc _ _ _))).trans (List.perm_append_comm_assoc _ _ _))).trans (List.perm_append_comm_assoc _ _ _))).trans (List.perm_append_comm_assoc _ _ _))).trans (List.perm_append_comm_assoc _ _ _))).trans (List.perm_append_comm_assoc _ _ _))).trans (List.perm_append_comm_assoc _ _ _))).trans (List.perm_append_comm_assoc _ _ _))).trans (List.perm_append_comm_assoc _ _ _))).trans (List.perm_append_comm_assoc _ _ _))).trans (List.perm_append_comm_assoc _ _ _)) ?_
  refine lm_saying C hW hk H_ref (fun rr wmZ H_refZ hE => ?_)
  refine ww_perm (ws' := [(hx, .inr (11, [.ref h, .ref qp, .int (nI ac), .int (nI np), .ref qs, .ref qj, .ref ly, .ref qh, .ref kk, .int (nI kc), .ref rd, .ref pg, .int (nI pe), .int kn, .ref ss]))] ++ (w_now ++ (w_past ++ (w_pars ++ (w_judg ++ (w_layr ++ (w_heap ++ (w_kept ++ (w_rnds ++ (w_plnr ++ (w_shts ++ (wmZ ++ ro)))))))))))) ((List.Perm.append_left _ ((List.Perm.append_left _ ((List.Perm.append_left _ ((List.Perm.append_left _ ((List.Perm.append_left _ ((List.Perm.append_left _ ((List.Perm.append_left _ ((List.Perm.append_left _ ((List.Perm.append_left _ ((List.Perm.append_left _ ((List.Perm.append_left _ (List.Perm.refl _)).trans (List.perm_append_comm_assoc _ _ _))).trans (List.perm_append_comm_assoc _ _ _))).trans (List.perm_append_comm_assoc _ _ _))).trans (List.perm_append_comm_assoc _ _ _))).trans (List.perm_append_comm_assoc _ _ _))).trans (List.perm_append_comm_assoc _ _ _))).trans (List.perm_append_comm_assoc _ _ _))).trans (List.perm_append_comm_assoc _ _ _))).trans (List.perm_append_comm_assoc _ _ _))).trans (List.perm_append_comm_assoc _ _ _))).trans (List.perm_append_comm_assoc _ _ _)).symm ?_
  exact kont rr  _ ⟨h, qp, qs, qj, ly, qh, kk, rd, pg, ss, ac, np, kc, w_now, w_past, w_pars, w_judg, w_layr, w_heap, w_kept, w_rnds, w_plnr, w_shts, wmZ, ro, hac, hnp, hkc, hpe, H_now, H_past, H_pars, H_judg, H_layr, H_heap, H_kept, H_rnds, H_plnr, H_shts, H_refZ, rfl⟩ hE
set_option maxRecDepth 100000 in
theorem my_truth {X : XT} {E : EV} {ws : va_W} {lv : List (Nat × Value)} {rest : List Value} {kC nC : Nat} {hx hm : Nat} {tl : Nat} {ct : Nat → Int} {pe : Nat} {kn : Int32} {st : Nat → Nat} {sn : Nat → Nat} {sl : Nat → Nat} {scx : Nat → Nat → Int32} {tT : Nat → Option SVal} {ec : Nat → Nat} {er : Nat → Nat} {ed : Nat → Nat → Int32} {q_taped : Nat} {cr : Nat → Int} {q_people : Nat} {f_secrets : Nat → Int32} {f_lanes : Nat → Int32} {f_lengths : Nat → Int32} {f_cells : Nat → Int32} {f_tokens : Nat → Int32} {f_afters : Nat → Int32} {f_caseMany : Nat → Int32} {f_happen : Nat → Int32} {f_heard : Nat → Int32} {v0 : Int32} (C : CX X room_1 cL_law 4 RL ret E) (hW : Nat.ble (rest.map fun v => v.category).sum 8 = true) (hk : kC ≤ 600000 ∧ nC ≤ 7302250) (hS : ST E hx hm tl ct pe kn st sn sl scx tT ec er ed q_taped cr q_people f_secrets f_lanes f_lengths f_cells f_tokens f_afters f_caseMany f_happen f_heard ws) (kont : ∀ (rr : Int32) (wsZ : va_W), ST E hx hm tl ct pe kn st sn sl scx tT ec er ed q_taped cr q_people f_secrets f_lanes f_lengths f_cells f_tokens f_afters f_caseMany f_happen f_heard wsZ → (True) → WW X 4 E 594 lv (.int rr :: rest) wsZ kC nC) : WW X 4 E 591 lv (.int v0 :: .ref hm :: rest) ws kC nC := by
  unfold ST at hS
  refine ex8 hS ?_
  clear hS
  intro h qp qs qj ly qh kk rd hS
  refine ex8 hS ?_
  clear hS
  intro pg ss ac np kc w_now w_past w_pars hS
  refine ex8 hS ?_
  clear hS
  intro w_judg w_layr w_heap w_kept w_rnds w_plnr w_shts wm hS
  refine ex1 hS ?_
  clear hS
  intro ro hS
  refine an8 hS ?_
  clear hS
  intro hac hnp hkc hpe H_now H_past H_pars H_judg hS
  refine an7 hS ?_
  clear hS
  intro H_layr H_heap H_kept H_rnds H_plnr H_shts H_ref hS
  have we_st := hS
  clear hS
  subst we_st
  refine ww_perm (ws' := wm ++ ([(hx, .inr (11, [.ref h, .ref qp, .int (nI ac), .int (nI np), .ref qs, .ref qj, .ref ly, .ref qh, .ref kk, .int (nI kc), .ref rd, .ref pg, .int (nI pe), .int kn, .ref ss]))] ++ (w_now ++ (w_past ++ (w_pars ++ (w_judg ++ (w_layr ++ (w_heap ++ (w_kept ++ (w_rnds ++ (w_plnr ++ (w_shts ++ ro)))))))))))) ((List.Perm.append_left _ ((List.Perm.append_left _ ((List.Perm.append_left _ ((List.Perm.append_left _ ((List.Perm.append_left _ ((List.Perm.append_left _ ((List.Perm.append_left _ ((List.Perm.append_left _ ((List.Perm.append_left _ ((List.Perm.append_left _ ((List.Perm.append_left _ (List.Perm.refl _)).trans (List.perm_append_comm_assoc _ _ _))).trans (List.perm_append_comm_assoc _ _ _))).trans (List.perm_append_comm_assoc _ _ _))).trans (List.perm_append_comm_assoc _ _ _))).trans (List.perm_append_comm_assoc _ _ _))).trans (List.perm_append_comm_assoc _ _ _))).trans (List.perm_append_comm_assoc _ _ _))).trans (List.perm_append_comm_assoc _ _ _))).trans (List.perm_append_comm_assoc _ _ _))).trans (List.perm_append_comm_assoc _ _ _))).trans (List.perm_append_comm_assoc _ _ _)) ?_
  refine lm_truth C hW hk H_ref (fun rr wmZ H_refZ hE => ?_)
  refine ww_perm (ws' := [(hx, .inr (11, [.ref h, .ref qp, .int (nI ac), .int (nI np), .ref qs, .ref qj, .ref ly, .ref qh, .ref kk, .int (nI kc), .ref rd, .ref pg, .int (nI pe), .int kn, .ref ss]))] ++ (w_now ++ (w_past ++ (w_pars ++ (w_judg ++ (w_layr ++ (w_heap ++ (w_kept ++ (w_rnds ++ (w_plnr ++ (w_shts ++ (wmZ ++ ro)))))))))))) ((List.Perm.append_left _ ((List.Perm.append_left _ ((List.Perm.append_left _ ((List.Perm.append_left _ ((List.Perm.append_left _ ((List.Perm.append_left _ ((List.Perm.append_left _ ((List.Perm.append_left _ ((List.Perm.append_left _ ((List.Perm.append_left _ ((List.Perm.append_left _ (List.Perm.refl _)).trans (List.perm_append_comm_assoc _ _ _))).trans (List.perm_append_comm_assoc _ _ _))).trans (List.perm_append_comm_assoc _ _ _))).trans (List.perm_append_comm_assoc _ _ _))).trans (List.perm_append_comm_assoc _ _ _))).trans (List.perm_append_comm_assoc _ _ _))).trans (List.perm_append_comm_assoc _ _ _))).trans (List.perm_append_comm_assoc _ _ _))).trans (List.perm_append_comm_assoc _ _ _))).trans (List.perm_append_comm_assoc _ _ _))).trans (List.perm_append_comm_assoc _ _ _)).symm ?_
  exact kont rr  _ ⟨h, qp, qs, qj, ly, qh, kk, rd, pg, ss, ac, np, kc, w_now, w_past, w_pars, w_judg, w_layr, w_heap, w_kept, w_rnds, w_plnr, w_shts, wmZ, ro, hac, hnp, hkc, hpe, H_now, H_past, H_pars, H_judg, H_layr, H_heap, H_kept, H_rnds, H_plnr, H_shts, H_refZ, rfl⟩ hE
set_option maxRecDepth 100000 in
theorem my_holds {X : XT} {E : EV} {ws : va_W} {lv : List (Nat × Value)} {rest : List Value} {kC nC : Nat} {hx hm : Nat} {tl : Nat} {ct : Nat → Int} {pe : Nat} {kn : Int32} {st : Nat → Nat} {sn : Nat → Nat} {sl : Nat → Nat} {scx : Nat → Nat → Int32} {tT : Nat → Option SVal} {ec : Nat → Nat} {er : Nat → Nat} {ed : Nat → Nat → Int32} {q_taped : Nat} {cr : Nat → Int} {q_people : Nat} {f_secrets : Nat → Int32} {f_lanes : Nat → Int32} {f_lengths : Nat → Int32} {f_cells : Nat → Int32} {f_tokens : Nat → Int32} {f_afters : Nat → Int32} {f_caseMany : Nat → Int32} {f_happen : Nat → Int32} {f_heard : Nat → Int32} {v0 : Int32} (C : CX X room_1 cL_law 4 RL ret E) (hW : Nat.ble (rest.map fun v => v.category).sum 8 = true) (hk : kC ≤ 600000 ∧ nC ≤ 7302250) (hS : ST E hx hm tl ct pe kn st sn sl scx tT ec er ed q_taped cr q_people f_secrets f_lanes f_lengths f_cells f_tokens f_afters f_caseMany f_happen f_heard ws) (kont : ∀ (rr : Int32) (wsZ : va_W), ST E hx hm tl ct pe kn st sn sl scx tT ec er ed q_taped cr q_people f_secrets f_lanes f_lengths f_cells f_tokens f_afters f_caseMany f_happen f_heard wsZ → (True) → WW X 4 E 617 lv (.int rr :: rest) wsZ kC nC) : WW X 4 E 614 lv (.int v0 :: .ref hm :: rest) ws kC nC := by
  unfold ST at hS
  refine ex8 hS ?_
  clear hS
  intro h qp qs qj ly qh kk rd hS
  refine ex8 hS ?_
  clear hS
  intro pg ss ac np kc w_now w_past w_pars hS
  refine ex8 hS ?_
  clear hS
  intro w_judg w_layr w_heap w_kept w_rnds w_plnr w_shts wm hS
  refine ex1 hS ?_
  clear hS
  intro ro hS
  refine an8 hS ?_
  clear hS
  intro hac hnp hkc hpe H_now H_past H_pars H_judg hS
  refine an7 hS ?_
  clear hS
  intro H_layr H_heap H_kept H_rnds H_plnr H_shts H_ref hS
  have we_st := hS
  clear hS
  subst we_st
  refine ww_perm (ws' := wm ++ ([(hx, .inr (11, [.ref h, .ref qp, .int (nI ac), .int (nI np), .ref qs, .ref qj, .ref ly, .ref qh, .ref kk, .int (nI kc), .ref rd, .ref pg, .int (nI pe), .int kn, .ref ss]))] ++ (w_now ++ (w_past ++ (w_pars ++ (w_judg ++ (w_layr ++ (w_heap ++ (w_kept ++ (w_rnds ++ (w_plnr ++ (w_shts ++ ro)))))))))))) ((List.Perm.append_left _ ((List.Perm.append_left _ ((List.Perm.append_left _ ((List.Perm.append_left _ ((List.Perm.append_left _ ((List.Perm.append_left _ ((List.Perm.append_left _ ((List.Perm.append_left _ ((List.Perm.append_left _ ((List.Perm.append_left _ ((List.Perm.append_left _ (List.Perm.refl _)).trans (List.perm_append_comm_assoc _ _ _))).trans (List.perm_append_comm_assoc _ _ _))).trans (List.perm_append_comm_assoc _ _ _))).trans (List.perm_append_comm_assoc _ _ _))).trans (List.perm_append_comm_assoc _ _ _))).trans (List.perm_append_comm_assoc _ _ _))).trans (List.perm_append_comm_assoc _ _ _))).trans (List.perm_append_comm_assoc _ _ _))).trans (List.perm_append_comm_assoc _ _ _))).trans (List.perm_append_comm_assoc _ _ _))).trans (List.perm_append_comm_assoc _ _ _)) ?_
  refine lm_holds C hW hk H_ref (fun rr wmZ H_refZ hE => ?_)
  refine ww_perm (ws' := [(hx, .inr (11, [.ref h, .ref qp, .int (nI ac), .int (nI np), .ref qs, .ref qj, .ref ly, .ref qh, .ref kk, .int (nI kc), .ref rd, .ref pg, .int (nI pe), .int kn, .ref ss]))] ++ (w_now ++ (w_past ++ (w_pars ++ (w_judg ++ (w_layr ++ (w_heap ++ (w_kept ++ (w_rnds ++ (w_plnr ++ (w_shts ++ (wmZ ++ ro)))))))))))) ((List.Perm.append_left _ ((List.Perm.append_left _ ((List.Perm.append_left _ ((List.Perm.append_left _ ((List.Perm.append_left _ ((List.Perm.append_left _ ((List.Perm.append_left _ ((List.Perm.append_left _ ((List.Perm.append_left _ ((List.Perm.append_left _ ((List.Perm.append_left _ (List.Perm.refl _)).trans (List.perm_append_comm_assoc _ _ _))).trans (List.perm_append_comm_assoc _ _ _))).trans (List.perm_append_comm_assoc _ _ _))).trans (List.perm_append_comm_assoc _ _ _))).trans (List.perm_append_comm_assoc _ _ _))).trans (List.perm_append_comm_assoc _ _ _))).trans (List.perm_append_comm_assoc _ _ _))).trans (List.perm_append_comm_assoc _ _ _))).trans (List.perm_append_comm_assoc _ _ _))).trans (List.perm_append_comm_assoc _ _ _))).trans (List.perm_append_comm_assoc _ _ _)).symm ?_
  exact kont rr  _ ⟨h, qp, qs, qj, ly, qh, kk, rd, pg, ss, ac, np, kc, w_now, w_past, w_pars, w_judg, w_layr, w_heap, w_kept, w_rnds, w_plnr, w_shts, wmZ, ro, hac, hnp, hkc, hpe, H_now, H_past, H_pars, H_judg, H_layr, H_heap, H_kept, H_rnds, H_plnr, H_shts, H_refZ, rfl⟩ hE
set_option maxRecDepth 100000 in
theorem my_event {X : XT} {E : EV} {ws : va_W} {lv : List (Nat × Value)} {rest : List Value} {kC nC : Nat} {hx hm : Nat} {tl : Nat} {ct : Nat → Int} {pe : Nat} {kn : Int32} {st : Nat → Nat} {sn : Nat → Nat} {sl : Nat → Nat} {scx : Nat → Nat → Int32} {tT : Nat → Option SVal} {ec : Nat → Nat} {er : Nat → Nat} {ed : Nat → Nat → Int32} {q_taped : Nat} {cr : Nat → Int} {q_people : Nat} {f_secrets : Nat → Int32} {f_lanes : Nat → Int32} {f_lengths : Nat → Int32} {f_cells : Nat → Int32} {f_tokens : Nat → Int32} {f_afters : Nat → Int32} {f_caseMany : Nat → Int32} {f_happen : Nat → Int32} {f_heard : Nat → Int32} {v0 : Int32} {v1 : Int32} (C : CX X room_1 cL_law 4 RL ret E) (hW : Nat.ble (rest.map fun v => v.category).sum 8 = true) (hk : kC ≤ 600000 ∧ nC ≤ 7302250) (hS : ST E hx hm tl ct pe kn st sn sl scx tT ec er ed q_taped cr q_people f_secrets f_lanes f_lengths f_cells f_tokens f_afters f_caseMany f_happen f_heard ws) (kont : ∀ (rr : Int32) (f_caseManyZ : Nat → Int32) (f_happenZ : Nat → Int32) (f_heardZ : Nat → Int32) (wsZ : va_W), ST E hx hm tl ct pe kn st sn sl scx tT ec er ed q_taped cr q_people f_secrets f_lanes f_lengths f_cells f_tokens f_afters f_caseManyZ f_happenZ f_heardZ wsZ → (((v0.toInt < 0 ∨ 3 < v0.toInt ∨ v1.toInt < 1 ∨ 4 < v1.toInt) ∧ rr = -1 ∧ f_caseManyZ = f_caseMany ∧ f_happenZ = f_happen ∧ f_heardZ = f_heard) ∨ ∃ k_ n_ : Nat, v0 = nI k_ ∧ v1 = nI n_ ∧ k_ ≤ 3 ∧ (1 ≤ n_ ∧ n_ ≤ 4) ∧ upd f_caseMany k_ (nI n_) = f_caseManyZ ∧ upd f_happen k_ (nI 0) = f_happenZ ∧ HZ k_ 4 0 f_heard f_heardZ ∧ rr = 1) → WW X 4 E 650 lv (.int rr :: rest) wsZ kC nC) : WW X 4 E 647 lv (.int v1 :: .int v0 :: .ref hm :: rest) ws kC nC := by
  unfold ST at hS
  refine ex8 hS ?_
  clear hS
  intro h qp qs qj ly qh kk rd hS
  refine ex8 hS ?_
  clear hS
  intro pg ss ac np kc w_now w_past w_pars hS
  refine ex8 hS ?_
  clear hS
  intro w_judg w_layr w_heap w_kept w_rnds w_plnr w_shts wm hS
  refine ex1 hS ?_
  clear hS
  intro ro hS
  refine an8 hS ?_
  clear hS
  intro hac hnp hkc hpe H_now H_past H_pars H_judg hS
  refine an7 hS ?_
  clear hS
  intro H_layr H_heap H_kept H_rnds H_plnr H_shts H_ref hS
  have we_st := hS
  clear hS
  subst we_st
  refine ww_perm (ws' := wm ++ ([(hx, .inr (11, [.ref h, .ref qp, .int (nI ac), .int (nI np), .ref qs, .ref qj, .ref ly, .ref qh, .ref kk, .int (nI kc), .ref rd, .ref pg, .int (nI pe), .int kn, .ref ss]))] ++ (w_now ++ (w_past ++ (w_pars ++ (w_judg ++ (w_layr ++ (w_heap ++ (w_kept ++ (w_rnds ++ (w_plnr ++ (w_shts ++ ro)))))))))))) ((List.Perm.append_left _ ((List.Perm.append_left _ ((List.Perm.append_left _ ((List.Perm.append_left _ ((List.Perm.append_left _ ((List.Perm.append_left _ ((List.Perm.append_left _ ((List.Perm.append_left _ ((List.Perm.append_left _ ((List.Perm.append_left _ ((List.Perm.append_left _ (List.Perm.refl _)).trans (List.perm_append_comm_assoc _ _ _))).trans (List.perm_append_comm_assoc _ _ _))).trans (List.perm_append_comm_assoc _ _ _))).trans (List.perm_append_comm_assoc _ _ _))).trans (List.perm_append_comm_assoc _ _ _))).trans (List.perm_append_comm_assoc _ _ _))).trans (List.perm_append_comm_assoc _ _ _))).trans (List.perm_append_comm_assoc _ _ _))).trans (List.perm_append_comm_assoc _ _ _))).trans (List.perm_append_comm_assoc _ _ _))).trans (List.perm_append_comm_assoc _ _ _)) ?_
  refine lm_event C hW hk H_ref (fun rr f_caseManyZ f_happenZ f_heardZ wmZ H_refZ hE => ?_)
  refine ww_perm (ws' := [(hx, .inr (11, [.ref h, .ref qp, .int (nI ac), .int (nI np), .ref qs, .ref qj, .ref ly, .ref qh, .ref kk, .int (nI kc), .ref rd, .ref pg, .int (nI pe), .int kn, .ref ss]))] ++ (w_now ++ (w_past ++ (w_pars ++ (w_judg ++ (w_layr ++ (w_heap ++ (w_kept ++ (w_rnds ++ (w_plnr ++ (w_shts ++ (wmZ ++ ro)))))))))))) ((List.Perm.append_left _ ((List.Perm.append_left _ ((List.Perm.append_left _ ((List.Perm.append_left _ ((List.Perm.append_left _ ((List.Perm.append_left _ ((List.Perm.append_left _ ((List.Perm.append_left _ ((List.Perm.append_left _ ((List.Perm.append_left _ ((List.Perm.append_left _ (List.Perm.refl _)).trans (List.perm_append_comm_assoc _ _ _))).trans (List.perm_append_comm_assoc _ _ _))).trans (List.perm_append_comm_assoc _ _ _))).trans (List.perm_append_comm_assoc _ _ _))).trans (List.perm_append_comm_assoc _ _ _))).trans (List.perm_append_comm_assoc _ _ _))).trans (List.perm_append_comm_assoc _ _ _))).trans (List.perm_append_comm_assoc _ _ _))).trans (List.perm_append_comm_assoc _ _ _))).trans (List.perm_append_comm_assoc _ _ _))).trans (List.perm_append_comm_assoc _ _ _)).symm ?_
  exact kont rr f_caseManyZ f_happenZ f_heardZ _ ⟨h, qp, qs, qj, ly, qh, kk, rd, pg, ss, ac, np, kc, w_now, w_past, w_pars, w_judg, w_layr, w_heap, w_kept, w_rnds, w_plnr, w_shts, wmZ, ro, hac, hnp, hkc, hpe, H_now, H_past, H_pars, H_judg, H_layr, H_heap, H_kept, H_rnds, H_plnr, H_shts, H_refZ, rfl⟩ hE
set_option maxRecDepth 100000 in
theorem my_when {X : XT} {E : EV} {ws : va_W} {lv : List (Nat × Value)} {rest : List Value} {kC nC : Nat} {hx hm : Nat} {tl : Nat} {ct : Nat → Int} {pe : Nat} {kn : Int32} {st : Nat → Nat} {sn : Nat → Nat} {sl : Nat → Nat} {scx : Nat → Nat → Int32} {tT : Nat → Option SVal} {ec : Nat → Nat} {er : Nat → Nat} {ed : Nat → Nat → Int32} {q_taped : Nat} {cr : Nat → Int} {q_people : Nat} {f_secrets : Nat → Int32} {f_lanes : Nat → Int32} {f_lengths : Nat → Int32} {f_cells : Nat → Int32} {f_tokens : Nat → Int32} {f_afters : Nat → Int32} {f_caseMany : Nat → Int32} {f_happen : Nat → Int32} {f_heard : Nat → Int32} {v0 : Int32} {v1 : Int32} {v2 : Int32} {v3 : Int32} {v4 : Int32} (C : CX X room_1 cL_law 4 RL ret E) (hW : Nat.ble (rest.map fun v => v.category).sum 8 = true) (hk : kC ≤ 600000 ∧ nC ≤ 7302250) (hS : ST E hx hm tl ct pe kn st sn sl scx tT ec er ed q_taped cr q_people f_secrets f_lanes f_lengths f_cells f_tokens f_afters f_caseMany f_happen f_heard ws) (kont : ∀ (rr : Int32) (wsZ : va_W), ST E hx hm tl ct pe kn st sn sl scx tT ec er ed q_taped cr q_people f_secrets f_lanes f_lengths f_cells f_tokens f_afters f_caseMany f_happen f_heard wsZ → (((¬ CSE (cN f_caseMany) v0 v1 ∨ (v2 ≠ -4 ∧ ¬ PLN (tRr f_tokens f_afters) v2) ∨ v3.toInt < 0 ∨ 15 < v3.toInt ∨ v4.toInt < 0 ∨ 15 < v4.toInt) ∧ rr = -1) ∨ ((CSE (cN f_caseMany) v0 v1 ∧ (v2 = -4 ∨ PLN (tRr f_tokens f_afters) v2) ∧ 0 ≤ v3.toInt ∧ v3.toInt ≤ 15 ∧ 0 ≤ v4.toInt ∧ v4.toInt ≤ 15) ∧ rr = 1)) → WW X 4 E 712 lv (.int rr :: rest) wsZ kC nC) : WW X 4 E 709 lv (.int v4 :: .int v3 :: .int v2 :: .int v1 :: .int v0 :: .ref hm :: rest) ws kC nC := by
  unfold ST at hS
  refine ex8 hS ?_
  clear hS
  intro h qp qs qj ly qh kk rd hS
  refine ex8 hS ?_
  clear hS
  intro pg ss ac np kc w_now w_past w_pars hS
  refine ex8 hS ?_
  clear hS
  intro w_judg w_layr w_heap w_kept w_rnds w_plnr w_shts wm hS
  refine ex1 hS ?_
  clear hS
  intro ro hS
  refine an8 hS ?_
  clear hS
  intro hac hnp hkc hpe H_now H_past H_pars H_judg hS
  refine an7 hS ?_
  clear hS
  intro H_layr H_heap H_kept H_rnds H_plnr H_shts H_ref hS
  have we_st := hS
  clear hS
  subst we_st
  refine ww_perm (ws' := wm ++ ([(hx, .inr (11, [.ref h, .ref qp, .int (nI ac), .int (nI np), .ref qs, .ref qj, .ref ly, .ref qh, .ref kk, .int (nI kc), .ref rd, .ref pg, .int (nI pe), .int kn, .ref ss]))] ++ (w_now ++ (w_past ++ (w_pars ++ (w_judg ++ (w_layr ++ (w_heap ++ (w_kept ++ (w_rnds ++ (w_plnr ++ (w_shts ++ ro)))))))))))) ((List.Perm.append_left _ ((List.Perm.append_left _ ((List.Perm.append_left _ ((List.Perm.append_left _ ((List.Perm.append_left _ ((List.Perm.append_left _ ((List.Perm.append_left _ ((List.Perm.append_left _ ((List.Perm.append_left _ ((List.Perm.append_left _ ((List.Perm.append_left _ (List.Perm.refl _)).trans (List.perm_append_comm_assoc _ _ _))).trans (List.perm_append_comm_assoc _ _ _))).trans (List.perm_append_comm_assoc _ _ _))).trans (List.perm_append_comm_assoc _ _ _))).trans (List.perm_append_comm_assoc _ _ _))).trans (List.perm_append_comm_assoc _ _ _))).trans (List.perm_append_comm_assoc _ _ _))).trans (List.perm_append_comm_assoc _ _ _))).trans (List.perm_append_comm_assoc _ _ _))).trans (List.perm_append_comm_assoc _ _ _))).trans (List.perm_append_comm_assoc _ _ _)) ?_
  refine lm_when C hW hk H_ref (fun rr wmZ H_refZ hE => ?_)
  refine ww_perm (ws' := [(hx, .inr (11, [.ref h, .ref qp, .int (nI ac), .int (nI np), .ref qs, .ref qj, .ref ly, .ref qh, .ref kk, .int (nI kc), .ref rd, .ref pg, .int (nI pe), .int kn, .ref ss]))] ++ (w_now ++ (w_past ++ (w_pars ++ (w_judg ++ (w_layr ++ (w_heap ++ (w_kept ++ (w_rnds ++ (w_plnr ++ (w_shts ++ (wmZ ++ ro)))))))))))) ((List.Perm.append_left _ ((List.Perm.append_left _ ((List.Perm.append_left _ ((List.Perm.append_left _ ((List.Perm.append_left _ ((List.Perm.append_left _ ((List.Perm.append_left _ ((List.Perm.append_left _ ((List.Perm.append_left _ ((List.Perm.append_left _ ((List.Perm.append_left _ (List.Perm.refl _)).trans (List.perm_append_comm_assoc _ _ _))).trans (List.perm_append_comm_assoc _ _ _))).trans (List.perm_append_comm_assoc _ _ _))).trans (List.perm_append_comm_assoc _ _ _))).trans (List.perm_append_comm_assoc _ _ _))).trans (List.perm_append_comm_assoc _ _ _))).trans (List.perm_append_comm_assoc _ _ _))).trans (List.perm_append_comm_assoc _ _ _))).trans (List.perm_append_comm_assoc _ _ _))).trans (List.perm_append_comm_assoc _ _ _))).trans (List.perm_append_comm_assoc _ _ _)).symm ?_
  exact kont rr  _ ⟨h, qp, qs, qj, ly, qh, kk, rd, pg, ss, ac, np, kc, w_now, w_past, w_pars, w_judg, w_layr, w_heap, w_kept, w_rnds, w_plnr, w_shts, wmZ, ro, hac, hnp, hkc, hpe, H_now, H_past, H_pars, H_judg, H_layr, H_heap, H_kept, H_rnds, H_plnr, H_shts, H_refZ, rfl⟩ hE
set_option maxRecDepth 100000 in
theorem my_hears {X : XT} {E : EV} {ws : va_W} {lv : List (Nat × Value)} {rest : List Value} {kC nC : Nat} {hx hm : Nat} {tl : Nat} {ct : Nat → Int} {pe : Nat} {kn : Int32} {st : Nat → Nat} {sn : Nat → Nat} {sl : Nat → Nat} {scx : Nat → Nat → Int32} {tT : Nat → Option SVal} {ec : Nat → Nat} {er : Nat → Nat} {ed : Nat → Nat → Int32} {q_taped : Nat} {cr : Nat → Int} {q_people : Nat} {f_secrets : Nat → Int32} {f_lanes : Nat → Int32} {f_lengths : Nat → Int32} {f_cells : Nat → Int32} {f_tokens : Nat → Int32} {f_afters : Nat → Int32} {f_caseMany : Nat → Int32} {f_happen : Nat → Int32} {f_heard : Nat → Int32} {v0 : Int32} {v1 : Int32} {v2 : Int32} {v3 : Int32} {v4 : Int32} (C : CX X room_1 cL_law 4 RL ret E) (hW : Nat.ble (rest.map fun v => v.category).sum 8 = true) (hk : kC ≤ 600000 ∧ nC ≤ 7302250) (hS : ST E hx hm tl ct pe kn st sn sl scx tT ec er ed q_taped cr q_people f_secrets f_lanes f_lengths f_cells f_tokens f_afters f_caseMany f_happen f_heard ws) (kont : ∀ (rr : Int32) (f_heardZ : Nat → Int32) (wsZ : va_W), ST E hx hm tl ct pe kn st sn sl scx tT ec er ed q_taped cr q_people f_secrets f_lanes f_lengths f_cells f_tokens f_afters f_caseMany f_happen f_heardZ wsZ → (((¬ CSE (cN f_caseMany) v0 v2 ∨ ¬ CSE (cN f_caseMany) v0 v3 ∨ v1.toInt < 0 ∨ 3 < v1.toInt) ∧ rr = -1 ∧ f_heardZ = f_heard) ∨ ∃ k_ n_ i_ : Nat, CSE (cN f_caseMany) v0 v2 ∧ CSE (cN f_caseMany) v0 v3 ∧ v0 = nI k_ ∧ v1 = nI n_ ∧ v2 = nI i_ ∧ k_ ≤ 3 ∧ n_ ≤ 3 ∧ i_ ≤ 3 ∧ upd f_heard (16 * k_ + 4 * n_ + i_) (hbt (f_heard (16 * k_ + 4 * n_ + i_)) v3 v4) = f_heardZ ∧ rr = f_heard (16 * k_ + 4 * n_ + i_) >>> (v3 &&& 31) &&& 1) → WW X 4 E 792 lv (.int rr :: rest) wsZ kC nC) : WW X 4 E 789 lv (.int v4 :: .int v3 :: .int v2 :: .int v1 :: .int v0 :: .ref hm :: rest) ws kC nC := by
  unfold ST at hS
  refine ex8 hS ?_
  clear hS
  intro h qp qs qj ly qh kk rd hS
  refine ex8 hS ?_
  clear hS
  intro pg ss ac np kc w_now w_past w_pars hS
  refine ex8 hS ?_
  clear hS
  intro w_judg w_layr w_heap w_kept w_rnds w_plnr w_shts wm hS
  refine ex1 hS ?_
  clear hS
  intro ro hS
  refine an8 hS ?_
  clear hS
  intro hac hnp hkc hpe H_now H_past H_pars H_judg hS
  refine an7 hS ?_
  clear hS
  intro H_layr H_heap H_kept H_rnds H_plnr H_shts H_ref hS
  have we_st := hS
  clear hS
  subst we_st
  refine ww_perm (ws' := wm ++ ([(hx, .inr (11, [.ref h, .ref qp, .int (nI ac), .int (nI np), .ref qs, .ref qj, .ref ly, .ref qh, .ref kk, .int (nI kc), .ref rd, .ref pg, .int (nI pe), .int kn, .ref ss]))] ++ (w_now ++ (w_past ++ (w_pars ++ (w_judg ++ (w_layr ++ (w_heap ++ (w_kept ++ (w_rnds ++ (w_plnr ++ (w_shts ++ ro)))))))))))) ((List.Perm.append_left _ ((List.Perm.append_left _ ((List.Perm.append_left _ ((List.Perm.append_left _ ((List.Perm.append_left _ ((List.Perm.append_left _ ((List.Perm.append_left _ ((List.Perm.append_left _ ((List.Perm.append_left _ ((List.Perm.append_left _ ((List.Perm.append_left _ (List.Perm.refl _)).trans (List.perm_append_comm_assoc _ _ _))).trans (List.perm_append_comm_assoc _ _ _))).trans (List.perm_append_comm_assoc _ _ _))).trans (List.perm_append_comm_assoc _ _ _))).trans (List.perm_append_comm_assoc _ _ _))).trans (List.perm_append_comm_assoc _ _ _))).trans (List.perm_append_comm_assoc _ _ _))).trans (List.perm_append_comm_assoc _ _ _))).trans (List.perm_append_comm_assoc _ _ _))).trans (List.perm_append_comm_assoc _ _ _))).trans (List.perm_append_comm_assoc _ _ _)) ?_
  refine lm_hears C hW hk H_ref (fun rr f_heardZ wmZ H_refZ hE => ?_)
  refine ww_perm (ws' := [(hx, .inr (11, [.ref h, .ref qp, .int (nI ac), .int (nI np), .ref qs, .ref qj, .ref ly, .ref qh, .ref kk, .int (nI kc), .ref rd, .ref pg, .int (nI pe), .int kn, .ref ss]))] ++ (w_now ++ (w_past ++ (w_pars ++ (w_judg ++ (w_layr ++ (w_heap ++ (w_kept ++ (w_rnds ++ (w_plnr ++ (w_shts ++ (wmZ ++ ro)))))))))))) ((List.Perm.append_left _ ((List.Perm.append_left _ ((List.Perm.append_left _ ((List.Perm.append_left _ ((List.Perm.append_left _ ((List.Perm.append_left _ ((List.Perm.append_left _ ((List.Perm.append_left _ ((List.Perm.append_left _ ((List.Perm.append_left _ ((List.Perm.append_left _ (List.Perm.refl _)).trans (List.perm_append_comm_assoc _ _ _))).trans (List.perm_append_comm_assoc _ _ _))).trans (List.perm_append_comm_assoc _ _ _))).trans (List.perm_append_comm_assoc _ _ _))).trans (List.perm_append_comm_assoc _ _ _))).trans (List.perm_append_comm_assoc _ _ _))).trans (List.perm_append_comm_assoc _ _ _))).trans (List.perm_append_comm_assoc _ _ _))).trans (List.perm_append_comm_assoc _ _ _))).trans (List.perm_append_comm_assoc _ _ _))).trans (List.perm_append_comm_assoc _ _ _)).symm ?_
  exact kont rr f_heardZ _ ⟨h, qp, qs, qj, ly, qh, kk, rd, pg, ss, ac, np, kc, w_now, w_past, w_pars, w_judg, w_layr, w_heap, w_kept, w_rnds, w_plnr, w_shts, wmZ, ro, hac, hnp, hkc, hpe, H_now, H_past, H_pars, H_judg, H_layr, H_heap, H_kept, H_rnds, H_plnr, H_shts, H_refZ, rfl⟩ hE
set_option maxRecDepth 100000 in
theorem my_happens {X : XT} {E : EV} {ws : va_W} {lv : List (Nat × Value)} {rest : List Value} {kC nC : Nat} {hx hm : Nat} {tl : Nat} {ct : Nat → Int} {pe : Nat} {kn : Int32} {st : Nat → Nat} {sn : Nat → Nat} {sl : Nat → Nat} {scx : Nat → Nat → Int32} {tT : Nat → Option SVal} {ec : Nat → Nat} {er : Nat → Nat} {ed : Nat → Nat → Int32} {q_taped : Nat} {cr : Nat → Int} {q_people : Nat} {f_secrets : Nat → Int32} {f_lanes : Nat → Int32} {f_lengths : Nat → Int32} {f_cells : Nat → Int32} {f_tokens : Nat → Int32} {f_afters : Nat → Int32} {f_caseMany : Nat → Int32} {f_happen : Nat → Int32} {f_heard : Nat → Int32} {v0 : Int32} {v1 : Int32} (C : CX X room_1 cL_law 4 RL ret E) (hW : Nat.ble (rest.map fun v => v.category).sum 8 = true) (hk : kC ≤ 600000 ∧ nC ≤ 7302250) (hS : ST E hx hm tl ct pe kn st sn sl scx tT ec er ed q_taped cr q_people f_secrets f_lanes f_lengths f_cells f_tokens f_afters f_caseMany f_happen f_heard ws) (kont : ∀ (rr : Int32) (f_happenZ : Nat → Int32) (wsZ : va_W), ST E hx hm tl ct pe kn st sn sl scx tT ec er ed q_taped cr q_people f_secrets f_lanes f_lengths f_cells f_tokens f_afters f_caseMany f_happenZ f_heard wsZ → ((¬ CSE (cN f_caseMany) v0 v1 ∧ rr = -1 ∧ f_happenZ = f_happen) ∨ ∃ k_ i_ : Nat, CSE (cN f_caseMany) v0 v1 ∧ v0 = nI k_ ∧ v1 = nI i_ ∧ k_ ≤ 3 ∧ i_ ≤ 3 ∧ upd f_happen k_ (nI i_) = f_happenZ ∧ rr = nI (cN f_happen k_)) → WW X 4 E 825 lv (.int rr :: rest) wsZ kC nC) : WW X 4 E 822 lv (.int v1 :: .int v0 :: .ref hm :: rest) ws kC nC := by
  unfold ST at hS
  refine ex8 hS ?_
  clear hS
  intro h qp qs qj ly qh kk rd hS
  refine ex8 hS ?_
  clear hS
  intro pg ss ac np kc w_now w_past w_pars hS
  refine ex8 hS ?_
  clear hS
  intro w_judg w_layr w_heap w_kept w_rnds w_plnr w_shts wm hS
  refine ex1 hS ?_
  clear hS
  intro ro hS
  refine an8 hS ?_
  clear hS
  intro hac hnp hkc hpe H_now H_past H_pars H_judg hS
  refine an7 hS ?_
  clear hS
  intro H_layr H_heap H_kept H_rnds H_plnr H_shts H_ref hS
  have we_st := hS
  clear hS
  subst we_st
  refine ww_perm (ws' := wm ++ ([(hx, .inr (11, [.ref h, .ref qp, .int (nI ac), .int (nI np), .ref qs, .ref qj, .ref ly, .ref qh, .ref kk, .int (nI kc), .ref rd, .ref pg, .int (nI pe), .int kn, .ref ss]))] ++ (w_now ++ (w_past ++ (w_pars ++ (w_judg ++ (w_layr ++ (w_heap ++ (w_kept ++ (w_rnds ++ (w_plnr ++ (w_shts ++ ro)))))))))))) ((List.Perm.append_left _ ((List.Perm.append_left _ ((List.Perm.append_left _ ((List.Perm.append_left _ ((List.Perm.append_left _ ((List.Perm.append_left _ ((List.Perm.append_left _ ((List.Perm.append_left _ ((List.Perm.append_left _ ((List.Perm.append_left _ ((List.Perm.append_left _ (List.Perm.refl _)).trans (List.perm_append_comm_assoc _ _ _))).trans (List.perm_append_comm_assoc _ _ _))).trans (List.perm_append_comm_assoc _ _ _))).trans (List.perm_append_comm_assoc _ _ _))).trans (List.perm_append_comm_assoc _ _ _))).trans (List.perm_append_comm_assoc _ _ _))).trans (List.perm_append_comm_assoc _ _ _))).trans (List.perm_append_comm_assoc _ _ _))).trans (List.perm_append_comm_assoc _ _ _))).trans (List.perm_append_comm_assoc _ _ _))).trans (List.perm_append_comm_assoc _ _ _)) ?_
  refine lm_happens C hW hk H_ref (fun rr f_happenZ wmZ H_refZ hE => ?_)
  refine ww_perm (ws' := [(hx, .inr (11, [.ref h, .ref qp, .int (nI ac), .int (nI np), .ref qs, .ref qj, .ref ly, .ref qh, .ref kk, .int (nI kc), .ref rd, .ref pg, .int (nI pe), .int kn, .ref ss]))] ++ (w_now ++ (w_past ++ (w_pars ++ (w_judg ++ (w_layr ++ (w_heap ++ (w_kept ++ (w_rnds ++ (w_plnr ++ (w_shts ++ (wmZ ++ ro)))))))))))) ((List.Perm.append_left _ ((List.Perm.append_left _ ((List.Perm.append_left _ ((List.Perm.append_left _ ((List.Perm.append_left _ ((List.Perm.append_left _ ((List.Perm.append_left _ ((List.Perm.append_left _ ((List.Perm.append_left _ ((List.Perm.append_left _ ((List.Perm.append_left _ (List.Perm.refl _)).trans (List.perm_append_comm_assoc _ _ _))).trans (List.perm_append_comm_assoc _ _ _))).trans (List.perm_append_comm_assoc _ _ _))).trans (List.perm_append_comm_assoc _ _ _))).trans (List.perm_append_comm_assoc _ _ _))).trans (List.perm_append_comm_assoc _ _ _))).trans (List.perm_append_comm_assoc _ _ _))).trans (List.perm_append_comm_assoc _ _ _))).trans (List.perm_append_comm_assoc _ _ _))).trans (List.perm_append_comm_assoc _ _ _))).trans (List.perm_append_comm_assoc _ _ _)).symm ?_
  exact kont rr f_happenZ _ ⟨h, qp, qs, qj, ly, qh, kk, rd, pg, ss, ac, np, kc, w_now, w_past, w_pars, w_judg, w_layr, w_heap, w_kept, w_rnds, w_plnr, w_shts, wmZ, ro, hac, hnp, hkc, hpe, H_now, H_past, H_pars, H_judg, H_layr, H_heap, H_kept, H_rnds, H_plnr, H_shts, H_refZ, rfl⟩ hE
set_option maxRecDepth 100000 in
theorem my_word {X : XT} {E : EV} {ws : va_W} {lv : List (Nat × Value)} {rest : List Value} {kC nC : Nat} {hx hm : Nat} {tl : Nat} {ct : Nat → Int} {pe : Nat} {kn : Int32} {st : Nat → Nat} {sn : Nat → Nat} {sl : Nat → Nat} {scx : Nat → Nat → Int32} {tT : Nat → Option SVal} {ec : Nat → Nat} {er : Nat → Nat} {ed : Nat → Nat → Int32} {q_taped : Nat} {cr : Nat → Int} {q_people : Nat} {f_secrets : Nat → Int32} {f_lanes : Nat → Int32} {f_lengths : Nat → Int32} {f_cells : Nat → Int32} {f_tokens : Nat → Int32} {f_afters : Nat → Int32} {f_caseMany : Nat → Int32} {f_happen : Nat → Int32} {f_heard : Nat → Int32} {v0 : Int32} {v1 : Int32} {v2 : Int32} {v3 : Int32} (C : CX X room_1 cL_law 4 RL ret E) (hW : Nat.ble (rest.map fun v => v.category).sum 8 = true) (hk : kC ≤ 600000 ∧ nC ≤ 7302250) (hS : ST E hx hm tl ct pe kn st sn sl scx tT ec er ed q_taped cr q_people f_secrets f_lanes f_lengths f_cells f_tokens f_afters f_caseMany f_happen f_heard ws) (kont : ∀ (rr : Int32) (f_caseManyZ : Nat → Int32) (f_happenZ : Nat → Int32) (f_heardZ : Nat → Int32) (wsZ : va_W), ST E hx hm tl ct pe kn st sn sl scx tT ec er ed q_taped cr q_people f_secrets f_lanes f_lengths f_cells f_tokens f_afters f_caseManyZ f_happenZ f_heardZ wsZ → (((v0.toInt < 0 ∨ 3 < v0.toInt ∨ v1.toInt < 0 ∨ 2 < v1.toInt ∨ ¬ PLN (tRr f_tokens f_afters) v2 ∨ v3.toInt < 0 ∨ 15 < v3.toInt) ∧ rr = -1 ∧ f_caseManyZ = f_caseMany ∧ f_happenZ = f_happen ∧ f_heardZ = f_heard) ∨ ∃ k_ d_ : Nat, PLN (tRr f_tokens f_afters) v2 ∧ v0 = nI k_ ∧ v1 = nI d_ ∧ k_ ≤ 3 ∧ d_ ≤ 2 ∧ (0 ≤ v3.toInt ∧ v3.toInt ≤ 15) ∧ upd f_caseMany k_ (nI (if d_ = 0 then 1 else 2)) = f_caseManyZ ∧ upd f_happen k_ (nI 0) = f_happenZ ∧ WX k_ d_ v3 4 f_heard f_heardZ ∧ rr = nI (if d_ = 0 then 1 else 2)) → WW X 4 E 878 lv (.int rr :: rest) wsZ kC nC) : WW X 4 E 875 lv (.int v3 :: .int v2 :: .int v1 :: .int v0 :: .ref hm :: rest) ws kC nC := by
  unfold ST at hS
  refine ex8 hS ?_
  clear hS
  intro h qp qs qj ly qh kk rd hS
  refine ex8 hS ?_
  clear hS
  intro pg ss ac np kc w_now w_past w_pars hS
  refine ex8 hS ?_
  clear hS
  intro w_judg w_layr w_heap w_kept w_rnds w_plnr w_shts wm hS
  refine ex1 hS ?_
  clear hS
  intro ro hS
  refine an8 hS ?_
  clear hS
  intro hac hnp hkc hpe H_now H_past H_pars H_judg hS
  refine an7 hS ?_
  clear hS
  intro H_layr H_heap H_kept H_rnds H_plnr H_shts H_ref hS
  have we_st := hS
  clear hS
  subst we_st
  refine ww_perm (ws' := wm ++ ([(hx, .inr (11, [.ref h, .ref qp, .int (nI ac), .int (nI np), .ref qs, .ref qj, .ref ly, .ref qh, .ref kk, .int (nI kc), .ref rd, .ref pg, .int (nI pe), .int kn, .ref ss]))] ++ (w_now ++ (w_past ++ (w_pars ++ (w_judg ++ (w_layr ++ (w_heap ++ (w_kept ++ (w_rnds ++ (w_plnr ++ (w_shts ++ ro)))))))))))) ((List.Perm.append_left _ ((List.Perm.append_left _ ((List.Perm.append_left _ ((List.Perm.append_left _ ((List.Perm.append_left _ ((List.Perm.append_left _ ((List.Perm.append_left _ ((List.Perm.append_left _ ((List.Perm.append_left _ ((List.Perm.append_left _ ((List.Perm.append_left _ (List.Perm.refl _)).trans (List.perm_append_comm_assoc _ _ _))).trans (List.perm_append_comm_assoc _ _ _))).trans (List.perm_append_comm_assoc _ _ _))).trans (List.perm_append_comm_assoc _ _ _))).trans (List.perm_append_comm_assoc _ _ _))).trans (List.perm_append_comm_assoc _ _ _))).trans (List.perm_append_comm_assoc _ _ _))).trans (List.perm_append_comm_assoc _ _ _))).trans (List.perm_append_comm_assoc _ _ _))).trans (List.perm_append_comm_assoc _ _ _))).trans (List.perm_append_comm_assoc _ _ _)) ?_
  refine lm_word C hW hk H_ref (fun rr f_caseManyZ f_happenZ f_heardZ wmZ H_refZ hE => ?_)
  refine ww_perm (ws' := [(hx, .inr (11, [.ref h, .ref qp, .int (nI ac), .int (nI np), .ref qs, .ref qj, .ref ly, .ref qh, .ref kk, .int (nI kc), .ref rd, .ref pg, .int (nI pe), .int kn, .ref ss]))] ++ (w_now ++ (w_past ++ (w_pars ++ (w_judg ++ (w_layr ++ (w_heap ++ (w_kept ++ (w_rnds ++ (w_plnr ++ (w_shts ++ (wmZ ++ ro)))))))))))) ((List.Perm.append_left _ ((List.Perm.append_left _ ((List.Perm.append_left _ ((List.Perm.append_left _ ((List.Perm.append_left _ ((List.Perm.append_left _ ((List.Perm.append_left _ ((List.Perm.append_left _ ((List.Perm.append_left _ ((List.Perm.append_left _ ((List.Perm.append_left _ (List.Perm.refl _)).trans (List.perm_append_comm_assoc _ _ _))).trans (List.perm_append_comm_assoc _ _ _))).trans (List.perm_append_comm_assoc _ _ _))).trans (List.perm_append_comm_assoc _ _ _))).trans (List.perm_append_comm_assoc _ _ _))).trans (List.perm_append_comm_assoc _ _ _))).trans (List.perm_append_comm_assoc _ _ _))).trans (List.perm_append_comm_assoc _ _ _))).trans (List.perm_append_comm_assoc _ _ _))).trans (List.perm_append_comm_assoc _ _ _))).trans (List.perm_append_comm_assoc _ _ _)).symm ?_
  exact kont rr f_caseManyZ f_happenZ f_heardZ _ ⟨h, qp, qs, qj, ly, qh, kk, rd, pg, ss, ac, np, kc, w_now, w_past, w_pars, w_judg, w_layr, w_heap, w_kept, w_rnds, w_plnr, w_shts, wmZ, ro, hac, hnp, hkc, hpe, H_now, H_past, H_pars, H_judg, H_layr, H_heap, H_kept, H_rnds, H_plnr, H_shts, H_refZ, rfl⟩ hE
set_option maxRecDepth 100000 in
theorem my_lay {X : XT} {E : EV} {ws : va_W} {lv : List (Nat × Value)} {rest : List Value} {kC nC : Nat} {hx hm : Nat} {tl : Nat} {ct : Nat → Int} {pe : Nat} {kn : Int32} {st : Nat → Nat} {sn : Nat → Nat} {sl : Nat → Nat} {scx : Nat → Nat → Int32} {tT : Nat → Option SVal} {ec : Nat → Nat} {er : Nat → Nat} {ed : Nat → Nat → Int32} {q_taped : Nat} {cr : Nat → Int} {q_people : Nat} {f_secrets : Nat → Int32} {f_lanes : Nat → Int32} {f_lengths : Nat → Int32} {f_cells : Nat → Int32} {f_tokens : Nat → Int32} {f_afters : Nat → Int32} {f_caseMany : Nat → Int32} {f_happen : Nat → Int32} {f_heard : Nat → Int32} {v0 : Int32} (C : CX X room_1 cL_law 4 RL ret E) (hW : Nat.ble (rest.map fun v => v.category).sum 8 = true) (hk : kC ≤ 600000 ∧ nC ≤ 7302250) (hS : ST E hx hm tl ct pe kn st sn sl scx tT ec er ed q_taped cr q_people f_secrets f_lanes f_lengths f_cells f_tokens f_afters f_caseMany f_happen f_heard ws) (kont : ∀ (rr : Int32) (wsZ : va_W), ST E hx hm tl ct pe kn st sn sl scx tT ec er ed q_taped cr q_people f_secrets f_lanes f_lengths f_cells f_tokens f_afters f_caseMany f_happen f_heard wsZ → (True) → WW X 4 E 901 lv (.int rr :: rest) wsZ kC nC) : WW X 4 E 898 lv (.int v0 :: .ref hm :: rest) ws kC nC := by
  unfold ST at hS
  refine ex8 hS ?_
  clear hS
  intro h qp qs qj ly qh kk rd hS
  refine ex8 hS ?_
  clear hS
  intro pg ss ac np kc w_now w_past w_pars hS
  refine ex8 hS ?_
  clear hS
  intro w_judg w_layr w_heap w_kept w_rnds w_plnr w_shts wm hS
  refine ex1 hS ?_
  clear hS
  intro ro hS
  refine an8 hS ?_
  clear hS
  intro hac hnp hkc hpe H_now H_past H_pars H_judg hS
  refine an7 hS ?_
  clear hS
  intro H_layr H_heap H_kept H_rnds H_plnr H_shts H_ref hS
  have we_st := hS
  clear hS
  subst we_st
  refine ww_perm (ws' := wm ++ ([(hx, .inr (11, [.ref h, .ref qp, .int (nI ac), .int (nI np), .ref qs, .ref qj, .ref ly, .ref qh, .ref kk, .int (nI kc), .ref rd, .ref pg, .int (nI pe), .int kn, .ref ss]))] ++ (w_now ++ (w_past ++ (w_pars ++ (w_judg ++ (w_layr ++ (w_heap ++ (w_kept ++ (w_rnds ++ (w_plnr ++ (w_shts ++ ro)))))))))))) ((List.Perm.append_left _ ((List.Perm.append_left _ ((List.Perm.append_left _ ((List.Perm.append_left _ ((List.Perm.append_left _ ((List.Perm.append_left _ ((List.Perm.append_left _ ((List.Perm.append_left _ ((List.Perm.append_left _ ((List.Perm.append_left _ ((List.Perm.append_left _ (List.Perm.refl _)).trans (List.perm_append_comm_assoc _ _ _))).trans (List.perm_append_comm_assoc _ _ _))).trans (List.perm_append_comm_assoc _ _ _))).trans (List.perm_append_comm_assoc _ _ _))).trans (List.perm_append_comm_assoc _ _ _))).trans (List.perm_append_comm_assoc _ _ _))).trans (List.perm_append_comm_assoc _ _ _))).trans (List.perm_append_comm_assoc _ _ _))).trans (List.perm_append_comm_assoc _ _ _))).trans (List.perm_append_comm_assoc _ _ _))).trans (List.perm_append_comm_assoc _ _ _)) ?_
  refine lm_lay C hW hk H_ref (fun rr wmZ H_refZ hE => ?_)
  refine ww_perm (ws' := [(hx, .inr (11, [.ref h, .ref qp, .int (nI ac), .int (nI np), .ref qs, .ref qj, .ref ly, .ref qh, .ref kk, .int (nI kc), .ref rd, .ref pg, .int (nI pe), .int kn, .ref ss]))] ++ (w_now ++ (w_past ++ (w_pars ++ (w_judg ++ (w_layr ++ (w_heap ++ (w_kept ++ (w_rnds ++ (w_plnr ++ (w_shts ++ (wmZ ++ ro)))))))))))) ((List.Perm.append_left _ ((List.Perm.append_left _ ((List.Perm.append_left _ ((List.Perm.append_left _ ((List.Perm.append_left _ ((List.Perm.append_left _ ((List.Perm.append_left _ ((List.Perm.append_left _ ((List.Perm.append_left _ ((List.Perm.append_left _ ((List.Perm.append_left _ (List.Perm.refl _)).trans (List.perm_append_comm_assoc _ _ _))).trans (List.perm_append_comm_assoc _ _ _))).trans (List.perm_append_comm_assoc _ _ _))).trans (List.perm_append_comm_assoc _ _ _))).trans (List.perm_append_comm_assoc _ _ _))).trans (List.perm_append_comm_assoc _ _ _))).trans (List.perm_append_comm_assoc _ _ _))).trans (List.perm_append_comm_assoc _ _ _))).trans (List.perm_append_comm_assoc _ _ _))).trans (List.perm_append_comm_assoc _ _ _))).trans (List.perm_append_comm_assoc _ _ _)).symm ?_
  exact kont rr  _ ⟨h, qp, qs, qj, ly, qh, kk, rd, pg, ss, ac, np, kc, w_now, w_past, w_pars, w_judg, w_layr, w_heap, w_kept, w_rnds, w_plnr, w_shts, wmZ, ro, hac, hnp, hkc, hpe, H_now, H_past, H_pars, H_judg, H_layr, H_heap, H_kept, H_rnds, H_plnr, H_shts, H_refZ, rfl⟩ hE
set_option maxRecDepth 100000 in
theorem my_classes {X : XT} {E : EV} {ws : va_W} {lv : List (Nat × Value)} {rest : List Value} {kC nC : Nat} {hx hm : Nat} {tl : Nat} {ct : Nat → Int} {pe : Nat} {kn : Int32} {st : Nat → Nat} {sn : Nat → Nat} {sl : Nat → Nat} {scx : Nat → Nat → Int32} {tT : Nat → Option SVal} {ec : Nat → Nat} {er : Nat → Nat} {ed : Nat → Nat → Int32} {q_taped : Nat} {cr : Nat → Int} {q_people : Nat} {f_secrets : Nat → Int32} {f_lanes : Nat → Int32} {f_lengths : Nat → Int32} {f_cells : Nat → Int32} {f_tokens : Nat → Int32} {f_afters : Nat → Int32} {f_caseMany : Nat → Int32} {f_happen : Nat → Int32} {f_heard : Nat → Int32}  (C : CX X room_1 cL_law 4 RL ret E) (hW : Nat.ble (rest.map fun v => v.category).sum 8 = true) (hk : kC ≤ 600000 ∧ nC ≤ 7302250) (hS : ST E hx hm tl ct pe kn st sn sl scx tT ec er ed q_taped cr q_people f_secrets f_lanes f_lengths f_cells f_tokens f_afters f_caseMany f_happen f_heard ws) (kont : ∀ (rr : Int32) (wsZ : va_W), ST E hx hm tl ct pe kn st sn sl scx tT ec er ed q_taped cr q_people f_secrets f_lanes f_lengths f_cells f_tokens f_afters f_caseMany f_happen f_heard wsZ → (True) → WW X 4 E 914 lv (.int rr :: rest) wsZ kC nC) : WW X 4 E 911 lv (.ref hm :: rest) ws kC nC := by
  unfold ST at hS
  refine ex8 hS ?_
  clear hS
  intro h qp qs qj ly qh kk rd hS
  refine ex8 hS ?_
  clear hS
  intro pg ss ac np kc w_now w_past w_pars hS
  refine ex8 hS ?_
  clear hS
  intro w_judg w_layr w_heap w_kept w_rnds w_plnr w_shts wm hS
  refine ex1 hS ?_
  clear hS
  intro ro hS
  refine an8 hS ?_
  clear hS
  intro hac hnp hkc hpe H_now H_past H_pars H_judg hS
  refine an7 hS ?_
  clear hS
  intro H_layr H_heap H_kept H_rnds H_plnr H_shts H_ref hS
  have we_st := hS
  clear hS
  subst we_st
  refine ww_perm (ws' := wm ++ ([(hx, .inr (11, [.ref h, .ref qp, .int (nI ac), .int (nI np), .ref qs, .ref qj, .ref ly, .ref qh, .ref kk, .int (nI kc), .ref rd, .ref pg, .int (nI pe), .int kn, .ref ss]))] ++ (w_now ++ (w_past ++ (w_pars ++ (w_judg ++ (w_layr ++ (w_heap ++ (w_kept ++ (w_rnds ++ (w_plnr ++ (w_shts ++ ro)))))))))))) ((List.Perm.append_left _ ((List.Perm.append_left _ ((List.Perm.append_left _ ((List.Perm.append_left _ ((List.Perm.append_left _ ((List.Perm.append_left _ ((List.Perm.append_left _ ((List.Perm.append_left _ ((List.Perm.append_left _ ((List.Perm.append_left _ ((List.Perm.append_left _ (List.Perm.refl _)).trans (List.perm_append_comm_assoc _ _ _))).trans (List.perm_append_comm_assoc _ _ _))).trans (List.perm_append_comm_assoc _ _ _))).trans (List.perm_append_comm_assoc _ _ _))).trans (List.perm_append_comm_assoc _ _ _))).trans (List.perm_append_comm_assoc _ _ _))).trans (List.perm_append_comm_assoc _ _ _))).trans (List.perm_append_comm_assoc _ _ _))).trans (List.perm_append_comm_assoc _ _ _))).trans (List.perm_append_comm_assoc _ _ _))).trans (List.perm_append_comm_assoc _ _ _)) ?_
  refine lm_classes C hW hk H_ref (fun rr wmZ H_refZ hE => ?_)
  refine ww_perm (ws' := [(hx, .inr (11, [.ref h, .ref qp, .int (nI ac), .int (nI np), .ref qs, .ref qj, .ref ly, .ref qh, .ref kk, .int (nI kc), .ref rd, .ref pg, .int (nI pe), .int kn, .ref ss]))] ++ (w_now ++ (w_past ++ (w_pars ++ (w_judg ++ (w_layr ++ (w_heap ++ (w_kept ++ (w_rnds ++ (w_plnr ++ (w_shts ++ (wmZ ++ ro)))))))))))) ((List.Perm.append_left _ ((List.Perm.append_left _ ((List.Perm.append_left _ ((List.Perm.append_left _ ((List.Perm.append_left _ ((List.Perm.append_left _ ((List.Perm.append_left _ ((List.Perm.append_left _ ((List.Perm.append_left _ ((List.Perm.append_left _ ((List.Perm.append_left _ (List.Perm.refl _)).trans (List.perm_append_comm_assoc _ _ _))).trans (List.perm_append_comm_assoc _ _ _))).trans (List.perm_append_comm_assoc _ _ _))).trans (List.perm_append_comm_assoc _ _ _))).trans (List.perm_append_comm_assoc _ _ _))).trans (List.perm_append_comm_assoc _ _ _))).trans (List.perm_append_comm_assoc _ _ _))).trans (List.perm_append_comm_assoc _ _ _))).trans (List.perm_append_comm_assoc _ _ _))).trans (List.perm_append_comm_assoc _ _ _))).trans (List.perm_append_comm_assoc _ _ _)).symm ?_
  exact kont rr  _ ⟨h, qp, qs, qj, ly, qh, kk, rd, pg, ss, ac, np, kc, w_now, w_past, w_pars, w_judg, w_layr, w_heap, w_kept, w_rnds, w_plnr, w_shts, wmZ, ro, hac, hnp, hkc, hpe, H_now, H_past, H_pars, H_judg, H_layr, H_heap, H_kept, H_rnds, H_plnr, H_shts, H_refZ, rfl⟩ hE
set_option maxRecDepth 100000 in
theorem my_classOf {X : XT} {E : EV} {ws : va_W} {lv : List (Nat × Value)} {rest : List Value} {kC nC : Nat} {hx hm : Nat} {tl : Nat} {ct : Nat → Int} {pe : Nat} {kn : Int32} {st : Nat → Nat} {sn : Nat → Nat} {sl : Nat → Nat} {scx : Nat → Nat → Int32} {tT : Nat → Option SVal} {ec : Nat → Nat} {er : Nat → Nat} {ed : Nat → Nat → Int32} {q_taped : Nat} {cr : Nat → Int} {q_people : Nat} {f_secrets : Nat → Int32} {f_lanes : Nat → Int32} {f_lengths : Nat → Int32} {f_cells : Nat → Int32} {f_tokens : Nat → Int32} {f_afters : Nat → Int32} {f_caseMany : Nat → Int32} {f_happen : Nat → Int32} {f_heard : Nat → Int32} {v0 : Int32} (C : CX X room_1 cL_law 4 RL ret E) (hW : Nat.ble (rest.map fun v => v.category).sum 8 = true) (hk : kC ≤ 600000 ∧ nC ≤ 7302250) (hS : ST E hx hm tl ct pe kn st sn sl scx tT ec er ed q_taped cr q_people f_secrets f_lanes f_lengths f_cells f_tokens f_afters f_caseMany f_happen f_heard ws) (kont : ∀ (rr : Int32) (wsZ : va_W), ST E hx hm tl ct pe kn st sn sl scx tT ec er ed q_taped cr q_people f_secrets f_lanes f_lengths f_cells f_tokens f_afters f_caseMany f_happen f_heard wsZ → (True) → WW X 4 E 937 lv (.int rr :: rest) wsZ kC nC) : WW X 4 E 934 lv (.int v0 :: .ref hm :: rest) ws kC nC := by
  unfold ST at hS
  refine ex8 hS ?_
  clear hS
  intro h qp qs qj ly qh kk rd hS
  refine ex8 hS ?_
  clear hS
  intro pg ss ac np kc w_now w_past w_pars hS
  refine ex8 hS ?_
  clear hS
  intro w_judg w_layr w_heap w_kept w_rnds w_plnr w_shts wm hS
  refine ex1 hS ?_
  clear hS
  intro ro hS
  refine an8 hS ?_
  clear hS
  intro hac hnp hkc hpe H_now H_past H_pars H_judg hS
  refine an7 hS ?_
  clear hS
  intro H_layr H_heap H_kept H_rnds H_plnr H_shts H_ref hS
  have we_st := hS
  clear hS
  subst we_st
  refine ww_perm (ws' := wm ++ ([(hx, .inr (11, [.ref h, .ref qp, .int (nI ac), .int (nI np), .ref qs, .ref qj, .ref ly, .ref qh, .ref kk, .int (nI kc), .ref rd, .ref pg, .int (nI pe), .int kn, .ref ss]))] ++ (w_now ++ (w_past ++ (w_pars ++ (w_judg ++ (w_layr ++ (w_heap ++ (w_kept ++ (w_rnds ++ (w_plnr ++ (w_shts ++ ro)))))))))))) ((List.Perm.append_left _ ((List.Perm.append_left _ ((List.Perm.append_left _ ((List.Perm.append_left _ ((List.Perm.append_left _ ((List.Perm.append_left _ ((List.Perm.append_left _ ((List.Perm.append_left _ ((List.Perm.append_left _ ((List.Perm.append_left _ ((List.Perm.append_left _ (List.Perm.refl _)).trans (List.perm_append_comm_assoc _ _ _))).trans (List.perm_append_comm_assoc _ _ _))).trans (List.perm_append_comm_assoc _ _ _))).trans (List.perm_append_comm_assoc _ _ _))).trans (List.perm_append_comm_assoc _ _ _))).trans (List.perm_append_comm_assoc _ _ _))).trans (List.perm_append_comm_assoc _ _ _))).trans (List.perm_append_comm_assoc _ _ _))).trans (List.perm_append_comm_assoc _ _ _))).trans (List.perm_append_comm_assoc _ _ _))).trans (List.perm_append_comm_assoc _ _ _)) ?_
  refine lm_classOf C hW hk H_ref (fun rr wmZ H_refZ hE => ?_)
  refine ww_perm (ws' := [(hx, .inr (11, [.ref h, .ref qp, .int (nI ac), .int (nI np), .ref qs, .ref qj, .ref ly, .ref qh, .ref kk, .int (nI kc), .ref rd, .ref pg, .int (nI pe), .int kn, .ref ss]))] ++ (w_now ++ (w_past ++ (w_pars ++ (w_judg ++ (w_layr ++ (w_heap ++ (w_kept ++ (w_rnds ++ (w_plnr ++ (w_shts ++ (wmZ ++ ro)))))))))))) ((List.Perm.append_left _ ((List.Perm.append_left _ ((List.Perm.append_left _ ((List.Perm.append_left _ ((List.Perm.append_left _ ((List.Perm.append_left _ ((List.Perm.append_left _ ((List.Perm.append_left _ ((List.Perm.append_left _ ((List.Perm.append_left _ ((List.Perm.append_left _ (List.Perm.refl _)).trans (List.perm_append_comm_assoc _ _ _))).trans (List.perm_append_comm_assoc _ _ _))).trans (List.perm_append_comm_assoc _ _ _))).trans (List.perm_append_comm_assoc _ _ _))).trans (List.perm_append_comm_assoc _ _ _))).trans (List.perm_append_comm_assoc _ _ _))).trans (List.perm_append_comm_assoc _ _ _))).trans (List.perm_append_comm_assoc _ _ _))).trans (List.perm_append_comm_assoc _ _ _))).trans (List.perm_append_comm_assoc _ _ _))).trans (List.perm_append_comm_assoc _ _ _)).symm ?_
  exact kont rr  _ ⟨h, qp, qs, qj, ly, qh, kk, rd, pg, ss, ac, np, kc, w_now, w_past, w_pars, w_judg, w_layr, w_heap, w_kept, w_rnds, w_plnr, w_shts, wmZ, ro, hac, hnp, hkc, hpe, H_now, H_past, H_pars, H_judg, H_layr, H_heap, H_kept, H_rnds, H_plnr, H_shts, H_refZ, rfl⟩ hE
set_option maxRecDepth 100000 in
theorem my_depth {X : XT} {E : EV} {ws : va_W} {lv : List (Nat × Value)} {rest : List Value} {kC nC : Nat} {hx hm : Nat} {tl : Nat} {ct : Nat → Int} {pe : Nat} {kn : Int32} {st : Nat → Nat} {sn : Nat → Nat} {sl : Nat → Nat} {scx : Nat → Nat → Int32} {tT : Nat → Option SVal} {ec : Nat → Nat} {er : Nat → Nat} {ed : Nat → Nat → Int32} {q_taped : Nat} {cr : Nat → Int} {q_people : Nat} {f_secrets : Nat → Int32} {f_lanes : Nat → Int32} {f_lengths : Nat → Int32} {f_cells : Nat → Int32} {f_tokens : Nat → Int32} {f_afters : Nat → Int32} {f_caseMany : Nat → Int32} {f_happen : Nat → Int32} {f_heard : Nat → Int32} {v0 : Int32} {v1 : Int32} (C : CX X room_1 cL_law 4 RL ret E) (hW : Nat.ble (rest.map fun v => v.category).sum 8 = true) (hk : kC ≤ 600000 ∧ nC ≤ 7302250) (hS : ST E hx hm tl ct pe kn st sn sl scx tT ec er ed q_taped cr q_people f_secrets f_lanes f_lengths f_cells f_tokens f_afters f_caseMany f_happen f_heard ws) (kont : ∀ (rr : Int32) (wsZ : va_W), ST E hx hm tl ct pe kn st sn sl scx tT ec er ed q_taped cr q_people f_secrets f_lanes f_lengths f_cells f_tokens f_afters f_caseMany f_happen f_heard wsZ → (True) → WW X 4 E 970 lv (.int rr :: rest) wsZ kC nC) : WW X 4 E 967 lv (.int v1 :: .int v0 :: .ref hm :: rest) ws kC nC := by
  unfold ST at hS
  refine ex8 hS ?_
  clear hS
  intro h qp qs qj ly qh kk rd hS
  refine ex8 hS ?_
  clear hS
  intro pg ss ac np kc w_now w_past w_pars hS
  refine ex8 hS ?_
  clear hS
  intro w_judg w_layr w_heap w_kept w_rnds w_plnr w_shts wm hS
  refine ex1 hS ?_
  clear hS
  intro ro hS
  refine an8 hS ?_
  clear hS
  intro hac hnp hkc hpe H_now H_past H_pars H_judg hS
  refine an7 hS ?_
  clear hS
  intro H_layr H_heap H_kept H_rnds H_plnr H_shts H_ref hS
  have we_st := hS
  clear hS
  subst we_st
  refine ww_perm (ws' := wm ++ ([(hx, .inr (11, [.ref h, .ref qp, .int (nI ac), .int (nI np), .ref qs, .ref qj, .ref ly, .ref qh, .ref kk, .int (nI kc), .ref rd, .ref pg, .int (nI pe), .int kn, .ref ss]))] ++ (w_now ++ (w_past ++ (w_pars ++ (w_judg ++ (w_layr ++ (w_heap ++ (w_kept ++ (w_rnds ++ (w_plnr ++ (w_shts ++ ro)))))))))))) ((List.Perm.append_left _ ((List.Perm.append_left _ ((List.Perm.append_left _ ((List.Perm.append_left _ ((List.Perm.append_left _ ((List.Perm.append_left _ ((List.Perm.append_left _ ((List.Perm.append_left _ ((List.Perm.append_left _ ((List.Perm.append_left _ ((List.Perm.append_left _ (List.Perm.refl _)).trans (List.perm_append_comm_assoc _ _ _))).trans (List.perm_append_comm_assoc _ _ _))).trans (List.perm_append_comm_assoc _ _ _))).trans (List.perm_append_comm_assoc _ _ _))).trans (List.perm_append_comm_assoc _ _ _))).trans (List.perm_append_comm_assoc _ _ _))).trans (List.perm_append_comm_assoc _ _ _))).trans (List.perm_append_comm_assoc _ _ _))).trans (List.perm_append_comm_assoc _ _ _))).trans (List.perm_append_comm_assoc _ _ _))).trans (List.perm_append_comm_assoc _ _ _)) ?_
  refine lm_depth C hW hk H_ref (fun rr wmZ H_refZ hE => ?_)
  refine ww_perm (ws' := [(hx, .inr (11, [.ref h, .ref qp, .int (nI ac), .int (nI np), .ref qs, .ref qj, .ref ly, .ref qh, .ref kk, .int (nI kc), .ref rd, .ref pg, .int (nI pe), .int kn, .ref ss]))] ++ (w_now ++ (w_past ++ (w_pars ++ (w_judg ++ (w_layr ++ (w_heap ++ (w_kept ++ (w_rnds ++ (w_plnr ++ (w_shts ++ (wmZ ++ ro)))))))))))) ((List.Perm.append_left _ ((List.Perm.append_left _ ((List.Perm.append_left _ ((List.Perm.append_left _ ((List.Perm.append_left _ ((List.Perm.append_left _ ((List.Perm.append_left _ ((List.Perm.append_left _ ((List.Perm.append_left _ ((List.Perm.append_left _ ((List.Perm.append_left _ (List.Perm.refl _)).trans (List.perm_append_comm_assoc _ _ _))).trans (List.perm_append_comm_assoc _ _ _))).trans (List.perm_append_comm_assoc _ _ _))).trans (List.perm_append_comm_assoc _ _ _))).trans (List.perm_append_comm_assoc _ _ _))).trans (List.perm_append_comm_assoc _ _ _))).trans (List.perm_append_comm_assoc _ _ _))).trans (List.perm_append_comm_assoc _ _ _))).trans (List.perm_append_comm_assoc _ _ _))).trans (List.perm_append_comm_assoc _ _ _))).trans (List.perm_append_comm_assoc _ _ _)).symm ?_
  exact kont rr  _ ⟨h, qp, qs, qj, ly, qh, kk, rd, pg, ss, ac, np, kc, w_now, w_past, w_pars, w_judg, w_layr, w_heap, w_kept, w_rnds, w_plnr, w_shts, wmZ, ro, hac, hnp, hkc, hpe, H_now, H_past, H_pars, H_judg, H_layr, H_heap, H_kept, H_rnds, H_plnr, H_shts, H_refZ, rfl⟩ hE
set_option maxRecDepth 100000 in
theorem my_melt {X : XT} {E : EV} {ws : va_W} {lv : List (Nat × Value)} {rest : List Value} {kC nC : Nat} {hx hm : Nat} {tl : Nat} {ct : Nat → Int} {pe : Nat} {kn : Int32} {st : Nat → Nat} {sn : Nat → Nat} {sl : Nat → Nat} {scx : Nat → Nat → Int32} {tT : Nat → Option SVal} {ec : Nat → Nat} {er : Nat → Nat} {ed : Nat → Nat → Int32} {q_taped : Nat} {cr : Nat → Int} {q_people : Nat} {f_secrets : Nat → Int32} {f_lanes : Nat → Int32} {f_lengths : Nat → Int32} {f_cells : Nat → Int32} {f_tokens : Nat → Int32} {f_afters : Nat → Int32} {f_caseMany : Nat → Int32} {f_happen : Nat → Int32} {f_heard : Nat → Int32}  (C : CX X room_1 cL_law 4 RL ret E) (hW : Nat.ble (rest.map fun v => v.category).sum 8 = true) (hk : kC ≤ 600000 ∧ nC ≤ 7302250) (hS : ST E hx hm tl ct pe kn st sn sl scx tT ec er ed q_taped cr q_people f_secrets f_lanes f_lengths f_cells f_tokens f_afters f_caseMany f_happen f_heard ws) (kont : ∀ (rr : Int32) (wsZ : va_W), ST E hx hm tl ct pe kn st sn sl scx tT ec er ed q_taped cr q_people f_secrets f_lanes f_lengths f_cells f_tokens f_afters f_caseMany f_happen f_heard wsZ → (True) → WW X 4 E 983 lv (.int rr :: rest) wsZ kC nC) : WW X 4 E 980 lv (.ref hm :: rest) ws kC nC := by
  unfold ST at hS
  refine ex8 hS ?_
  clear hS
  intro h qp qs qj ly qh kk rd hS
  refine ex8 hS ?_
  clear hS
  intro pg ss ac np kc w_now w_past w_pars hS
  refine ex8 hS ?_
  clear hS
  intro w_judg w_layr w_heap w_kept w_rnds w_plnr w_shts wm hS
  refine ex1 hS ?_
  clear hS
  intro ro hS
  refine an8 hS ?_
  clear hS
  intro hac hnp hkc hpe H_now H_past H_pars H_judg hS
  refine an7 hS ?_
  clear hS
  intro H_layr H_heap H_kept H_rnds H_plnr H_shts H_ref hS
  have we_st := hS
  clear hS
  subst we_st
  refine ww_perm (ws' := wm ++ ([(hx, .inr (11, [.ref h, .ref qp, .int (nI ac), .int (nI np), .ref qs, .ref qj, .ref ly, .ref qh, .ref kk, .int (nI kc), .ref rd, .ref pg, .int (nI pe), .int kn, .ref ss]))] ++ (w_now ++ (w_past ++ (w_pars ++ (w_judg ++ (w_layr ++ (w_heap ++ (w_kept ++ (w_rnds ++ (w_plnr ++ (w_shts ++ ro)))))))))))) ((List.Perm.append_left _ ((List.Perm.append_left _ ((List.Perm.append_left _ ((List.Perm.append_left _ ((List.Perm.append_left _ ((List.Perm.append_left _ ((List.Perm.append_left _ ((List.Perm.append_left _ ((List.Perm.append_left _ ((List.Perm.append_left _ ((List.Perm.append_left _ (List.Perm.refl _)).trans (List.perm_append_comm_assoc _ _ _))).trans (List.perm_append_comm_assoc _ _ _))).trans (List.perm_append_comm_assoc _ _ _))).trans (List.perm_append_comm_assoc _ _ _))).trans (List.perm_append_comm_assoc _ _ _))).trans (List.perm_append_comm_assoc _ _ _))).trans (List.perm_append_comm_assoc _ _ _))).trans (List.perm_append_comm_assoc _ _ _))).trans (List.perm_append_comm_assoc _ _ _))).trans (List.perm_append_comm_assoc _ _ _))).trans (List.perm_append_comm_assoc _ _ _)) ?_
  refine lm_melt C hW hk H_ref (fun rr wmZ H_refZ hE => ?_)
  refine ww_perm (ws' := [(hx, .inr (11, [.ref h, .ref qp, .int (nI ac), .int (nI np), .ref qs, .ref qj, .ref ly, .ref qh, .ref kk, .int (nI kc), .ref rd, .ref pg, .int (nI pe), .int kn, .ref ss]))] ++ (w_now ++ (w_past ++ (w_pars ++ (w_judg ++ (w_layr ++ (w_heap ++ (w_kept ++ (w_rnds ++ (w_plnr ++ (w_shts ++ (wmZ ++ ro)))))))))))) ((List.Perm.append_left _ ((List.Perm.append_left _ ((List.Perm.append_left _ ((List.Perm.append_left _ ((List.Perm.append_left _ ((List.Perm.append_left _ ((List.Perm.append_left _ ((List.Perm.append_left _ ((List.Perm.append_left _ ((List.Perm.append_left _ ((List.Perm.append_left _ (List.Perm.refl _)).trans (List.perm_append_comm_assoc _ _ _))).trans (List.perm_append_comm_assoc _ _ _))).trans (List.perm_append_comm_assoc _ _ _))).trans (List.perm_append_comm_assoc _ _ _))).trans (List.perm_append_comm_assoc _ _ _))).trans (List.perm_append_comm_assoc _ _ _))).trans (List.perm_append_comm_assoc _ _ _))).trans (List.perm_append_comm_assoc _ _ _))).trans (List.perm_append_comm_assoc _ _ _))).trans (List.perm_append_comm_assoc _ _ _))).trans (List.perm_append_comm_assoc _ _ _)).symm ?_
  exact kont rr  _ ⟨h, qp, qs, qj, ly, qh, kk, rd, pg, ss, ac, np, kc, w_now, w_past, w_pars, w_judg, w_layr, w_heap, w_kept, w_rnds, w_plnr, w_shts, wmZ, ro, hac, hnp, hkc, hpe, H_now, H_past, H_pars, H_judg, H_layr, H_heap, H_kept, H_rnds, H_plnr, H_shts, H_refZ, rfl⟩ hE
set_option maxRecDepth 100000 in
theorem my_keep {X : XT} {E : EV} {ws : va_W} {lv : List (Nat × Value)} {rest : List Value} {kC nC : Nat} {hx hm : Nat} {tl : Nat} {ct : Nat → Int} {pe : Nat} {kn : Int32} {st : Nat → Nat} {sn : Nat → Nat} {sl : Nat → Nat} {scx : Nat → Nat → Int32} {tT : Nat → Option SVal} {ec : Nat → Nat} {er : Nat → Nat} {ed : Nat → Nat → Int32} {q_taped : Nat} {cr : Nat → Int} {q_people : Nat} {f_secrets : Nat → Int32} {f_lanes : Nat → Int32} {f_lengths : Nat → Int32} {f_cells : Nat → Int32} {f_tokens : Nat → Int32} {f_afters : Nat → Int32} {f_caseMany : Nat → Int32} {f_happen : Nat → Int32} {f_heard : Nat → Int32}  (C : CX X room_1 cL_law 4 RL ret E) (hW : Nat.ble (rest.map fun v => v.category).sum 8 = true) (hk : kC ≤ 600000 ∧ nC ≤ 7302250) (hS : ST E hx hm tl ct pe kn st sn sl scx tT ec er ed q_taped cr q_people f_secrets f_lanes f_lengths f_cells f_tokens f_afters f_caseMany f_happen f_heard ws) (kont : ∀ (rr : Int32) (wsZ : va_W), ST E hx hm tl ct pe kn st sn sl scx tT ec er ed q_taped cr q_people f_secrets f_lanes f_lengths f_cells f_tokens f_afters f_caseMany f_happen f_heard wsZ → (True) → WW X 4 E 996 lv (.int rr :: rest) wsZ kC nC) : WW X 4 E 993 lv (.ref hm :: rest) ws kC nC := by
  unfold ST at hS
  refine ex8 hS ?_
  clear hS
  intro h qp qs qj ly qh kk rd hS
  refine ex8 hS ?_
  clear hS
  intro pg ss ac np kc w_now w_past w_pars hS
  refine ex8 hS ?_
  clear hS
  intro w_judg w_layr w_heap w_kept w_rnds w_plnr w_shts wm hS
  refine ex1 hS ?_
  clear hS
  intro ro hS
  refine an8 hS ?_
  clear hS
  intro hac hnp hkc hpe H_now H_past H_pars H_judg hS
  refine an7 hS ?_
  clear hS
  intro H_layr H_heap H_kept H_rnds H_plnr H_shts H_ref hS
  have we_st := hS
  clear hS
  subst we_st
  refine ww_perm (ws' := wm ++ ([(hx, .inr (11, [.ref h, .ref qp, .int (nI ac), .int (nI np), .ref qs, .ref qj, .ref ly, .ref qh, .ref kk, .int (nI kc), .ref rd, .ref pg, .int (nI pe), .int kn, .ref ss]))] ++ (w_now ++ (w_past ++ (w_pars ++ (w_judg ++ (w_layr ++ (w_heap ++ (w_kept ++ (w_rnds ++ (w_plnr ++ (w_shts ++ ro)))))))))))) ((List.Perm.append_left _ ((List.Perm.append_left _ ((List.Perm.append_left _ ((List.Perm.append_left _ ((List.Perm.append_left _ ((List.Perm.append_left _ ((List.Perm.append_left _ ((List.Perm.append_left _ ((List.Perm.append_left _ ((List.Perm.append_left _ ((List.Perm.append_left _ (List.Perm.refl _)).trans (List.perm_append_comm_assoc _ _ _))).trans (List.perm_append_comm_assoc _ _ _))).trans (List.perm_append_comm_assoc _ _ _))).trans (List.perm_append_comm_assoc _ _ _))).trans (List.perm_append_comm_assoc _ _ _))).trans (List.perm_append_comm_assoc _ _ _))).trans (List.perm_append_comm_assoc _ _ _))).trans (List.perm_append_comm_assoc _ _ _))).trans (List.perm_append_comm_assoc _ _ _))).trans (List.perm_append_comm_assoc _ _ _))).trans (List.perm_append_comm_assoc _ _ _)) ?_
  refine lm_keep C hW hk H_ref (fun rr wmZ H_refZ hE => ?_)
  refine ww_perm (ws' := [(hx, .inr (11, [.ref h, .ref qp, .int (nI ac), .int (nI np), .ref qs, .ref qj, .ref ly, .ref qh, .ref kk, .int (nI kc), .ref rd, .ref pg, .int (nI pe), .int kn, .ref ss]))] ++ (w_now ++ (w_past ++ (w_pars ++ (w_judg ++ (w_layr ++ (w_heap ++ (w_kept ++ (w_rnds ++ (w_plnr ++ (w_shts ++ (wmZ ++ ro)))))))))))) ((List.Perm.append_left _ ((List.Perm.append_left _ ((List.Perm.append_left _ ((List.Perm.append_left _ ((List.Perm.append_left _ ((List.Perm.append_left _ ((List.Perm.append_left _ ((List.Perm.append_left _ ((List.Perm.append_left _ ((List.Perm.append_left _ ((List.Perm.append_left _ (List.Perm.refl _)).trans (List.perm_append_comm_assoc _ _ _))).trans (List.perm_append_comm_assoc _ _ _))).trans (List.perm_append_comm_assoc _ _ _))).trans (List.perm_append_comm_assoc _ _ _))).trans (List.perm_append_comm_assoc _ _ _))).trans (List.perm_append_comm_assoc _ _ _))).trans (List.perm_append_comm_assoc _ _ _))).trans (List.perm_append_comm_assoc _ _ _))).trans (List.perm_append_comm_assoc _ _ _))).trans (List.perm_append_comm_assoc _ _ _))).trans (List.perm_append_comm_assoc _ _ _)).symm ?_
  exact kont rr  _ ⟨h, qp, qs, qj, ly, qh, kk, rd, pg, ss, ac, np, kc, w_now, w_past, w_pars, w_judg, w_layr, w_heap, w_kept, w_rnds, w_plnr, w_shts, wmZ, ro, hac, hnp, hkc, hpe, H_now, H_past, H_pars, H_judg, H_layr, H_heap, H_kept, H_rnds, H_plnr, H_shts, H_refZ, rfl⟩ hE
set_option maxRecDepth 100000 in
theorem my_stand {X : XT} {E : EV} {ws : va_W} {lv : List (Nat × Value)} {rest : List Value} {kC nC : Nat} {hx hm : Nat} {tl : Nat} {ct : Nat → Int} {pe : Nat} {kn : Int32} {st : Nat → Nat} {sn : Nat → Nat} {sl : Nat → Nat} {scx : Nat → Nat → Int32} {tT : Nat → Option SVal} {ec : Nat → Nat} {er : Nat → Nat} {ed : Nat → Nat → Int32} {q_taped : Nat} {cr : Nat → Int} {q_people : Nat} {f_secrets : Nat → Int32} {f_lanes : Nat → Int32} {f_lengths : Nat → Int32} {f_cells : Nat → Int32} {f_tokens : Nat → Int32} {f_afters : Nat → Int32} {f_caseMany : Nat → Int32} {f_happen : Nat → Int32} {f_heard : Nat → Int32} {v0 : Int32} (C : CX X room_1 cL_law 4 RL ret E) (hW : Nat.ble (rest.map fun v => v.category).sum 8 = true) (hk : kC ≤ 600000 ∧ nC ≤ 7302250) (hS : ST E hx hm tl ct pe kn st sn sl scx tT ec er ed q_taped cr q_people f_secrets f_lanes f_lengths f_cells f_tokens f_afters f_caseMany f_happen f_heard ws) (kont : ∀ (rr : Int32) (wsZ : va_W), ST E hx hm tl ct pe kn st sn sl scx tT ec er ed q_taped cr q_people f_secrets f_lanes f_lengths f_cells f_tokens f_afters f_caseMany f_happen f_heard wsZ → (True) → WW X 4 E 1019 lv (.int rr :: rest) wsZ kC nC) : WW X 4 E 1016 lv (.int v0 :: .ref hm :: rest) ws kC nC := by
  unfold ST at hS
  refine ex8 hS ?_
  clear hS
  intro h qp qs qj ly qh kk rd hS
  refine ex8 hS ?_
  clear hS
  intro pg ss ac np kc w_now w_past w_pars hS
  refine ex8 hS ?_
  clear hS
  intro w_judg w_layr w_heap w_kept w_rnds w_plnr w_shts wm hS
  refine ex1 hS ?_
  clear hS
  intro ro hS
  refine an8 hS ?_
  clear hS
  intro hac hnp hkc hpe H_now H_past H_pars H_judg hS
  refine an7 hS ?_
  clear hS
  intro H_layr H_heap H_kept H_rnds H_plnr H_shts H_ref hS
  have we_st := hS
  clear hS
  subst we_st
  refine ww_perm (ws' := wm ++ ([(hx, .inr (11, [.ref h, .ref qp, .int (nI ac), .int (nI np), .ref qs, .ref qj, .ref ly, .ref qh, .ref kk, .int (nI kc), .ref rd, .ref pg, .int (nI pe), .int kn, .ref ss]))] ++ (w_now ++ (w_past ++ (w_pars ++ (w_judg ++ (w_layr ++ (w_heap ++ (w_kept ++ (w_rnds ++ (w_plnr ++ (w_shts ++ ro)))))))))))) ((List.Perm.append_left _ ((List.Perm.append_left _ ((List.Perm.append_left _ ((List.Perm.append_left _ ((List.Perm.append_left _ ((List.Perm.append_left _ ((List.Perm.append_left _ ((List.Perm.append_left _ ((List.Perm.append_left _ ((List.Perm.append_left _ ((List.Perm.append_left _ (List.Perm.refl _)).trans (List.perm_append_comm_assoc _ _ _))).trans (List.perm_append_comm_assoc _ _ _))).trans (List.perm_append_comm_assoc _ _ _))).trans (List.perm_append_comm_assoc _ _ _))).trans (List.perm_append_comm_assoc _ _ _))).trans (List.perm_append_comm_assoc _ _ _))).trans (List.perm_append_comm_assoc _ _ _))).trans (List.perm_append_comm_assoc _ _ _))).trans (List.perm_append_comm_assoc _ _ _))).trans (List.perm_append_comm_assoc _ _ _))).trans (List.perm_append_comm_assoc _ _ _)) ?_
  refine lm_stand C hW hk H_ref (fun rr wmZ H_refZ hE => ?_)
  refine ww_perm (ws' := [(hx, .inr (11, [.ref h, .ref qp, .int (nI ac), .int (nI np), .ref qs, .ref qj, .ref ly, .ref qh, .ref kk, .int (nI kc), .ref rd, .ref pg, .int (nI pe), .int kn, .ref ss]))] ++ (w_now ++ (w_past ++ (w_pars ++ (w_judg ++ (w_layr ++ (w_heap ++ (w_kept ++ (w_rnds ++ (w_plnr ++ (w_shts ++ (wmZ ++ ro)))))))))))) ((List.Perm.append_left _ ((List.Perm.append_left _ ((List.Perm.append_left _ ((List.Perm.append_left _ ((List.Perm.append_left _ ((List.Perm.append_left _ ((List.Perm.append_left _ ((List.Perm.append_left _ ((List.Perm.append_left _ ((List.Perm.append_left _ ((List.Perm.append_left _ (List.Perm.refl _)).trans (List.perm_append_comm_assoc _ _ _))).trans (List.perm_append_comm_assoc _ _ _))).trans (List.perm_append_comm_assoc _ _ _))).trans (List.perm_append_comm_assoc _ _ _))).trans (List.perm_append_comm_assoc _ _ _))).trans (List.perm_append_comm_assoc _ _ _))).trans (List.perm_append_comm_assoc _ _ _))).trans (List.perm_append_comm_assoc _ _ _))).trans (List.perm_append_comm_assoc _ _ _))).trans (List.perm_append_comm_assoc _ _ _))).trans (List.perm_append_comm_assoc _ _ _)).symm ?_
  exact kont rr  _ ⟨h, qp, qs, qj, ly, qh, kk, rd, pg, ss, ac, np, kc, w_now, w_past, w_pars, w_judg, w_layr, w_heap, w_kept, w_rnds, w_plnr, w_shts, wmZ, ro, hac, hnp, hkc, hpe, H_now, H_past, H_pars, H_judg, H_layr, H_heap, H_kept, H_rnds, H_plnr, H_shts, H_refZ, rfl⟩ hE
set_option maxRecDepth 100000 in
theorem my_same {X : XT} {E : EV} {ws : va_W} {lv : List (Nat × Value)} {rest : List Value} {kC nC : Nat} {hx hm : Nat} {tl : Nat} {ct : Nat → Int} {pe : Nat} {kn : Int32} {st : Nat → Nat} {sn : Nat → Nat} {sl : Nat → Nat} {scx : Nat → Nat → Int32} {tT : Nat → Option SVal} {ec : Nat → Nat} {er : Nat → Nat} {ed : Nat → Nat → Int32} {q_taped : Nat} {cr : Nat → Int} {q_people : Nat} {f_secrets : Nat → Int32} {f_lanes : Nat → Int32} {f_lengths : Nat → Int32} {f_cells : Nat → Int32} {f_tokens : Nat → Int32} {f_afters : Nat → Int32} {f_caseMany : Nat → Int32} {f_happen : Nat → Int32} {f_heard : Nat → Int32} {v0 : Int32} (C : CX X room_1 cL_law 4 RL ret E) (hW : Nat.ble (rest.map fun v => v.category).sum 8 = true) (hk : kC ≤ 600000 ∧ nC ≤ 7302250) (hS : ST E hx hm tl ct pe kn st sn sl scx tT ec er ed q_taped cr q_people f_secrets f_lanes f_lengths f_cells f_tokens f_afters f_caseMany f_happen f_heard ws) (kont : ∀ (rr : Int32) (wsZ : va_W), ST E hx hm tl ct pe kn st sn sl scx tT ec er ed q_taped cr q_people f_secrets f_lanes f_lengths f_cells f_tokens f_afters f_caseMany f_happen f_heard wsZ → (True) → WW X 4 E 1042 lv (.int rr :: rest) wsZ kC nC) : WW X 4 E 1039 lv (.int v0 :: .ref hm :: rest) ws kC nC := by
  unfold ST at hS
  refine ex8 hS ?_
  clear hS
  intro h qp qs qj ly qh kk rd hS
  refine ex8 hS ?_
  clear hS
  intro pg ss ac np kc w_now w_past w_pars hS
  refine ex8 hS ?_
  clear hS
  intro w_judg w_layr w_heap w_kept w_rnds w_plnr w_shts wm hS
  refine ex1 hS ?_
  clear hS
  intro ro hS
  refine an8 hS ?_
  clear hS
  intro hac hnp hkc hpe H_now H_past H_pars H_judg hS
  refine an7 hS ?_
  clear hS
  intro H_layr H_heap H_kept H_rnds H_plnr H_shts H_ref hS
  have we_st := hS
  clear hS
  subst we_st
  refine ww_perm (ws' := wm ++ ([(hx, .inr (11, [.ref h, .ref qp, .int (nI ac), .int (nI np), .ref qs, .ref qj, .ref ly, .ref qh, .ref kk, .int (nI kc), .ref rd, .ref pg, .int (nI pe), .int kn, .ref ss]))] ++ (w_now ++ (w_past ++ (w_pars ++ (w_judg ++ (w_layr ++ (w_heap ++ (w_kept ++ (w_rnds ++ (w_plnr ++ (w_shts ++ ro)))))))))))) ((List.Perm.append_left _ ((List.Perm.append_left _ ((List.Perm.append_left _ ((List.Perm.append_left _ ((List.Perm.append_left _ ((List.Perm.append_left _ ((List.Perm.append_left _ ((List.Perm.append_left _ ((List.Perm.append_left _ ((List.Perm.append_left _ ((List.Perm.append_left _ (List.Perm.refl _)).trans (List.perm_append_comm_assoc _ _ _))).trans (List.perm_append_comm_assoc _ _ _))).trans (List.perm_append_comm_assoc _ _ _))).trans (List.perm_append_comm_assoc _ _ _))).trans (List.perm_append_comm_assoc _ _ _))).trans (List.perm_append_comm_assoc _ _ _))).trans (List.perm_append_comm_assoc _ _ _))).trans (List.perm_append_comm_assoc _ _ _))).trans (List.perm_append_comm_assoc _ _ _))).trans (List.perm_append_comm_assoc _ _ _))).trans (List.perm_append_comm_assoc _ _ _)) ?_
  refine lm_same C hW hk H_ref (fun rr wmZ H_refZ hE => ?_)
  refine ww_perm (ws' := [(hx, .inr (11, [.ref h, .ref qp, .int (nI ac), .int (nI np), .ref qs, .ref qj, .ref ly, .ref qh, .ref kk, .int (nI kc), .ref rd, .ref pg, .int (nI pe), .int kn, .ref ss]))] ++ (w_now ++ (w_past ++ (w_pars ++ (w_judg ++ (w_layr ++ (w_heap ++ (w_kept ++ (w_rnds ++ (w_plnr ++ (w_shts ++ (wmZ ++ ro)))))))))))) ((List.Perm.append_left _ ((List.Perm.append_left _ ((List.Perm.append_left _ ((List.Perm.append_left _ ((List.Perm.append_left _ ((List.Perm.append_left _ ((List.Perm.append_left _ ((List.Perm.append_left _ ((List.Perm.append_left _ ((List.Perm.append_left _ ((List.Perm.append_left _ (List.Perm.refl _)).trans (List.perm_append_comm_assoc _ _ _))).trans (List.perm_append_comm_assoc _ _ _))).trans (List.perm_append_comm_assoc _ _ _))).trans (List.perm_append_comm_assoc _ _ _))).trans (List.perm_append_comm_assoc _ _ _))).trans (List.perm_append_comm_assoc _ _ _))).trans (List.perm_append_comm_assoc _ _ _))).trans (List.perm_append_comm_assoc _ _ _))).trans (List.perm_append_comm_assoc _ _ _))).trans (List.perm_append_comm_assoc _ _ _))).trans (List.perm_append_comm_assoc _ _ _)).symm ?_
  exact kont rr  _ ⟨h, qp, qs, qj, ly, qh, kk, rd, pg, ss, ac, np, kc, w_now, w_past, w_pars, w_judg, w_layr, w_heap, w_kept, w_rnds, w_plnr, w_shts, wmZ, ro, hac, hnp, hkc, hpe, H_now, H_past, H_pars, H_judg, H_layr, H_heap, H_kept, H_rnds, H_plnr, H_shts, H_refZ, rfl⟩ hE
set_option maxRecDepth 100000 in
theorem my_turn {X : XT} {E : EV} {ws : va_W} {lv : List (Nat × Value)} {rest : List Value} {kC nC : Nat} {hx hm : Nat} {tl : Nat} {ct : Nat → Int} {pe : Nat} {kn : Int32} {st : Nat → Nat} {sn : Nat → Nat} {sl : Nat → Nat} {scx : Nat → Nat → Int32} {tT : Nat → Option SVal} {ec : Nat → Nat} {er : Nat → Nat} {ed : Nat → Nat → Int32} {q_taped : Nat} {cr : Nat → Int} {q_people : Nat} {f_secrets : Nat → Int32} {f_lanes : Nat → Int32} {f_lengths : Nat → Int32} {f_cells : Nat → Int32} {f_tokens : Nat → Int32} {f_afters : Nat → Int32} {f_caseMany : Nat → Int32} {f_happen : Nat → Int32} {f_heard : Nat → Int32} {v0 : Int32} {v1 : Int32} (C : CX X room_1 cL_law 4 RL ret E) (hW : Nat.ble (rest.map fun v => v.category).sum 8 = true) (hk : kC ≤ 600000 ∧ nC ≤ 7302250) (hS : ST E hx hm tl ct pe kn st sn sl scx tT ec er ed q_taped cr q_people f_secrets f_lanes f_lengths f_cells f_tokens f_afters f_caseMany f_happen f_heard ws) (kont : ∀ (rr : Int32) (wsZ : va_W), ST E hx hm tl ct pe kn st sn sl scx tT ec er ed q_taped cr q_people f_secrets f_lanes f_lengths f_cells f_tokens f_afters f_caseMany f_happen f_heard wsZ → (True) → WW X 4 E 1075 lv (.int rr :: rest) wsZ kC nC) : WW X 4 E 1072 lv (.int v1 :: .int v0 :: .ref hm :: rest) ws kC nC := by
  unfold ST at hS
  refine ex8 hS ?_
  clear hS
  intro h qp qs qj ly qh kk rd hS
  refine ex8 hS ?_
  clear hS
  intro pg ss ac np kc w_now w_past w_pars hS
  refine ex8 hS ?_
  clear hS
  intro w_judg w_layr w_heap w_kept w_rnds w_plnr w_shts wm hS
  refine ex1 hS ?_
  clear hS
  intro ro hS
  refine an8 hS ?_
  clear hS
  intro hac hnp hkc hpe H_now H_past H_pars H_judg hS
  refine an7 hS ?_
  clear hS
  intro H_layr H_heap H_kept H_rnds H_plnr H_shts H_ref hS
  have we_st := hS
  clear hS
  subst we_st
  refine ww_perm (ws' := wm ++ ([(hx, .inr (11, [.ref h, .ref qp, .int (nI ac), .int (nI np), .ref qs, .ref qj, .ref ly, .ref qh, .ref kk, .int (nI kc), .ref rd, .ref pg, .int (nI pe), .int kn, .ref ss]))] ++ (w_now ++ (w_past ++ (w_pars ++ (w_judg ++ (w_layr ++ (w_heap ++ (w_kept ++ (w_rnds ++ (w_plnr ++ (w_shts ++ ro)))))))))))) ((List.Perm.append_left _ ((List.Perm.append_left _ ((List.Perm.append_left _ ((List.Perm.append_left _ ((List.Perm.append_left _ ((List.Perm.append_left _ ((List.Perm.append_left _ ((List.Perm.append_left _ ((List.Perm.append_left _ ((List.Perm.append_left _ ((List.Perm.append_left _ (List.Perm.refl _)).trans (List.perm_append_comm_assoc _ _ _))).trans (List.perm_append_comm_assoc _ _ _))).trans (List.perm_append_comm_assoc _ _ _))).trans (List.perm_append_comm_assoc _ _ _))).trans (List.perm_append_comm_assoc _ _ _))).trans (List.perm_append_comm_assoc _ _ _))).trans (List.perm_append_comm_assoc _ _ _))).trans (List.perm_append_comm_assoc _ _ _))).trans (List.perm_append_comm_assoc _ _ _))).trans (List.perm_append_comm_assoc _ _ _))).trans (List.perm_append_comm_assoc _ _ _)) ?_
  refine lm_turn C hW hk H_ref (fun rr wmZ H_refZ hE => ?_)
  refine ww_perm (ws' := [(hx, .inr (11, [.ref h, .ref qp, .int (nI ac), .int (nI np), .ref qs, .ref qj, .ref ly, .ref qh, .ref kk, .int (nI kc), .ref rd, .ref pg, .int (nI pe), .int kn, .ref ss]))] ++ (w_now ++ (w_past ++ (w_pars ++ (w_judg ++ (w_layr ++ (w_heap ++ (w_kept ++ (w_rnds ++ (w_plnr ++ (w_shts ++ (wmZ ++ ro)))))))))))) ((List.Perm.append_left _ ((List.Perm.append_left _ ((List.Perm.append_left _ ((List.Perm.append_left _ ((List.Perm.append_left _ ((List.Perm.append_left _ ((List.Perm.append_left _ ((List.Perm.append_left _ ((List.Perm.append_left _ ((List.Perm.append_left _ ((List.Perm.append_left _ (List.Perm.refl _)).trans (List.perm_append_comm_assoc _ _ _))).trans (List.perm_append_comm_assoc _ _ _))).trans (List.perm_append_comm_assoc _ _ _))).trans (List.perm_append_comm_assoc _ _ _))).trans (List.perm_append_comm_assoc _ _ _))).trans (List.perm_append_comm_assoc _ _ _))).trans (List.perm_append_comm_assoc _ _ _))).trans (List.perm_append_comm_assoc _ _ _))).trans (List.perm_append_comm_assoc _ _ _))).trans (List.perm_append_comm_assoc _ _ _))).trans (List.perm_append_comm_assoc _ _ _)).symm ?_
  exact kont rr  _ ⟨h, qp, qs, qj, ly, qh, kk, rd, pg, ss, ac, np, kc, w_now, w_past, w_pars, w_judg, w_layr, w_heap, w_kept, w_rnds, w_plnr, w_shts, wmZ, ro, hac, hnp, hkc, hpe, H_now, H_past, H_pars, H_judg, H_layr, H_heap, H_kept, H_rnds, H_plnr, H_shts, H_refZ, rfl⟩ hE
set_option maxRecDepth 100000 in
theorem my_turns {X : XT} {E : EV} {ws : va_W} {lv : List (Nat × Value)} {rest : List Value} {kC nC : Nat} {hx hm : Nat} {tl : Nat} {ct : Nat → Int} {pe : Nat} {kn : Int32} {st : Nat → Nat} {sn : Nat → Nat} {sl : Nat → Nat} {scx : Nat → Nat → Int32} {tT : Nat → Option SVal} {ec : Nat → Nat} {er : Nat → Nat} {ed : Nat → Nat → Int32} {q_taped : Nat} {cr : Nat → Int} {q_people : Nat} {f_secrets : Nat → Int32} {f_lanes : Nat → Int32} {f_lengths : Nat → Int32} {f_cells : Nat → Int32} {f_tokens : Nat → Int32} {f_afters : Nat → Int32} {f_caseMany : Nat → Int32} {f_happen : Nat → Int32} {f_heard : Nat → Int32} {v0 : Int32} {v1 : Int32} {v2 : Int32} (C : CX X room_1 cL_law 4 RL ret E) (hW : Nat.ble (rest.map fun v => v.category).sum 8 = true) (hk : kC ≤ 600000 ∧ nC ≤ 7302250) (hS : ST E hx hm tl ct pe kn st sn sl scx tT ec er ed q_taped cr q_people f_secrets f_lanes f_lengths f_cells f_tokens f_afters f_caseMany f_happen f_heard ws) (kont : ∀ (rr : Int32) (wsZ : va_W), ST E hx hm tl ct pe kn st sn sl scx tT ec er ed q_taped cr q_people f_secrets f_lanes f_lengths f_cells f_tokens f_afters f_caseMany f_happen f_heard wsZ → (True) → WW X 4 E 1118 lv (.int rr :: rest) wsZ kC nC) : WW X 4 E 1115 lv (.int v2 :: .int v1 :: .int v0 :: .ref hm :: rest) ws kC nC := by
  unfold ST at hS
  refine ex8 hS ?_
  clear hS
  intro h qp qs qj ly qh kk rd hS
  refine ex8 hS ?_
  clear hS
  intro pg ss ac np kc w_now w_past w_pars hS
  refine ex8 hS ?_
  clear hS
  intro w_judg w_layr w_heap w_kept w_rnds w_plnr w_shts wm hS
  refine ex1 hS ?_
  clear hS
  intro ro hS
  refine an8 hS ?_
  clear hS
  intro hac hnp hkc hpe H_now H_past H_pars H_judg hS
  refine an7 hS ?_
  clear hS
  intro H_layr H_heap H_kept H_rnds H_plnr H_shts H_ref hS
  have we_st := hS
  clear hS
  subst we_st
  refine ww_perm (ws' := wm ++ ([(hx, .inr (11, [.ref h, .ref qp, .int (nI ac), .int (nI np), .ref qs, .ref qj, .ref ly, .ref qh, .ref kk, .int (nI kc), .ref rd, .ref pg, .int (nI pe), .int kn, .ref ss]))] ++ (w_now ++ (w_past ++ (w_pars ++ (w_judg ++ (w_layr ++ (w_heap ++ (w_kept ++ (w_rnds ++ (w_plnr ++ (w_shts ++ ro)))))))))))) ((List.Perm.append_left _ ((List.Perm.append_left _ ((List.Perm.append_left _ ((List.Perm.append_left _ ((List.Perm.append_left _ ((List.Perm.append_left _ ((List.Perm.append_left _ ((List.Perm.append_left _ ((List.Perm.append_left _ ((List.Perm.append_left _ ((List.Perm.append_left _ (List.Perm.refl _)).trans (List.perm_append_comm_assoc _ _ _))).trans (List.perm_append_comm_assoc _ _ _))).trans (List.perm_append_comm_assoc _ _ _))).trans (List.perm_append_comm_assoc _ _ _))).trans (List.perm_append_comm_assoc _ _ _))).trans (List.perm_append_comm_assoc _ _ _))).trans (List.perm_append_comm_assoc _ _ _))).trans (List.perm_append_comm_assoc _ _ _))).trans (List.perm_append_comm_assoc _ _ _))).trans (List.perm_append_comm_assoc _ _ _))).trans (List.perm_append_comm_assoc _ _ _)) ?_
  refine lm_turns C hW hk H_ref (fun rr wmZ H_refZ hE => ?_)
  refine ww_perm (ws' := [(hx, .inr (11, [.ref h, .ref qp, .int (nI ac), .int (nI np), .ref qs, .ref qj, .ref ly, .ref qh, .ref kk, .int (nI kc), .ref rd, .ref pg, .int (nI pe), .int kn, .ref ss]))] ++ (w_now ++ (w_past ++ (w_pars ++ (w_judg ++ (w_layr ++ (w_heap ++ (w_kept ++ (w_rnds ++ (w_plnr ++ (w_shts ++ (wmZ ++ ro)))))))))))) ((List.Perm.append_left _ ((List.Perm.append_left _ ((List.Perm.append_left _ ((List.Perm.append_left _ ((List.Perm.append_left _ ((List.Perm.append_left _ ((List.Perm.append_left _ ((List.Perm.append_left _ ((List.Perm.append_left _ ((List.Perm.append_left _ ((List.Perm.append_left _ (List.Perm.refl _)).trans (List.perm_append_comm_assoc _ _ _))).trans (List.perm_append_comm_assoc _ _ _))).trans (List.perm_append_comm_assoc _ _ _))).trans (List.perm_append_comm_assoc _ _ _))).trans (List.perm_append_comm_assoc _ _ _))).trans (List.perm_append_comm_assoc _ _ _))).trans (List.perm_append_comm_assoc _ _ _))).trans (List.perm_append_comm_assoc _ _ _))).trans (List.perm_append_comm_assoc _ _ _))).trans (List.perm_append_comm_assoc _ _ _))).trans (List.perm_append_comm_assoc _ _ _)).symm ?_
  exact kont rr  _ ⟨h, qp, qs, qj, ly, qh, kk, rd, pg, ss, ac, np, kc, w_now, w_past, w_pars, w_judg, w_layr, w_heap, w_kept, w_rnds, w_plnr, w_shts, wmZ, ro, hac, hnp, hkc, hpe, H_now, H_past, H_pars, H_judg, H_layr, H_heap, H_kept, H_rnds, H_plnr, H_shts, H_refZ, rfl⟩ hE
set_option maxRecDepth 100000 in
theorem my_plan {X : XT} {E : EV} {ws : va_W} {lv : List (Nat × Value)} {rest : List Value} {kC nC : Nat} {hx hm : Nat} {tl : Nat} {ct : Nat → Int} {pe : Nat} {kn : Int32} {st : Nat → Nat} {sn : Nat → Nat} {sl : Nat → Nat} {scx : Nat → Nat → Int32} {tT : Nat → Option SVal} {ec : Nat → Nat} {er : Nat → Nat} {ed : Nat → Nat → Int32} {q_taped : Nat} {cr : Nat → Int} {q_people : Nat} {f_secrets : Nat → Int32} {f_lanes : Nat → Int32} {f_lengths : Nat → Int32} {f_cells : Nat → Int32} {f_tokens : Nat → Int32} {f_afters : Nat → Int32} {f_caseMany : Nat → Int32} {f_happen : Nat → Int32} {f_heard : Nat → Int32} {v0 : Int32} {v1 : Int32} {v2 : Int32} {v3 : Int32} (C : CX X room_1 cL_law 4 RL ret E) (hW : Nat.ble (rest.map fun v => v.category).sum 8 = true) (hk : kC ≤ 600000 ∧ nC ≤ 7302250) (hS : ST E hx hm tl ct pe kn st sn sl scx tT ec er ed q_taped cr q_people f_secrets f_lanes f_lengths f_cells f_tokens f_afters f_caseMany f_happen f_heard ws) (kont : ∀ (rr : Int32) (wsZ : va_W), ST E hx hm tl ct pe kn st sn sl scx tT ec er ed q_taped cr q_people f_secrets f_lanes f_lengths f_cells f_tokens f_afters f_caseMany f_happen f_heard wsZ → (True) → WW X 4 E 1171 lv (.int rr :: rest) wsZ kC nC) : WW X 4 E 1168 lv (.int v3 :: .int v2 :: .int v1 :: .int v0 :: .ref hm :: rest) ws kC nC := by
  unfold ST at hS
  refine ex8 hS ?_
  clear hS
  intro h qp qs qj ly qh kk rd hS
  refine ex8 hS ?_
  clear hS
  intro pg ss ac np kc w_now w_past w_pars hS
  refine ex8 hS ?_
  clear hS
  intro w_judg w_layr w_heap w_kept w_rnds w_plnr w_shts wm hS
  refine ex1 hS ?_
  clear hS
  intro ro hS
  refine an8 hS ?_
  clear hS
  intro hac hnp hkc hpe H_now H_past H_pars H_judg hS
  refine an7 hS ?_
  clear hS
  intro H_layr H_heap H_kept H_rnds H_plnr H_shts H_ref hS
  have we_st := hS
  clear hS
  subst we_st
  refine ww_perm (ws' := wm ++ ([(hx, .inr (11, [.ref h, .ref qp, .int (nI ac), .int (nI np), .ref qs, .ref qj, .ref ly, .ref qh, .ref kk, .int (nI kc), .ref rd, .ref pg, .int (nI pe), .int kn, .ref ss]))] ++ (w_now ++ (w_past ++ (w_pars ++ (w_judg ++ (w_layr ++ (w_heap ++ (w_kept ++ (w_rnds ++ (w_plnr ++ (w_shts ++ ro)))))))))))) ((List.Perm.append_left _ ((List.Perm.append_left _ ((List.Perm.append_left _ ((List.Perm.append_left _ ((List.Perm.append_left _ ((List.Perm.append_left _ ((List.Perm.append_left _ ((List.Perm.append_left _ ((List.Perm.append_left _ ((List.Perm.append_left _ ((List.Perm.append_left _ (List.Perm.refl _)).trans (List.perm_append_comm_assoc _ _ _))).trans (List.perm_append_comm_assoc _ _ _))).trans (List.perm_append_comm_assoc _ _ _))).trans (List.perm_append_comm_assoc _ _ _))).trans (List.perm_append_comm_assoc _ _ _))).trans (List.perm_append_comm_assoc _ _ _))).trans (List.perm_append_comm_assoc _ _ _))).trans (List.perm_append_comm_assoc _ _ _))).trans (List.perm_append_comm_assoc _ _ _))).trans (List.perm_append_comm_assoc _ _ _))).trans (List.perm_append_comm_assoc _ _ _)) ?_
  refine lm_plan C hW hk H_ref (fun rr wmZ H_refZ hE => ?_)
  refine ww_perm (ws' := [(hx, .inr (11, [.ref h, .ref qp, .int (nI ac), .int (nI np), .ref qs, .ref qj, .ref ly, .ref qh, .ref kk, .int (nI kc), .ref rd, .ref pg, .int (nI pe), .int kn, .ref ss]))] ++ (w_now ++ (w_past ++ (w_pars ++ (w_judg ++ (w_layr ++ (w_heap ++ (w_kept ++ (w_rnds ++ (w_plnr ++ (w_shts ++ (wmZ ++ ro)))))))))))) ((List.Perm.append_left _ ((List.Perm.append_left _ ((List.Perm.append_left _ ((List.Perm.append_left _ ((List.Perm.append_left _ ((List.Perm.append_left _ ((List.Perm.append_left _ ((List.Perm.append_left _ ((List.Perm.append_left _ ((List.Perm.append_left _ ((List.Perm.append_left _ (List.Perm.refl _)).trans (List.perm_append_comm_assoc _ _ _))).trans (List.perm_append_comm_assoc _ _ _))).trans (List.perm_append_comm_assoc _ _ _))).trans (List.perm_append_comm_assoc _ _ _))).trans (List.perm_append_comm_assoc _ _ _))).trans (List.perm_append_comm_assoc _ _ _))).trans (List.perm_append_comm_assoc _ _ _))).trans (List.perm_append_comm_assoc _ _ _))).trans (List.perm_append_comm_assoc _ _ _))).trans (List.perm_append_comm_assoc _ _ _))).trans (List.perm_append_comm_assoc _ _ _)).symm ?_
  exact kont rr  _ ⟨h, qp, qs, qj, ly, qh, kk, rd, pg, ss, ac, np, kc, w_now, w_past, w_pars, w_judg, w_layr, w_heap, w_kept, w_rnds, w_plnr, w_shts, wmZ, ro, hac, hnp, hkc, hpe, H_now, H_past, H_pars, H_judg, H_layr, H_heap, H_kept, H_rnds, H_plnr, H_shts, H_refZ, rfl⟩ hE
set_option maxRecDepth 100000 in
theorem my_people {X : XT} {E : EV} {ws : va_W} {lv : List (Nat × Value)} {rest : List Value} {kC nC : Nat} {hx hm : Nat} {tl : Nat} {ct : Nat → Int} {pe : Nat} {kn : Int32} {st : Nat → Nat} {sn : Nat → Nat} {sl : Nat → Nat} {scx : Nat → Nat → Int32} {tT : Nat → Option SVal} {ec : Nat → Nat} {er : Nat → Nat} {ed : Nat → Nat → Int32} {q_taped : Nat} {cr : Nat → Int} {q_people : Nat} {f_secrets : Nat → Int32} {f_lanes : Nat → Int32} {f_lengths : Nat → Int32} {f_cells : Nat → Int32} {f_tokens : Nat → Int32} {f_afters : Nat → Int32} {f_caseMany : Nat → Int32} {f_happen : Nat → Int32} {f_heard : Nat → Int32} {v0 : Int32} (C : CX X room_1 cL_law 4 RL ret E) (hW : Nat.ble (rest.map fun v => v.category).sum 8 = true) (hk : kC ≤ 600000 ∧ nC ≤ 7302250) (hS : ST E hx hm tl ct pe kn st sn sl scx tT ec er ed q_taped cr q_people f_secrets f_lanes f_lengths f_cells f_tokens f_afters f_caseMany f_happen f_heard ws) (kont : ∀ (rr : Int32) (q_peopleZ : Nat) (f_secretsZ : Nat → Int32) (wsZ : va_W), ST E hx hm tl ct pe kn st sn sl scx tT ec er ed q_taped cr q_peopleZ f_secretsZ f_lanes f_lengths f_cells f_tokens f_afters f_caseMany f_happen f_heard wsZ → (((v0.toInt < 2 ∨ 4 < v0.toInt) ∧ q_peopleZ = q_people ∧ f_secretsZ = f_secrets ∧ rr = -1) ∨ (v0.toInt = 2 ∧ q_peopleZ = 2 ∧ (∀ i, i < 2 → f_secretsZ i = nI (2 ^ i)) ∧ rr = 2) ∨ (v0.toInt = 3 ∧ q_peopleZ = 3 ∧ (∀ i, i < 3 → f_secretsZ i = nI (2 ^ i)) ∧ rr = 3) ∨ (v0.toInt = 4 ∧ q_peopleZ = 4 ∧ (∀ i, i < 4 → f_secretsZ i = nI (2 ^ i)) ∧ rr = 4)) → WW X 4 E 1194 lv (.int rr :: rest) wsZ kC nC) : WW X 4 E 1191 lv (.int v0 :: .ref hm :: rest) ws kC nC := by
  unfold ST at hS
  refine ex8 hS ?_
  clear hS
  intro h qp qs qj ly qh kk rd hS
  refine ex8 hS ?_
  clear hS
  intro pg ss ac np kc w_now w_past w_pars hS
  refine ex8 hS ?_
  clear hS
  intro w_judg w_layr w_heap w_kept w_rnds w_plnr w_shts wm hS
  refine ex1 hS ?_
  clear hS
  intro ro hS
  refine an8 hS ?_
  clear hS
  intro hac hnp hkc hpe H_now H_past H_pars H_judg hS
  refine an7 hS ?_
  clear hS
  intro H_layr H_heap H_kept H_rnds H_plnr H_shts H_ref hS
  have we_st := hS
  clear hS
  subst we_st
  refine ww_perm (ws' := wm ++ ([(hx, .inr (11, [.ref h, .ref qp, .int (nI ac), .int (nI np), .ref qs, .ref qj, .ref ly, .ref qh, .ref kk, .int (nI kc), .ref rd, .ref pg, .int (nI pe), .int kn, .ref ss]))] ++ (w_now ++ (w_past ++ (w_pars ++ (w_judg ++ (w_layr ++ (w_heap ++ (w_kept ++ (w_rnds ++ (w_plnr ++ (w_shts ++ ro)))))))))))) ((List.Perm.append_left _ ((List.Perm.append_left _ ((List.Perm.append_left _ ((List.Perm.append_left _ ((List.Perm.append_left _ ((List.Perm.append_left _ ((List.Perm.append_left _ ((List.Perm.append_left _ ((List.Perm.append_left _ ((List.Perm.append_left _ ((List.Perm.append_left _ (List.Perm.refl _)).trans (List.perm_append_comm_assoc _ _ _))).trans (List.perm_append_comm_assoc _ _ _))).trans (List.perm_append_comm_assoc _ _ _))).trans (List.perm_append_comm_assoc _ _ _))).trans (List.perm_append_comm_assoc _ _ _))).trans (List.perm_append_comm_assoc _ _ _))).trans (List.perm_append_comm_assoc _ _ _))).trans (List.perm_append_comm_assoc _ _ _))).trans (List.perm_append_comm_assoc _ _ _))).trans (List.perm_append_comm_assoc _ _ _))).trans (List.perm_append_comm_assoc _ _ _)) ?_
  refine lm_people C hW hk H_ref (fun rr q_peopleZ f_secretsZ wmZ H_refZ hE => ?_)
  refine ww_perm (ws' := [(hx, .inr (11, [.ref h, .ref qp, .int (nI ac), .int (nI np), .ref qs, .ref qj, .ref ly, .ref qh, .ref kk, .int (nI kc), .ref rd, .ref pg, .int (nI pe), .int kn, .ref ss]))] ++ (w_now ++ (w_past ++ (w_pars ++ (w_judg ++ (w_layr ++ (w_heap ++ (w_kept ++ (w_rnds ++ (w_plnr ++ (w_shts ++ (wmZ ++ ro)))))))))))) ((List.Perm.append_left _ ((List.Perm.append_left _ ((List.Perm.append_left _ ((List.Perm.append_left _ ((List.Perm.append_left _ ((List.Perm.append_left _ ((List.Perm.append_left _ ((List.Perm.append_left _ ((List.Perm.append_left _ ((List.Perm.append_left _ ((List.Perm.append_left _ (List.Perm.refl _)).trans (List.perm_append_comm_assoc _ _ _))).trans (List.perm_append_comm_assoc _ _ _))).trans (List.perm_append_comm_assoc _ _ _))).trans (List.perm_append_comm_assoc _ _ _))).trans (List.perm_append_comm_assoc _ _ _))).trans (List.perm_append_comm_assoc _ _ _))).trans (List.perm_append_comm_assoc _ _ _))).trans (List.perm_append_comm_assoc _ _ _))).trans (List.perm_append_comm_assoc _ _ _))).trans (List.perm_append_comm_assoc _ _ _))).trans (List.perm_append_comm_assoc _ _ _)).symm ?_
  exact kont rr q_peopleZ f_secretsZ _ ⟨h, qp, qs, qj, ly, qh, kk, rd, pg, ss, ac, np, kc, w_now, w_past, w_pars, w_judg, w_layr, w_heap, w_kept, w_rnds, w_plnr, w_shts, wmZ, ro, hac, hnp, hkc, hpe, H_now, H_past, H_pars, H_judg, H_layr, H_heap, H_kept, H_rnds, H_plnr, H_shts, H_refZ, rfl⟩ hE
set_option maxRecDepth 100000 in
theorem my_call {X : XT} {E : EV} {ws : va_W} {lv : List (Nat × Value)} {rest : List Value} {kC nC : Nat} {hx hm : Nat} {tl : Nat} {ct : Nat → Int} {pe : Nat} {kn : Int32} {st : Nat → Nat} {sn : Nat → Nat} {sl : Nat → Nat} {scx : Nat → Nat → Int32} {tT : Nat → Option SVal} {ec : Nat → Nat} {er : Nat → Nat} {ed : Nat → Nat → Int32} {q_taped : Nat} {cr : Nat → Int} {q_people : Nat} {f_secrets : Nat → Int32} {f_lanes : Nat → Int32} {f_lengths : Nat → Int32} {f_cells : Nat → Int32} {f_tokens : Nat → Int32} {f_afters : Nat → Int32} {f_caseMany : Nat → Int32} {f_happen : Nat → Int32} {f_heard : Nat → Int32} {v0 : Int32} {v1 : Int32} (C : CX X room_1 cL_law 4 RL ret E) (hW : Nat.ble (rest.map fun v => v.category).sum 8 = true) (hk : kC ≤ 600000 ∧ nC ≤ 7302250) (hS : ST E hx hm tl ct pe kn st sn sl scx tT ec er ed q_taped cr q_people f_secrets f_lanes f_lengths f_cells f_tokens f_afters f_caseMany f_happen f_heard ws) (kont : ∀ (rr : Int32) (f_secretsZ : Nat → Int32) (wsZ : va_W), ST E hx hm tl ct pe kn st sn sl scx tT ec er ed q_taped cr q_people f_secretsZ f_lanes f_lengths f_cells f_tokens f_afters f_caseMany f_happen f_heard wsZ → (((v0.toInt < 0 ∨ (q_people : Int) ≤ v0.toInt ∨ v1.toInt < 0 ∨ (q_people : Int) ≤ v1.toInt ∨ v0.toInt = v1.toInt) ∧ f_secretsZ = f_secrets ∧ rr = -1) ∨ ∃ i j : Nat, v0 = nI i ∧ v1 = nI j ∧ i < q_people ∧ j < q_people ∧ i ≠ j ∧ upd (upd f_secrets i (f_secrets i ||| f_secrets j)) j (f_secrets i ||| f_secrets j) = f_secretsZ ∧ rr = nI (cb (bt (f_secrets i ||| f_secrets j)) 24)) → WW X 4 E 1227 lv (.int rr :: rest) wsZ kC nC) : WW X 4 E 1224 lv (.int v1 :: .int v0 :: .ref hm :: rest) ws kC nC := by
  unfold ST at hS
  refine ex8 hS ?_
  clear hS
  intro h qp qs qj ly qh kk rd hS
  refine ex8 hS ?_
  clear hS
  intro pg ss ac np kc w_now w_past w_pars hS
  refine ex8 hS ?_
  clear hS
  intro w_judg w_layr w_heap w_kept w_rnds w_plnr w_shts wm hS
  refine ex1 hS ?_
  clear hS
  intro ro hS
  refine an8 hS ?_
  clear hS
  intro hac hnp hkc hpe H_now H_past H_pars H_judg hS
  refine an7 hS ?_
  clear hS
  intro H_layr H_heap H_kept H_rnds H_plnr H_shts H_ref hS
  have we_st := hS
  clear hS
  subst we_st
  refine ww_perm (ws' := wm ++ ([(hx, .inr (11, [.ref h, .ref qp, .int (nI ac), .int (nI np), .ref qs, .ref qj, .ref ly, .ref qh, .ref kk, .int (nI kc), .ref rd, .ref pg, .int (nI pe), .int kn, .ref ss]))] ++ (w_now ++ (w_past ++ (w_pars ++ (w_judg ++ (w_layr ++ (w_heap ++ (w_kept ++ (w_rnds ++ (w_plnr ++ (w_shts ++ ro)))))))))))) ((List.Perm.append_left _ ((List.Perm.append_left _ ((List.Perm.append_left _ ((List.Perm.append_left _ ((List.Perm.append_left _ ((List.Perm.append_left _ ((List.Perm.append_left _ ((List.Perm.append_left _ ((List.Perm.append_left _ ((List.Perm.append_left _ ((List.Perm.append_left _ (List.Perm.refl _)).trans (List.perm_append_comm_assoc _ _ _))).trans (List.perm_append_comm_assoc _ _ _))).trans (List.perm_append_comm_assoc _ _ _))).trans (List.perm_append_comm_assoc _ _ _))).trans (List.perm_append_comm_assoc _ _ _))).trans (List.perm_append_comm_assoc _ _ _))).trans (List.perm_append_comm_assoc _ _ _))).trans (List.perm_append_comm_assoc _ _ _))).trans (List.perm_append_comm_assoc _ _ _))).trans (List.perm_append_comm_assoc _ _ _))).trans (List.perm_append_comm_assoc _ _ _)) ?_
  refine lm_call C hW hk H_ref (fun rr f_secretsZ wmZ H_refZ hE => ?_)
  refine ww_perm (ws' := [(hx, .inr (11, [.ref h, .ref qp, .int (nI ac), .int (nI np), .ref qs, .ref qj, .ref ly, .ref qh, .ref kk, .int (nI kc), .ref rd, .ref pg, .int (nI pe), .int kn, .ref ss]))] ++ (w_now ++ (w_past ++ (w_pars ++ (w_judg ++ (w_layr ++ (w_heap ++ (w_kept ++ (w_rnds ++ (w_plnr ++ (w_shts ++ (wmZ ++ ro)))))))))))) ((List.Perm.append_left _ ((List.Perm.append_left _ ((List.Perm.append_left _ ((List.Perm.append_left _ ((List.Perm.append_left _ ((List.Perm.append_left _ ((List.Perm.append_left _ ((List.Perm.append_left _ ((List.Perm.append_left _ ((List.Perm.append_left _ ((List.Perm.append_left _ (List.Perm.refl _)).trans (List.perm_append_comm_assoc _ _ _))).trans (List.perm_append_comm_assoc _ _ _))).trans (List.perm_append_comm_assoc _ _ _))).trans (List.perm_append_comm_assoc _ _ _))).trans (List.perm_append_comm_assoc _ _ _))).trans (List.perm_append_comm_assoc _ _ _))).trans (List.perm_append_comm_assoc _ _ _))).trans (List.perm_append_comm_assoc _ _ _))).trans (List.perm_append_comm_assoc _ _ _))).trans (List.perm_append_comm_assoc _ _ _))).trans (List.perm_append_comm_assoc _ _ _)).symm ?_
  exact kont rr f_secretsZ _ ⟨h, qp, qs, qj, ly, qh, kk, rd, pg, ss, ac, np, kc, w_now, w_past, w_pars, w_judg, w_layr, w_heap, w_kept, w_rnds, w_plnr, w_shts, wmZ, ro, hac, hnp, hkc, hpe, H_now, H_past, H_pars, H_judg, H_layr, H_heap, H_kept, H_rnds, H_plnr, H_shts, H_refZ, rfl⟩ hE
set_option maxRecDepth 100000 in
theorem my_secrets {X : XT} {E : EV} {ws : va_W} {lv : List (Nat × Value)} {rest : List Value} {kC nC : Nat} {hx hm : Nat} {tl : Nat} {ct : Nat → Int} {pe : Nat} {kn : Int32} {st : Nat → Nat} {sn : Nat → Nat} {sl : Nat → Nat} {scx : Nat → Nat → Int32} {tT : Nat → Option SVal} {ec : Nat → Nat} {er : Nat → Nat} {ed : Nat → Nat → Int32} {q_taped : Nat} {cr : Nat → Int} {q_people : Nat} {f_secrets : Nat → Int32} {f_lanes : Nat → Int32} {f_lengths : Nat → Int32} {f_cells : Nat → Int32} {f_tokens : Nat → Int32} {f_afters : Nat → Int32} {f_caseMany : Nat → Int32} {f_happen : Nat → Int32} {f_heard : Nat → Int32} {v0 : Int32} (C : CX X room_1 cL_law 4 RL ret E) (hW : Nat.ble (rest.map fun v => v.category).sum 8 = true) (hk : kC ≤ 600000 ∧ nC ≤ 7302250) (hS : ST E hx hm tl ct pe kn st sn sl scx tT ec er ed q_taped cr q_people f_secrets f_lanes f_lengths f_cells f_tokens f_afters f_caseMany f_happen f_heard ws) (kont : ∀ (rr : Int32) (wsZ : va_W), ST E hx hm tl ct pe kn st sn sl scx tT ec er ed q_taped cr q_people f_secrets f_lanes f_lengths f_cells f_tokens f_afters f_caseMany f_happen f_heard wsZ → (((v0.toInt < 0 ∨ (q_people : Int) ≤ v0.toInt) ∧ rr = -1) ∨ ∃ i : Nat, v0 = nI i ∧ i < q_people ∧ rr = f_secrets i) → WW X 4 E 1250 lv (.int rr :: rest) wsZ kC nC) : WW X 4 E 1247 lv (.int v0 :: .ref hm :: rest) ws kC nC := by
  unfold ST at hS
  refine ex8 hS ?_
  clear hS
  intro h qp qs qj ly qh kk rd hS
  refine ex8 hS ?_
  clear hS
  intro pg ss ac np kc w_now w_past w_pars hS
  refine ex8 hS ?_
  clear hS
  intro w_judg w_layr w_heap w_kept w_rnds w_plnr w_shts wm hS
  refine ex1 hS ?_
  clear hS
  intro ro hS
  refine an8 hS ?_
  clear hS
  intro hac hnp hkc hpe H_now H_past H_pars H_judg hS
  refine an7 hS ?_
  clear hS
  intro H_layr H_heap H_kept H_rnds H_plnr H_shts H_ref hS
  have we_st := hS
  clear hS
  subst we_st
  refine ww_perm (ws' := wm ++ ([(hx, .inr (11, [.ref h, .ref qp, .int (nI ac), .int (nI np), .ref qs, .ref qj, .ref ly, .ref qh, .ref kk, .int (nI kc), .ref rd, .ref pg, .int (nI pe), .int kn, .ref ss]))] ++ (w_now ++ (w_past ++ (w_pars ++ (w_judg ++ (w_layr ++ (w_heap ++ (w_kept ++ (w_rnds ++ (w_plnr ++ (w_shts ++ ro)))))))))))) ((List.Perm.append_left _ ((List.Perm.append_left _ ((List.Perm.append_left _ ((List.Perm.append_left _ ((List.Perm.append_left _ ((List.Perm.append_left _ ((List.Perm.append_left _ ((List.Perm.append_left _ ((List.Perm.append_left _ ((List.Perm.append_left _ ((List.Perm.append_left _ (List.Perm.refl _)).trans (List.perm_append_comm_assoc _ _ _))).trans (List.perm_append_comm_assoc _ _ _))).trans (List.perm_append_comm_assoc _ _ _))).trans (List.perm_append_comm_assoc _ _ _))).trans (List.perm_append_comm_assoc _ _ _))).trans (List.perm_append_comm_assoc _ _ _))).trans (List.perm_append_comm_assoc _ _ _))).trans (List.perm_append_comm_assoc _ _ _))).trans (List.perm_append_comm_assoc _ _ _))).trans (List.perm_append_comm_assoc _ _ _))).trans (List.perm_append_comm_assoc _ _ _)) ?_
  refine lm_secrets C hW hk H_ref (fun rr wmZ H_refZ hE => ?_)
  refine ww_perm (ws' := [(hx, .inr (11, [.ref h, .ref qp, .int (nI ac), .int (nI np), .ref qs, .ref qj, .ref ly, .ref qh, .ref kk, .int (nI kc), .ref rd, .ref pg, .int (nI pe), .int kn, .ref ss]))] ++ (w_now ++ (w_past ++ (w_pars ++ (w_judg ++ (w_layr ++ (w_heap ++ (w_kept ++ (w_rnds ++ (w_plnr ++ (w_shts ++ (wmZ ++ ro)))))))))))) ((List.Perm.append_left _ ((List.Perm.append_left _ ((List.Perm.append_left _ ((List.Perm.append_left _ ((List.Perm.append_left _ ((List.Perm.append_left _ ((List.Perm.append_left _ ((List.Perm.append_left _ ((List.Perm.append_left _ ((List.Perm.append_left _ ((List.Perm.append_left _ (List.Perm.refl _)).trans (List.perm_append_comm_assoc _ _ _))).trans (List.perm_append_comm_assoc _ _ _))).trans (List.perm_append_comm_assoc _ _ _))).trans (List.perm_append_comm_assoc _ _ _))).trans (List.perm_append_comm_assoc _ _ _))).trans (List.perm_append_comm_assoc _ _ _))).trans (List.perm_append_comm_assoc _ _ _))).trans (List.perm_append_comm_assoc _ _ _))).trans (List.perm_append_comm_assoc _ _ _))).trans (List.perm_append_comm_assoc _ _ _))).trans (List.perm_append_comm_assoc _ _ _)).symm ?_
  exact kont rr  _ ⟨h, qp, qs, qj, ly, qh, kk, rd, pg, ss, ac, np, kc, w_now, w_past, w_pars, w_judg, w_layr, w_heap, w_kept, w_rnds, w_plnr, w_shts, wmZ, ro, hac, hnp, hkc, hpe, H_now, H_past, H_pars, H_judg, H_layr, H_heap, H_kept, H_rnds, H_plnr, H_shts, H_refZ, rfl⟩ hE
set_option maxRecDepth 100000 in
theorem my_fewest {X : XT} {E : EV} {ws : va_W} {lv : List (Nat × Value)} {rest : List Value} {kC nC : Nat} {hx hm : Nat} {tl : Nat} {ct : Nat → Int} {pe : Nat} {kn : Int32} {st : Nat → Nat} {sn : Nat → Nat} {sl : Nat → Nat} {scx : Nat → Nat → Int32} {tT : Nat → Option SVal} {ec : Nat → Nat} {er : Nat → Nat} {ed : Nat → Nat → Int32} {q_taped : Nat} {cr : Nat → Int} {q_people : Nat} {f_secrets : Nat → Int32} {f_lanes : Nat → Int32} {f_lengths : Nat → Int32} {f_cells : Nat → Int32} {f_tokens : Nat → Int32} {f_afters : Nat → Int32} {f_caseMany : Nat → Int32} {f_happen : Nat → Int32} {f_heard : Nat → Int32} {v0 : Int32} (C : CX X room_1 cL_law 4 RL ret E) (hW : Nat.ble (rest.map fun v => v.category).sum 8 = true) (hk : kC ≤ 600000 ∧ nC ≤ 7302250) (hS : ST E hx hm tl ct pe kn st sn sl scx tT ec er ed q_taped cr q_people f_secrets f_lanes f_lengths f_cells f_tokens f_afters f_caseMany f_happen f_heard ws) (kont : ∀ (rr : Int32) (wsZ : va_W), ST E hx hm tl ct pe kn st sn sl scx tT ec er ed q_taped cr q_people f_secrets f_lanes f_lengths f_cells f_tokens f_afters f_caseMany f_happen f_heard wsZ → (True) → WW X 4 E 1273 lv (.int rr :: rest) wsZ kC nC) : WW X 4 E 1270 lv (.int v0 :: .ref hm :: rest) ws kC nC := by
  unfold ST at hS
  refine ex8 hS ?_
  clear hS
  intro h qp qs qj ly qh kk rd hS
  refine ex8 hS ?_
  clear hS
  intro pg ss ac np kc w_now w_past w_pars hS
  refine ex8 hS ?_
  clear hS
  intro w_judg w_layr w_heap w_kept w_rnds w_plnr w_shts wm hS
  refine ex1 hS ?_
  clear hS
  intro ro hS
  refine an8 hS ?_
  clear hS
  intro hac hnp hkc hpe H_now H_past H_pars H_judg hS
  refine an7 hS ?_
  clear hS
  intro H_layr H_heap H_kept H_rnds H_plnr H_shts H_ref hS
  have we_st := hS
  clear hS
  subst we_st
  refine ww_perm (ws' := wm ++ ([(hx, .inr (11, [.ref h, .ref qp, .int (nI ac), .int (nI np), .ref qs, .ref qj, .ref ly, .ref qh, .ref kk, .int (nI kc), .ref rd, .ref pg, .int (nI pe), .int kn, .ref ss]))] ++ (w_now ++ (w_past ++ (w_pars ++ (w_judg ++ (w_layr ++ (w_heap ++ (w_kept ++ (w_rnds ++ (w_plnr ++ (w_shts ++ ro)))))))))))) ((List.Perm.append_left _ ((List.Perm.append_left _ ((List.Perm.append_left _ ((List.Perm.append_left _ ((List.Perm.append_left _ ((List.Perm.append_left _ ((List.Perm.append_left _ ((List.Perm.append_left _ ((List.Perm.append_left _ ((List.Perm.append_left _ ((List.Perm.append_left _ (List.Perm.refl _)).trans (List.perm_append_comm_assoc _ _ _))).trans (List.perm_append_comm_assoc _ _ _))).trans (List.perm_append_comm_assoc _ _ _))).trans (List.perm_append_comm_assoc _ _ _))).trans (List.perm_append_comm_assoc _ _ _))).trans (List.perm_append_comm_assoc _ _ _))).trans (List.perm_append_comm_assoc _ _ _))).trans (List.perm_append_comm_assoc _ _ _))).trans (List.perm_append_comm_assoc _ _ _))).trans (List.perm_append_comm_assoc _ _ _))).trans (List.perm_append_comm_assoc _ _ _)) ?_
  refine lm_fewest C hW hk H_ref (fun rr wmZ H_refZ hE => ?_)
  refine ww_perm (ws' := [(hx, .inr (11, [.ref h, .ref qp, .int (nI ac), .int (nI np), .ref qs, .ref qj, .ref ly, .ref qh, .ref kk, .int (nI kc), .ref rd, .ref pg, .int (nI pe), .int kn, .ref ss]))] ++ (w_now ++ (w_past ++ (w_pars ++ (w_judg ++ (w_layr ++ (w_heap ++ (w_kept ++ (w_rnds ++ (w_plnr ++ (w_shts ++ (wmZ ++ ro)))))))))))) ((List.Perm.append_left _ ((List.Perm.append_left _ ((List.Perm.append_left _ ((List.Perm.append_left _ ((List.Perm.append_left _ ((List.Perm.append_left _ ((List.Perm.append_left _ ((List.Perm.append_left _ ((List.Perm.append_left _ ((List.Perm.append_left _ ((List.Perm.append_left _ (List.Perm.refl _)).trans (List.perm_append_comm_assoc _ _ _))).trans (List.perm_append_comm_assoc _ _ _))).trans (List.perm_append_comm_assoc _ _ _))).trans (List.perm_append_comm_assoc _ _ _))).trans (List.perm_append_comm_assoc _ _ _))).trans (List.perm_append_comm_assoc _ _ _))).trans (List.perm_append_comm_assoc _ _ _))).trans (List.perm_append_comm_assoc _ _ _))).trans (List.perm_append_comm_assoc _ _ _))).trans (List.perm_append_comm_assoc _ _ _))).trans (List.perm_append_comm_assoc _ _ _)).symm ?_
  exact kont rr  _ ⟨h, qp, qs, qj, ly, qh, kk, rd, pg, ss, ac, np, kc, w_now, w_past, w_pars, w_judg, w_layr, w_heap, w_kept, w_rnds, w_plnr, w_shts, wmZ, ro, hac, hnp, hkc, hpe, H_now, H_past, H_pars, H_judg, H_layr, H_heap, H_kept, H_rnds, H_plnr, H_shts, H_refZ, rfl⟩ hE
set_option maxRecDepth 100000 in
theorem my_sheet {X : XT} {E : EV} {ws : va_W} {lv : List (Nat × Value)} {rest : List Value} {kC nC : Nat} {hx hm : Nat} {tl : Nat} {ct : Nat → Int} {pe : Nat} {kn : Int32} {st : Nat → Nat} {sn : Nat → Nat} {sl : Nat → Nat} {scx : Nat → Nat → Int32} {tT : Nat → Option SVal} {ec : Nat → Nat} {er : Nat → Nat} {ed : Nat → Nat → Int32} {q_taped : Nat} {cr : Nat → Int} {q_people : Nat} {f_secrets : Nat → Int32} {f_lanes : Nat → Int32} {f_lengths : Nat → Int32} {f_cells : Nat → Int32} {f_tokens : Nat → Int32} {f_afters : Nat → Int32} {f_caseMany : Nat → Int32} {f_happen : Nat → Int32} {f_heard : Nat → Int32} {v0 : Int32} {v1 : Int32} {v2 : Int32} (C : CX X room_1 cL_law 4 RL ret E) (hW : Nat.ble (rest.map fun v => v.category).sum 8 = true) (hk : kC ≤ 600000 ∧ nC ≤ 7302250) (hS : ST E hx hm tl ct pe kn st sn sl scx tT ec er ed q_taped cr q_people f_secrets f_lanes f_lengths f_cells f_tokens f_afters f_caseMany f_happen f_heard ws) (kont : ∀ (rr : Int32) (f_lanesZ : Nat → Int32) (f_lengthsZ : Nat → Int32) (f_cellsZ : Nat → Int32) (wsZ : va_W), ST E hx hm tl ct pe kn st sn sl scx tT ec er ed q_taped cr q_people f_secrets f_lanesZ f_lengthsZ f_cellsZ f_tokens f_afters f_caseMany f_happen f_heard wsZ → (((v0.toInt < 0 ∨ 3 < v0.toInt ∨ v1.toInt < 0 ∨ 2 < v1.toInt ∨ 48 < v2.toInt) ∧ rr = -1 ∧ f_lanesZ = f_lanes ∧ f_lengthsZ = f_lengths ∧ f_cellsZ = f_cells) ∨ ((0 ≤ v0.toInt ∧ v0.toInt ≤ 3 ∧ 0 ≤ v1.toInt ∧ v1.toInt ≤ 2 ∧ v2.toInt < 0) ∧ rr = -14 ∧ f_lanesZ = f_lanes ∧ f_lengthsZ = f_lengths ∧ f_cellsZ = f_cells) ∨ ∃ k_ l_ n_ : Nat, v0 = nI k_ ∧ v1 = nI l_ ∧ v2 = nI n_ ∧ k_ ≤ 3 ∧ l_ ≤ 2 ∧ n_ ≤ 48 ∧ upd f_lanes k_ (nI l_) = f_lanesZ ∧ upd f_lengths k_ (nI n_) = f_lengthsZ ∧ CZR k_ 48 f_cells f_cellsZ ∧ rr = 1) → WW X 4 E 1316 lv (.int rr :: rest) wsZ kC nC) : WW X 4 E 1313 lv (.int v2 :: .int v1 :: .int v0 :: .ref hm :: rest) ws kC nC := by
  unfold ST at hS
  refine ex8 hS ?_
  clear hS
  intro h qp qs qj ly qh kk rd hS
  refine ex8 hS ?_
  clear hS
  intro pg ss ac np kc w_now w_past w_pars hS
  refine ex8 hS ?_
  clear hS
  intro w_judg w_layr w_heap w_kept w_rnds w_plnr w_shts wm hS
  refine ex1 hS ?_
  clear hS
  intro ro hS
  refine an8 hS ?_
  clear hS
  intro hac hnp hkc hpe H_now H_past H_pars H_judg hS
  refine an7 hS ?_
  clear hS
  intro H_layr H_heap H_kept H_rnds H_plnr H_shts H_ref hS
  have we_st := hS
  clear hS
  subst we_st
  refine ww_perm (ws' := wm ++ ([(hx, .inr (11, [.ref h, .ref qp, .int (nI ac), .int (nI np), .ref qs, .ref qj, .ref ly, .ref qh, .ref kk, .int (nI kc), .ref rd, .ref pg, .int (nI pe), .int kn, .ref ss]))] ++ (w_now ++ (w_past ++ (w_pars ++ (w_judg ++ (w_layr ++ (w_heap ++ (w_kept ++ (w_rnds ++ (w_plnr ++ (w_shts ++ ro)))))))))))) ((List.Perm.append_left _ ((List.Perm.append_left _ ((List.Perm.append_left _ ((List.Perm.append_left _ ((List.Perm.append_left _ ((List.Perm.append_left _ ((List.Perm.append_left _ ((List.Perm.append_left _ ((List.Perm.append_left _ ((List.Perm.append_left _ ((List.Perm.append_left _ (List.Perm.refl _)).trans (List.perm_append_comm_assoc _ _ _))).trans (List.perm_append_comm_assoc _ _ _))).trans (List.perm_append_comm_assoc _ _ _))).trans (List.perm_append_comm_assoc _ _ _))).trans (List.perm_append_comm_assoc _ _ _))).trans (List.perm_append_comm_assoc _ _ _))).trans (List.perm_append_comm_assoc _ _ _))).trans (List.perm_append_comm_assoc _ _ _))).trans (List.perm_append_comm_assoc _ _ _))).trans (List.perm_append_comm_assoc _ _ _))).trans (List.perm_append_comm_assoc _ _ _)) ?_
  refine lm_sheet C hW hk H_ref (fun rr f_lanesZ f_lengthsZ f_cellsZ wmZ H_refZ hE => ?_)
  refine ww_perm (ws' := [(hx, .inr (11, [.ref h, .ref qp, .int (nI ac), .int (nI np), .ref qs, .ref qj, .ref ly, .ref qh, .ref kk, .int (nI kc), .ref rd, .ref pg, .int (nI pe), .int kn, .ref ss]))] ++ (w_now ++ (w_past ++ (w_pars ++ (w_judg ++ (w_layr ++ (w_heap ++ (w_kept ++ (w_rnds ++ (w_plnr ++ (w_shts ++ (wmZ ++ ro)))))))))))) ((List.Perm.append_left _ ((List.Perm.append_left _ ((List.Perm.append_left _ ((List.Perm.append_left _ ((List.Perm.append_left _ ((List.Perm.append_left _ ((List.Perm.append_left _ ((List.Perm.append_left _ ((List.Perm.append_left _ ((List.Perm.append_left _ ((List.Perm.append_left _ (List.Perm.refl _)).trans (List.perm_append_comm_assoc _ _ _))).trans (List.perm_append_comm_assoc _ _ _))).trans (List.perm_append_comm_assoc _ _ _))).trans (List.perm_append_comm_assoc _ _ _))).trans (List.perm_append_comm_assoc _ _ _))).trans (List.perm_append_comm_assoc _ _ _))).trans (List.perm_append_comm_assoc _ _ _))).trans (List.perm_append_comm_assoc _ _ _))).trans (List.perm_append_comm_assoc _ _ _))).trans (List.perm_append_comm_assoc _ _ _))).trans (List.perm_append_comm_assoc _ _ _)).symm ?_
  exact kont rr f_lanesZ f_lengthsZ f_cellsZ _ ⟨h, qp, qs, qj, ly, qh, kk, rd, pg, ss, ac, np, kc, w_now, w_past, w_pars, w_judg, w_layr, w_heap, w_kept, w_rnds, w_plnr, w_shts, wmZ, ro, hac, hnp, hkc, hpe, H_now, H_past, H_pars, H_judg, H_layr, H_heap, H_kept, H_rnds, H_plnr, H_shts, H_refZ, rfl⟩ hE
set_option maxRecDepth 100000 in
theorem my_write {X : XT} {E : EV} {ws : va_W} {lv : List (Nat × Value)} {rest : List Value} {kC nC : Nat} {hx hm : Nat} {tl : Nat} {ct : Nat → Int} {pe : Nat} {kn : Int32} {st : Nat → Nat} {sn : Nat → Nat} {sl : Nat → Nat} {scx : Nat → Nat → Int32} {tT : Nat → Option SVal} {ec : Nat → Nat} {er : Nat → Nat} {ed : Nat → Nat → Int32} {q_taped : Nat} {cr : Nat → Int} {q_people : Nat} {f_secrets : Nat → Int32} {f_lanes : Nat → Int32} {f_lengths : Nat → Int32} {f_cells : Nat → Int32} {f_tokens : Nat → Int32} {f_afters : Nat → Int32} {f_caseMany : Nat → Int32} {f_happen : Nat → Int32} {f_heard : Nat → Int32} {v0 : Int32} {v1 : Int32} {v2 : Int32} (C : CX X room_1 cL_law 4 RL ret E) (hW : Nat.ble (rest.map fun v => v.category).sum 8 = true) (hk : kC ≤ 600000 ∧ nC ≤ 7302250) (hS : ST E hx hm tl ct pe kn st sn sl scx tT ec er ed q_taped cr q_people f_secrets f_lanes f_lengths f_cells f_tokens f_afters f_caseMany f_happen f_heard ws) (kont : ∀ (rr : Int32) (f_cellsZ : Nat → Int32) (wsZ : va_W), ST E hx hm tl ct pe kn st sn sl scx tT ec er ed q_taped cr q_people f_secrets f_lanes f_lengths f_cellsZ f_tokens f_afters f_caseMany f_happen f_heard wsZ → (((v0.toInt < 0 ∨ 3 < v0.toInt) ∧ rr = -1 ∧ f_cellsZ = f_cells) ∨ ∃ k_ : Nat, v0 = nI k_ ∧ k_ ≤ 3 ∧ ((f_lanes k_ = -4 ∧ rr = -11 ∧ f_cellsZ = f_cells) ∨ (f_lanes k_ ≠ -4 ∧ (v1.toInt < 0 ∨ ((cN f_lengths k_ : Nat) : Int) ≤ v1.toInt) ∧ rr = -12 ∧ f_cellsZ = f_cells) ∨ (f_lanes k_ ≠ -4 ∧ (0 ≤ v1.toInt ∧ v1.toInt < ((cN f_lengths k_ : Nat) : Int)) ∧ rr = 1 ∧ ∃ i_ : Nat, v1 = nI i_ ∧ i_ < 48 ∧ upd f_cells (48 * k_ + i_) (putw (f_lanes k_) v2) = f_cellsZ))) → WW X 4 E 1359 lv (.int rr :: rest) wsZ kC nC) : WW X 4 E 1356 lv (.int v2 :: .int v1 :: .int v0 :: .ref hm :: rest) ws kC nC := by
  unfold ST at hS
  refine ex8 hS ?_
  clear hS
  intro h qp qs qj ly qh kk rd hS
  refine ex8 hS ?_
  clear hS
  intro pg ss ac np kc w_now w_past w_pars hS
  refine ex8 hS ?_
  clear hS
  intro w_judg w_layr w_heap w_kept w_rnds w_plnr w_shts wm hS
  refine ex1 hS ?_
  clear hS
  intro ro hS
  refine an8 hS ?_
  clear hS
  intro hac hnp hkc hpe H_now H_past H_pars H_judg hS
  refine an7 hS ?_
  clear hS
  intro H_layr H_heap H_kept H_rnds H_plnr H_shts H_ref hS
  have we_st := hS
  clear hS
  subst we_st
  refine ww_perm (ws' := wm ++ ([(hx, .inr (11, [.ref h, .ref qp, .int (nI ac), .int (nI np), .ref qs, .ref qj, .ref ly, .ref qh, .ref kk, .int (nI kc), .ref rd, .ref pg, .int (nI pe), .int kn, .ref ss]))] ++ (w_now ++ (w_past ++ (w_pars ++ (w_judg ++ (w_layr ++ (w_heap ++ (w_kept ++ (w_rnds ++ (w_plnr ++ (w_shts ++ ro)))))))))))) ((List.Perm.append_left _ ((List.Perm.append_left _ ((List.Perm.append_left _ ((List.Perm.append_left _ ((List.Perm.append_left _ ((List.Perm.append_left _ ((List.Perm.append_left _ ((List.Perm.append_left _ ((List.Perm.append_left _ ((List.Perm.append_left _ ((List.Perm.append_left _ (List.Perm.refl _)).trans (List.perm_append_comm_assoc _ _ _))).trans (List.perm_append_comm_assoc _ _ _))).trans (List.perm_append_comm_assoc _ _ _))).trans (List.perm_append_comm_assoc _ _ _))).trans (List.perm_append_comm_assoc _ _ _))).trans (List.perm_append_comm_assoc _ _ _))).trans (List.perm_append_comm_assoc _ _ _))).trans (List.perm_append_comm_assoc _ _ _))).trans (List.perm_append_comm_assoc _ _ _))).trans (List.perm_append_comm_assoc _ _ _))).trans (List.perm_append_comm_assoc _ _ _)) ?_
  refine lm_write C hW hk H_ref (fun rr f_cellsZ wmZ H_refZ hE => ?_)
  refine ww_perm (ws' := [(hx, .inr (11, [.ref h, .ref qp, .int (nI ac), .int (nI np), .ref qs, .ref qj, .ref ly, .ref qh, .ref kk, .int (nI kc), .ref rd, .ref pg, .int (nI pe), .int kn, .ref ss]))] ++ (w_now ++ (w_past ++ (w_pars ++ (w_judg ++ (w_layr ++ (w_heap ++ (w_kept ++ (w_rnds ++ (w_plnr ++ (w_shts ++ (wmZ ++ ro)))))))))))) ((List.Perm.append_left _ ((List.Perm.append_left _ ((List.Perm.append_left _ ((List.Perm.append_left _ ((List.Perm.append_left _ ((List.Perm.append_left _ ((List.Perm.append_left _ ((List.Perm.append_left _ ((List.Perm.append_left _ ((List.Perm.append_left _ ((List.Perm.append_left _ (List.Perm.refl _)).trans (List.perm_append_comm_assoc _ _ _))).trans (List.perm_append_comm_assoc _ _ _))).trans (List.perm_append_comm_assoc _ _ _))).trans (List.perm_append_comm_assoc _ _ _))).trans (List.perm_append_comm_assoc _ _ _))).trans (List.perm_append_comm_assoc _ _ _))).trans (List.perm_append_comm_assoc _ _ _))).trans (List.perm_append_comm_assoc _ _ _))).trans (List.perm_append_comm_assoc _ _ _))).trans (List.perm_append_comm_assoc _ _ _))).trans (List.perm_append_comm_assoc _ _ _)).symm ?_
  exact kont rr f_cellsZ _ ⟨h, qp, qs, qj, ly, qh, kk, rd, pg, ss, ac, np, kc, w_now, w_past, w_pars, w_judg, w_layr, w_heap, w_kept, w_rnds, w_plnr, w_shts, wmZ, ro, hac, hnp, hkc, hpe, H_now, H_past, H_pars, H_judg, H_layr, H_heap, H_kept, H_rnds, H_plnr, H_shts, H_refZ, rfl⟩ hE
set_option maxRecDepth 100000 in
theorem my_read {X : XT} {E : EV} {ws : va_W} {lv : List (Nat × Value)} {rest : List Value} {kC nC : Nat} {hx hm : Nat} {tl : Nat} {ct : Nat → Int} {pe : Nat} {kn : Int32} {st : Nat → Nat} {sn : Nat → Nat} {sl : Nat → Nat} {scx : Nat → Nat → Int32} {tT : Nat → Option SVal} {ec : Nat → Nat} {er : Nat → Nat} {ed : Nat → Nat → Int32} {q_taped : Nat} {cr : Nat → Int} {q_people : Nat} {f_secrets : Nat → Int32} {f_lanes : Nat → Int32} {f_lengths : Nat → Int32} {f_cells : Nat → Int32} {f_tokens : Nat → Int32} {f_afters : Nat → Int32} {f_caseMany : Nat → Int32} {f_happen : Nat → Int32} {f_heard : Nat → Int32} {v0 : Int32} {v1 : Int32} {v2 : Int32} {v3 : Int32} (C : CX X room_1 cL_law 4 RL ret E) (hW : Nat.ble (rest.map fun v => v.category).sum 8 = true) (hk : kC ≤ 600000 ∧ nC ≤ 7302250) (hS : ST E hx hm tl ct pe kn st sn sl scx tT ec er ed q_taped cr q_people f_secrets f_lanes f_lengths f_cells f_tokens f_afters f_caseMany f_happen f_heard ws) (kont : ∀ (rr : Int32) (wsZ : va_W), ST E hx hm tl ct pe kn st sn sl scx tT ec er ed q_taped cr q_people f_secrets f_lanes f_lengths f_cells f_tokens f_afters f_caseMany f_happen f_heard wsZ → (((v0.toInt < 0 ∨ 3 < v0.toInt ∨ v1.toInt < 0 ∨ 2 < v1.toInt ∨ v3.toInt < 0 ∨ 24 < v3.toInt) ∧ rr = -1) ∨ ∃ k_ l_ n_ : Nat, v0 = nI k_ ∧ v1 = nI l_ ∧ v3 = nI n_ ∧ k_ ≤ 3 ∧ l_ ≤ 2 ∧ n_ ≤ 24 ∧ rr = rdB (f_lanes k_) (cN f_lengths k_) (fun j => f_cells (48 * k_ + j)) l_ v2 n_) → WW X 4 E 1412 lv (.int rr :: rest) wsZ kC nC) : WW X 4 E 1409 lv (.int v3 :: .int v2 :: .int v1 :: .int v0 :: .ref hm :: rest) ws kC nC := by
  unfold ST at hS
  refine ex8 hS ?_
  clear hS
  intro h qp qs qj ly qh kk rd hS
  refine ex8 hS ?_
  clear hS
  intro pg ss ac np kc w_now w_past w_pars hS
  refine ex8 hS ?_
  clear hS
  intro w_judg w_layr w_heap w_kept w_rnds w_plnr w_shts wm hS
  refine ex1 hS ?_
  clear hS
  intro ro hS
  refine an8 hS ?_
  clear hS
  intro hac hnp hkc hpe H_now H_past H_pars H_judg hS
  refine an7 hS ?_
  clear hS
  intro H_layr H_heap H_kept H_rnds H_plnr H_shts H_ref hS
  have we_st := hS
  clear hS
  subst we_st
  refine ww_perm (ws' := wm ++ ([(hx, .inr (11, [.ref h, .ref qp, .int (nI ac), .int (nI np), .ref qs, .ref qj, .ref ly, .ref qh, .ref kk, .int (nI kc), .ref rd, .ref pg, .int (nI pe), .int kn, .ref ss]))] ++ (w_now ++ (w_past ++ (w_pars ++ (w_judg ++ (w_layr ++ (w_heap ++ (w_kept ++ (w_rnds ++ (w_plnr ++ (w_shts ++ ro)))))))))))) ((List.Perm.append_left _ ((List.Perm.append_left _ ((List.Perm.append_left _ ((List.Perm.append_left _ ((List.Perm.append_left _ ((List.Perm.append_left _ ((List.Perm.append_left _ ((List.Perm.append_left _ ((List.Perm.append_left _ ((List.Perm.append_left _ ((List.Perm.append_left _ (List.Perm.refl _)).trans (List.perm_append_comm_assoc _ _ _))).trans (List.perm_append_comm_assoc _ _ _))).trans (List.perm_append_comm_assoc _ _ _))).trans (List.perm_append_comm_assoc _ _ _))).trans (List.perm_append_comm_assoc _ _ _))).trans (List.perm_append_comm_assoc _ _ _))).trans (List.perm_append_comm_assoc _ _ _))).trans (List.perm_append_comm_assoc _ _ _))).trans (List.perm_append_comm_assoc _ _ _))).trans (List.perm_append_comm_assoc _ _ _))).trans (List.perm_append_comm_assoc _ _ _)) ?_
  refine lm_read C hW hk H_ref (fun rr wmZ H_refZ hE => ?_)
  refine ww_perm (ws' := [(hx, .inr (11, [.ref h, .ref qp, .int (nI ac), .int (nI np), .ref qs, .ref qj, .ref ly, .ref qh, .ref kk, .int (nI kc), .ref rd, .ref pg, .int (nI pe), .int kn, .ref ss]))] ++ (w_now ++ (w_past ++ (w_pars ++ (w_judg ++ (w_layr ++ (w_heap ++ (w_kept ++ (w_rnds ++ (w_plnr ++ (w_shts ++ (wmZ ++ ro)))))))))))) ((List.Perm.append_left _ ((List.Perm.append_left _ ((List.Perm.append_left _ ((List.Perm.append_left _ ((List.Perm.append_left _ ((List.Perm.append_left _ ((List.Perm.append_left _ ((List.Perm.append_left _ ((List.Perm.append_left _ ((List.Perm.append_left _ ((List.Perm.append_left _ (List.Perm.refl _)).trans (List.perm_append_comm_assoc _ _ _))).trans (List.perm_append_comm_assoc _ _ _))).trans (List.perm_append_comm_assoc _ _ _))).trans (List.perm_append_comm_assoc _ _ _))).trans (List.perm_append_comm_assoc _ _ _))).trans (List.perm_append_comm_assoc _ _ _))).trans (List.perm_append_comm_assoc _ _ _))).trans (List.perm_append_comm_assoc _ _ _))).trans (List.perm_append_comm_assoc _ _ _))).trans (List.perm_append_comm_assoc _ _ _))).trans (List.perm_append_comm_assoc _ _ _)).symm ?_
  exact kont rr  _ ⟨h, qp, qs, qj, ly, qh, kk, rd, pg, ss, ac, np, kc, w_now, w_past, w_pars, w_judg, w_layr, w_heap, w_kept, w_rnds, w_plnr, w_shts, wmZ, ro, hac, hnp, hkc, hpe, H_now, H_past, H_pars, H_judg, H_layr, H_heap, H_kept, H_rnds, H_plnr, H_shts, H_refZ, rfl⟩ hE
set_option maxRecDepth 100000 in
theorem my_undo {X : XT} {E : EV} {ws : va_W} {lv : List (Nat × Value)} {rest : List Value} {kC nC : Nat} {hx hm : Nat} {tl : Nat} {ct : Nat → Int} {pe : Nat} {kn : Int32} {st : Nat → Nat} {sn : Nat → Nat} {sl : Nat → Nat} {scx : Nat → Nat → Int32} {tT : Nat → Option SVal} {ec : Nat → Nat} {er : Nat → Nat} {ed : Nat → Nat → Int32} {q_taped : Nat} {cr : Nat → Int} {q_people : Nat} {f_secrets : Nat → Int32} {f_lanes : Nat → Int32} {f_lengths : Nat → Int32} {f_cells : Nat → Int32} {f_tokens : Nat → Int32} {f_afters : Nat → Int32} {f_caseMany : Nat → Int32} {f_happen : Nat → Int32} {f_heard : Nat → Int32}  (C : CX X room_1 cL_law 4 RL ret E) (hW : Nat.ble (rest.map fun v => v.category).sum 8 = true) (hk : kC ≤ 600000 ∧ nC ≤ 7302250) (hS : ST E hx hm tl ct pe kn st sn sl scx tT ec er ed q_taped cr q_people f_secrets f_lanes f_lengths f_cells f_tokens f_afters f_caseMany f_happen f_heard ws) (kont : ∀ (rr : Int32) (wsZ : va_W), ST E hx hm tl ct pe kn st sn sl scx tT ec er ed q_taped cr q_people f_secrets f_lanes f_lengths f_cells f_tokens f_afters f_caseMany f_happen f_heard wsZ → (True) → WW X 4 E 1425 lv (.int rr :: rest) wsZ kC nC) : WW X 4 E 1422 lv (.ref hm :: rest) ws kC nC := by
  unfold ST at hS
  refine ex8 hS ?_
  clear hS
  intro h qp qs qj ly qh kk rd hS
  refine ex8 hS ?_
  clear hS
  intro pg ss ac np kc w_now w_past w_pars hS
  refine ex8 hS ?_
  clear hS
  intro w_judg w_layr w_heap w_kept w_rnds w_plnr w_shts wm hS
  refine ex1 hS ?_
  clear hS
  intro ro hS
  refine an8 hS ?_
  clear hS
  intro hac hnp hkc hpe H_now H_past H_pars H_judg hS
  refine an7 hS ?_
  clear hS
  intro H_layr H_heap H_kept H_rnds H_plnr H_shts H_ref hS
  have we_st := hS
  clear hS
  subst we_st
  refine ww_perm (ws' := wm ++ ([(hx, .inr (11, [.ref h, .ref qp, .int (nI ac), .int (nI np), .ref qs, .ref qj, .ref ly, .ref qh, .ref kk, .int (nI kc), .ref rd, .ref pg, .int (nI pe), .int kn, .ref ss]))] ++ (w_now ++ (w_past ++ (w_pars ++ (w_judg ++ (w_layr ++ (w_heap ++ (w_kept ++ (w_rnds ++ (w_plnr ++ (w_shts ++ ro)))))))))))) ((List.Perm.append_left _ ((List.Perm.append_left _ ((List.Perm.append_left _ ((List.Perm.append_left _ ((List.Perm.append_left _ ((List.Perm.append_left _ ((List.Perm.append_left _ ((List.Perm.append_left _ ((List.Perm.append_left _ ((List.Perm.append_left _ ((List.Perm.append_left _ (List.Perm.refl _)).trans (List.perm_append_comm_assoc _ _ _))).trans (List.perm_append_comm_assoc _ _ _))).trans (List.perm_append_comm_assoc _ _ _))).trans (List.perm_append_comm_assoc _ _ _))).trans (List.perm_append_comm_assoc _ _ _))).trans (List.perm_append_comm_assoc _ _ _))).trans (List.perm_append_comm_assoc _ _ _))).trans (List.perm_append_comm_assoc _ _ _))).trans (List.perm_append_comm_assoc _ _ _))).trans (List.perm_append_comm_assoc _ _ _))).trans (List.perm_append_comm_assoc _ _ _)) ?_
  refine lm_undo C hW hk H_ref (fun rr wmZ H_refZ hE => ?_)
  refine ww_perm (ws' := [(hx, .inr (11, [.ref h, .ref qp, .int (nI ac), .int (nI np), .ref qs, .ref qj, .ref ly, .ref qh, .ref kk, .int (nI kc), .ref rd, .ref pg, .int (nI pe), .int kn, .ref ss]))] ++ (w_now ++ (w_past ++ (w_pars ++ (w_judg ++ (w_layr ++ (w_heap ++ (w_kept ++ (w_rnds ++ (w_plnr ++ (w_shts ++ (wmZ ++ ro)))))))))))) ((List.Perm.append_left _ ((List.Perm.append_left _ ((List.Perm.append_left _ ((List.Perm.append_left _ ((List.Perm.append_left _ ((List.Perm.append_left _ ((List.Perm.append_left _ ((List.Perm.append_left _ ((List.Perm.append_left _ ((List.Perm.append_left _ ((List.Perm.append_left _ (List.Perm.refl _)).trans (List.perm_append_comm_assoc _ _ _))).trans (List.perm_append_comm_assoc _ _ _))).trans (List.perm_append_comm_assoc _ _ _))).trans (List.perm_append_comm_assoc _ _ _))).trans (List.perm_append_comm_assoc _ _ _))).trans (List.perm_append_comm_assoc _ _ _))).trans (List.perm_append_comm_assoc _ _ _))).trans (List.perm_append_comm_assoc _ _ _))).trans (List.perm_append_comm_assoc _ _ _))).trans (List.perm_append_comm_assoc _ _ _))).trans (List.perm_append_comm_assoc _ _ _)).symm ?_
  exact kont rr  _ ⟨h, qp, qs, qj, ly, qh, kk, rd, pg, ss, ac, np, kc, w_now, w_past, w_pars, w_judg, w_layr, w_heap, w_kept, w_rnds, w_plnr, w_shts, wmZ, ro, hac, hnp, hkc, hpe, H_now, H_past, H_pars, H_judg, H_layr, H_heap, H_kept, H_rnds, H_plnr, H_shts, H_refZ, rfl⟩ hE
set_option maxRecDepth 100000 in
theorem my_count {X : XT} {E : EV} {ws : va_W} {lv : List (Nat × Value)} {rest : List Value} {kC nC : Nat} {hx hm : Nat} {tl : Nat} {ct : Nat → Int} {pe : Nat} {kn : Int32} {st : Nat → Nat} {sn : Nat → Nat} {sl : Nat → Nat} {scx : Nat → Nat → Int32} {tT : Nat → Option SVal} {ec : Nat → Nat} {er : Nat → Nat} {ed : Nat → Nat → Int32} {q_taped : Nat} {cr : Nat → Int} {q_people : Nat} {f_secrets : Nat → Int32} {f_lanes : Nat → Int32} {f_lengths : Nat → Int32} {f_cells : Nat → Int32} {f_tokens : Nat → Int32} {f_afters : Nat → Int32} {f_caseMany : Nat → Int32} {f_happen : Nat → Int32} {f_heard : Nat → Int32} {v0 : Int32} (C : CX X room_1 cL_law 4 RL ret E) (hW : Nat.ble (rest.map fun v => v.category).sum 8 = true) (hk : kC ≤ 600000 ∧ nC ≤ 7302250) (hS : ST E hx hm tl ct pe kn st sn sl scx tT ec er ed q_taped cr q_people f_secrets f_lanes f_lengths f_cells f_tokens f_afters f_caseMany f_happen f_heard ws) (kont : ∀ (rr : Int32) (wsZ : va_W), ST E hx hm tl ct pe kn st sn sl scx tT ec er ed q_taped cr q_people f_secrets f_lanes f_lengths f_cells f_tokens f_afters f_caseMany f_happen f_heard wsZ → (True) → WW X 4 E 1448 lv (.int rr :: rest) wsZ kC nC) : WW X 4 E 1445 lv (.int v0 :: .ref hm :: rest) ws kC nC := by
  unfold ST at hS
  refine ex8 hS ?_
  clear hS
  intro h qp qs qj ly qh kk rd hS
  refine ex8 hS ?_
  clear hS
  intro pg ss ac np kc w_now w_past w_pars hS
  refine ex8 hS ?_
  clear hS
  intro w_judg w_layr w_heap w_kept w_rnds w_plnr w_shts wm hS
  refine ex1 hS ?_
  clear hS
  intro ro hS
  refine an8 hS ?_
  clear hS
  intro hac hnp hkc hpe H_now H_past H_pars H_judg hS
  refine an7 hS ?_
  clear hS
  intro H_layr H_heap H_kept H_rnds H_plnr H_shts H_ref hS
  have we_st := hS
  clear hS
  subst we_st
  refine ww_perm (ws' := wm ++ ([(hx, .inr (11, [.ref h, .ref qp, .int (nI ac), .int (nI np), .ref qs, .ref qj, .ref ly, .ref qh, .ref kk, .int (nI kc), .ref rd, .ref pg, .int (nI pe), .int kn, .ref ss]))] ++ (w_now ++ (w_past ++ (w_pars ++ (w_judg ++ (w_layr ++ (w_heap ++ (w_kept ++ (w_rnds ++ (w_plnr ++ (w_shts ++ ro)))))))))))) ((List.Perm.append_left _ ((List.Perm.append_left _ ((List.Perm.append_left _ ((List.Perm.append_left _ ((List.Perm.append_left _ ((List.Perm.append_left _ ((List.Perm.append_left _ ((List.Perm.append_left _ ((List.Perm.append_left _ ((List.Perm.append_left _ ((List.Perm.append_left _ (List.Perm.refl _)).trans (List.perm_append_comm_assoc _ _ _))).trans (List.perm_append_comm_assoc _ _ _))).trans (List.perm_append_comm_assoc _ _ _))).trans (List.perm_append_comm_assoc _ _ _))).trans (List.perm_append_comm_assoc _ _ _))).trans (List.perm_append_comm_assoc _ _ _))).trans (List.perm_append_comm_assoc _ _ _))).trans (List.perm_append_comm_assoc _ _ _))).trans (List.perm_append_comm_assoc _ _ _))).trans (List.perm_append_comm_assoc _ _ _))).trans (List.perm_append_comm_assoc _ _ _)) ?_
  refine lm_count C hW hk H_ref (fun rr wmZ H_refZ hE => ?_)
  refine ww_perm (ws' := [(hx, .inr (11, [.ref h, .ref qp, .int (nI ac), .int (nI np), .ref qs, .ref qj, .ref ly, .ref qh, .ref kk, .int (nI kc), .ref rd, .ref pg, .int (nI pe), .int kn, .ref ss]))] ++ (w_now ++ (w_past ++ (w_pars ++ (w_judg ++ (w_layr ++ (w_heap ++ (w_kept ++ (w_rnds ++ (w_plnr ++ (w_shts ++ (wmZ ++ ro)))))))))))) ((List.Perm.append_left _ ((List.Perm.append_left _ ((List.Perm.append_left _ ((List.Perm.append_left _ ((List.Perm.append_left _ ((List.Perm.append_left _ ((List.Perm.append_left _ ((List.Perm.append_left _ ((List.Perm.append_left _ ((List.Perm.append_left _ ((List.Perm.append_left _ (List.Perm.refl _)).trans (List.perm_append_comm_assoc _ _ _))).trans (List.perm_append_comm_assoc _ _ _))).trans (List.perm_append_comm_assoc _ _ _))).trans (List.perm_append_comm_assoc _ _ _))).trans (List.perm_append_comm_assoc _ _ _))).trans (List.perm_append_comm_assoc _ _ _))).trans (List.perm_append_comm_assoc _ _ _))).trans (List.perm_append_comm_assoc _ _ _))).trans (List.perm_append_comm_assoc _ _ _))).trans (List.perm_append_comm_assoc _ _ _))).trans (List.perm_append_comm_assoc _ _ _)).symm ?_
  exact kont rr  _ ⟨h, qp, qs, qj, ly, qh, kk, rd, pg, ss, ac, np, kc, w_now, w_past, w_pars, w_judg, w_layr, w_heap, w_kept, w_rnds, w_plnr, w_shts, wmZ, ro, hac, hnp, hkc, hpe, H_now, H_past, H_pars, H_judg, H_layr, H_heap, H_kept, H_rnds, H_plnr, H_shts, H_refZ, rfl⟩ hE
