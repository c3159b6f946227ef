def ST (E : EV) (hx hm : Nat) (tl : Nat) (ct : Nat → Int) (pe : Nat) (kn : Int32) (ac : Nat) (np : Nat) (kc : Nat) (mN : AM) (pV : Nat → AM) (kV : Nat → AM) (st : Nat → Nat) (sn : Nat → Nat) (sl : Nat → Nat) (scx : Nat → Nat → Int32) (tT : Nat → Option SVal) (ec : Nat → Nat) (er : Nat → Nat) (ed : Nat → Nat → Int32) (eT : Nat → Nat → Option SVal) (eb : Nat → Nat → Int32) (en : Nat → Nat → Int32) (q_undos : Nat) (q_models : Nat) (PGv : Nat → AM) (f_afterOf : Nat → Int32) (f_actMany : Nat → Int32) (f_actOf : Nat → Int32) (f_whom : Nat → Int32) (f_hasIf : Nat → Int32) (f_becomes : Nat → Int32) (f_goneOf : Nat → Int32) (q_taped : Nat) (cr : Nat → Int) (q_people : Nat) (f_secrets : Nat → Int32) (f_lanes : Nat → Int32) (f_lengths : Nat → Int32) (f_cells : Nat → Int32) (f_tokens : Nat → Int32) (f_afters : Nat → Int32) (f_caseMany : Nat → Int32) (f_happen : Nat → Int32) (f_heard : Nat → Int32) (ws : va_W) : Prop := ∃ (h qp qs qj ly qh kk rd pg ss : Nat) (w_now w_past w_pars w_judg w_layr w_heap w_kept w_rnds w_plnr w_shts wm ro : va_W), ac ≤ 8 ∧ np < 8 ∧ kc ≤ 4 ∧ pe ≤ 4 ∧ ok_now E ro h mN w_now ∧ ok_past E ro qp pV w_past ∧ ok_pars E ro qs tl ct w_pars ∧ ok_judg E ro qj tT ec er ed eT eb en w_judg ∧ ok_layr E ro ly  w_layr ∧ ok_heap E ro qh  w_heap ∧ ok_kept E ro kk kc kV w_kept ∧ ok_rnds E ro rd  w_rnds ∧ ok_plnr E ro pg  w_plnr ∧ ok_shts E ro ss st sn sl scx w_shts ∧ ok_ref E [] hm q_undos q_models PGv f_afterOf f_actMany f_actOf f_whom f_hasIf f_becomes f_goneOf q_taped cr q_people f_secrets f_lanes f_lengths f_cells f_tokens f_afters f_caseMany f_happen f_heard wm ∧ ws = [(hx, .inr (11, [.ref h, .ref qp, .int (nI ac), .int (nI np), .ref qs, .ref qj, .ref ly, .ref qh, .ref kk, .int (nI kc), .ref rd, .ref pg, .int (nI pe), .int kn, .ref ss]))] ++ (w_now ++ (w_past ++ (w_pars ++ (w_judg ++ (w_layr ++ (w_heap ++ (w_kept ++ (w_rnds ++ (w_plnr ++ (w_shts ++ (wm ++ ro)))))))))))
theorem ok_now_ro {E : EV} {ro roZ : va_W} {h : Nat} {mN : AM} {w : va_W} (hq : ok_now E ro h mN w) : ok_now E roZ h mN w := hq
theorem ok_past_ro {E : EV} {ro roZ : va_W} {qp : Nat} {pV : Nat → AM} {w : va_W} (hq : ok_past E ro qp pV w) : ok_past E roZ qp pV w := hq
theorem ok_pars_ro {E : EV} {ro roZ : va_W} {qs : Nat} {tl : Nat} {ct : Nat → Int} {w : va_W} (hq : ok_pars E ro qs tl ct w) : ok_pars E roZ qs tl ct w := hq
theorem ok_layr_ro {E : EV} {ro roZ : va_W} {ly : Nat}  {w : va_W} (hq : ok_layr E ro ly  w) : ok_layr E roZ ly  w := hq
theorem ok_heap_ro {E : EV} {ro roZ : va_W} {qh : Nat}  {w : va_W} (hq : ok_heap E ro qh  w) : ok_heap E roZ qh  w := hq
theorem ok_kept_ro {E : EV} {ro roZ : va_W} {kk : Nat} {kc : Nat} {kV : Nat → AM} {w : va_W} (hq : ok_kept E ro kk kc kV w) : ok_kept E roZ kk kc kV w := hq
theorem ok_rnds_ro {E : EV} {ro roZ : va_W} {rd : Nat}  {w : va_W} (hq : ok_rnds E ro rd  w) : ok_rnds E roZ rd  w := hq
theorem ok_plnr_ro {E : EV} {ro roZ : va_W} {pg : Nat}  {w : va_W} (hq : ok_plnr E ro pg  w) : ok_plnr E roZ pg  w := hq
theorem ok_shts_ro {E : EV} {ro roZ : va_W} {ss : Nat} {st : Nat → Nat} {sn : Nat → Nat} {sl : Nat → Nat} {scx : Nat → Nat → Int32} {w : va_W} (hq : ok_shts E ro ss st sn sl scx w) : ok_shts E roZ ss st sn sl scx w := hq
set_option maxRecDepth 100000 in
theorem cx_world {X : XT} {E : EV} {ws : va_W} {lv : List (Nat × Value)} {rest : List Value} {kC nC : Nat} {hx hm : Nat} {tl : Nat} {ct : Nat → Int} {pe : Nat} {kn : Int32} {ac : Nat} {np : Nat} {kc : Nat} {mN : AM} {pV : Nat → AM} {kV : Nat → AM} {st : Nat → Nat} {sn : Nat → Nat} {sl : Nat → Nat} {scx : Nat → Nat → Int32} {tT : Nat → Option SVal} {ec : Nat → Nat} {er : Nat → Nat} {ed : Nat → Nat → Int32} {eT : Nat → Nat → Option SVal} {eb : Nat → Nat → Int32} {en : Nat → Nat → Int32} {q_undos : Nat} {q_models : Nat} {PGv : Nat → AM} {f_afterOf : Nat → Int32} {f_actMany : Nat → Int32} {f_actOf : Nat → Int32} {f_whom : Nat → Int32} {f_hasIf : Nat → Int32} {f_becomes : Nat → Int32} {f_goneOf : Nat → Int32} {q_taped : Nat} {cr : Nat → Int} {q_people : Nat} {f_secrets : Nat → Int32} {f_lanes : Nat → Int32} {f_lengths : Nat → Int32} {f_cells : Nat → Int32} {f_tokens : Nat → Int32} {f_afters : Nat → Int32} {f_caseMany : Nat → Int32} {f_happen : Nat → Int32} {f_heard : Nat → Int32} {v0 : Int32} (C : CX X room_1 cL_law 4 RL ret E) (hW : Nat.ble (rest.map fun v => v.category).sum 8 = true) (hk : kC + 0 ≤ 600000 ∧ nC + 0 ≤ 7302250) (hS : ST E hx hm tl ct pe kn ac np kc mN pV kV st sn sl scx tT ec er ed eT eb en q_undos q_models PGv f_afterOf f_actMany f_actOf f_whom f_hasIf f_becomes f_goneOf q_taped cr q_people f_secrets f_lanes f_lengths f_cells f_tokens f_afters f_caseMany f_happen f_heard ws) (kont : ∀ (rr : Int32) (mNZ : AM) (pVZ : Nat → AM) (acZ : Nat) (npZ : Nat) (wsZ : va_W), ST E hx hm tl ct pe kn acZ npZ kc mNZ pVZ kV st sn sl scx tT ec er ed eT eb en q_undos q_models PGv f_afterOf f_actMany f_actOf f_whom f_hasIf f_becomes f_goneOf q_taped cr q_people f_secrets f_lanes f_lengths f_cells f_tokens f_afters f_caseMany f_happen f_heard wsZ → (((asX mNZ acZ npZ pVZ), rr) = opWorld (asX mN ac np pV) v0) → WW X 4 E 209 lv (.int rr :: rest) wsZ kC nC) : WW X 4 E 206 lv (.int v0 :: .ref hx :: rest) ws kC nC := by
  unfold ST at hS
  refine ex8 hS ?_
  clear hS
  intro h qp qs qj ly qh kk rd hS
  refine ex8 hS ?_
  clear hS
  intro pg ss w_now w_past w_pars w_judg w_layr w_heap hS
  refine ex6 hS ?_
  clear hS
  intro w_kept w_rnds w_plnr w_shts wm ro hS
  refine an8 hS ?_
  clear hS
  intro hac hnp hkc hpe H_now H_past H_pars H_judg hS
  refine an7 hS ?_
  clear hS
  intro H_layr H_heap H_kept H_rnds H_plnr H_shts H_ref hS
  have we_st := hS
  clear hS
  subst we_st
  refine ww_perm (ws' := [(hx, .inr (11, [.ref h, .ref qp, .int (nI ac), .int (nI np), .ref qs, .ref qj, .ref ly, .ref qh, .ref kk, .int (nI kc), .ref rd, .ref pg, .int (nI pe), .int kn, .ref ss]))] ++ (w_now ++ (w_past ++ (w_pars ++ (w_judg ++ (w_layr ++ (w_heap ++ (w_kept ++ (w_rnds ++ (w_plnr ++ (w_shts ++ (wm ++ ro)))))))))))) (List.Perm.append_left _ ((List.Perm.refl _).trans (List.Perm.append_left _ (List.Perm.refl _)))) ?_
  refine lx_world (ro := ro) (wT := (w_pars ++ (w_judg ++ (w_layr ++ (w_heap ++ (w_kept ++ (w_rnds ++ (w_plnr ++ (w_shts ++ (wm ++ ro)))))))))) (pre := (w_pars ++ (w_judg ++ (w_layr ++ (w_heap ++ (w_kept ++ (w_rnds ++ (w_plnr ++ (w_shts ++ wm))))))))) C hW (by simp only [List.append_assoc]) hk hac hnp hkc hpe H_now H_past (fun rr acZ npZ mNZ pVZ w_nowZ w_pastZ hacZ hnpZ H_nowZ H_pastZ hE => ?_)
  refine ww_perm (ws' := [(hx, .inr (11, [.ref h, .ref qp, .int (nI acZ), .int (nI npZ), .ref qs, .ref qj, .ref ly, .ref qh, .ref kk, .int (nI kc), .ref rd, .ref pg, .int (nI pe), .int kn, .ref ss]))] ++ (w_nowZ ++ (w_pastZ ++ (w_pars ++ (w_judg ++ (w_layr ++ (w_heap ++ (w_kept ++ (w_rnds ++ (w_plnr ++ (w_shts ++ (wm ++ ro)))))))))))) (List.Perm.append_left _ ((List.Perm.refl _).trans (List.Perm.append_left _ (List.Perm.refl _)))).symm ?_
  exact kont rr mNZ pVZ acZ npZ _ ⟨h, qp, qs, qj, ly, qh, kk, rd, pg, ss, w_nowZ, w_pastZ, w_pars, w_judg, w_layr, w_heap, w_kept, w_rnds, w_plnr, w_shts, wm, ro, hacZ, hnpZ, hkc, hpe, H_nowZ, H_pastZ, H_pars, H_judg, H_layr, H_heap, H_kept, H_rnds, H_plnr, H_shts, H_ref, rfl⟩ hE
set_option maxRecDepth 100000 in
theorem cx_sees {X : XT} {E : EV} {ws : va_W} {lv : List (Nat × Value)} {rest : List Value} {kC nC : Nat} {hx hm : Nat} {tl : Nat} {ct : Nat → Int} {pe : Nat} {kn : Int32} {ac : Nat} {np : Nat} {kc : Nat} {mN : AM} {pV : Nat → AM} {kV : Nat → AM} {st : Nat → Nat} {sn : Nat → Nat} {sl : Nat → Nat} {scx : Nat → Nat → Int32} {tT : Nat → Option SVal} {ec : Nat → Nat} {er : Nat → Nat} {ed : Nat → Nat → Int32} {eT : Nat → Nat → Option SVal} {eb : Nat → Nat → Int32} {en : Nat → Nat → Int32} {q_undos : Nat} {q_models : Nat} {PGv : Nat → AM} {f_afterOf : Nat → Int32} {f_actMany : Nat → Int32} {f_actOf : Nat → Int32} {f_whom : Nat → Int32} {f_hasIf : Nat → Int32} {f_becomes : Nat → Int32} {f_goneOf : Nat → Int32} {q_taped : Nat} {cr : Nat → Int} {q_people : Nat} {f_secrets : Nat → Int32} {f_lanes : Nat → Int32} {f_lengths : Nat → Int32} {f_cells : Nat → Int32} {f_tokens : Nat → Int32} {f_afters : Nat → Int32} {f_caseMany : Nat → Int32} {f_happen : Nat → Int32} {f_heard : Nat → Int32} {v0 : Int32} {v1 : Int32} {v2 : Int32} {v3 : Int32} {v4 : Int32} (C : CX X room_1 cL_law 4 RL ret E) (hW : Nat.ble (rest.map fun v => v.category).sum 8 = true) (hk : kC + 0 ≤ 600000 ∧ nC + 0 ≤ 7302250) (hS : ST E hx hm tl ct pe kn ac np kc mN pV kV st sn sl scx tT ec er ed eT eb en q_undos q_models PGv f_afterOf f_actMany f_actOf f_whom f_hasIf f_becomes f_goneOf q_taped cr q_people f_secrets f_lanes f_lengths f_cells f_tokens f_afters f_caseMany f_happen f_heard ws) (kont : ∀ (rr : Int32) (mNZ : AM) (pVZ : Nat → AM) (acZ : Nat) (npZ : Nat) (wsZ : va_W), ST E hx hm tl ct pe kn acZ npZ kc mNZ pVZ kV st sn sl scx tT ec er ed eT eb en q_undos q_models PGv f_afterOf f_actMany f_actOf f_whom f_hasIf f_becomes f_goneOf q_taped cr q_people f_secrets f_lanes f_lengths f_cells f_tokens f_afters f_caseMany f_happen f_heard wsZ → (((asX mNZ acZ npZ pVZ), rr) = opSees (asX mN ac np pV) v0 v1 v2 v3 v4) → WW X 4 E 268 lv (.int rr :: rest) wsZ kC nC) : WW X 4 E 265 lv (.int v4 :: .int v3 :: .int v2 :: .int v1 :: .int v0 :: .ref hx :: rest) ws kC nC := by
  unfold ST at hS
  refine ex8 hS ?_
  clear hS
  intro h qp qs qj ly qh kk rd hS
  refine ex8 hS ?_
  clear hS
  intro pg ss w_now w_past w_pars w_judg w_layr w_heap hS
  refine ex6 hS ?_
  clear hS
  intro w_kept w_rnds w_plnr w_shts wm ro hS
  refine an8 hS ?_
  clear hS
  intro hac hnp hkc hpe H_now H_past H_pars H_judg hS
  refine an7 hS ?_
  clear hS
  intro H_layr H_heap H_kept H_rnds H_plnr H_shts H_ref hS
  have we_st := hS
  clear hS
  subst we_st
  refine ww_perm (ws' := [(hx, .inr (11, [.ref h, .ref qp, .int (nI ac), .int (nI np), .ref qs, .ref qj, .ref ly, .ref qh, .ref kk, .int (nI kc), .ref rd, .ref pg, .int (nI pe), .int kn, .ref ss]))] ++ (w_now ++ (w_past ++ (w_pars ++ (w_judg ++ (w_layr ++ (w_heap ++ (w_kept ++ (w_rnds ++ (w_plnr ++ (w_shts ++ (wm ++ ro)))))))))))) (List.Perm.append_left _ ((List.Perm.refl _).trans (List.Perm.append_left _ (List.Perm.refl _)))) ?_
  refine lx_sees (ro := ro) (wT := (w_pars ++ (w_judg ++ (w_layr ++ (w_heap ++ (w_kept ++ (w_rnds ++ (w_plnr ++ (w_shts ++ (wm ++ ro)))))))))) (pre := (w_pars ++ (w_judg ++ (w_layr ++ (w_heap ++ (w_kept ++ (w_rnds ++ (w_plnr ++ (w_shts ++ wm))))))))) C hW (by simp only [List.append_assoc]) hk hac hnp hkc hpe H_now H_past (fun rr acZ npZ mNZ pVZ w_nowZ w_pastZ hacZ hnpZ H_nowZ H_pastZ hE => ?_)
  refine ww_perm (ws' := [(hx, .inr (11, [.ref h, .ref qp, .int (nI acZ), .int (nI npZ), .ref qs, .ref qj, .ref ly, .ref qh, .ref kk, .int (nI kc), .ref rd, .ref pg, .int (nI pe), .int kn, .ref ss]))] ++ (w_nowZ ++ (w_pastZ ++ (w_pars ++ (w_judg ++ (w_layr ++ (w_heap ++ (w_kept ++ (w_rnds ++ (w_plnr ++ (w_shts ++ (wm ++ ro)))))))))))) (List.Perm.append_left _ ((List.Perm.refl _).trans (List.Perm.append_left _ (List.Perm.refl _)))).symm ?_
  exact kont rr mNZ pVZ acZ npZ _ ⟨h, qp, qs, qj, ly, qh, kk, rd, pg, ss, w_nowZ, w_pastZ, w_pars, w_judg, w_layr, w_heap, w_kept, w_rnds, w_plnr, w_shts, wm, ro, hacZ, hnpZ, hkc, hpe, H_nowZ, H_pastZ, H_pars, H_judg, H_layr, H_heap, H_kept, H_rnds, H_plnr, H_shts, H_ref, rfl⟩ hE
set_option maxRecDepth 100000 in
theorem cx_blind {X : XT} {E : EV} {ws : va_W} {lv : List (Nat × Value)} {rest : List Value} {kC nC : Nat} {hx hm : Nat} {tl : Nat} {ct : Nat → Int} {pe : Nat} {kn : Int32} {ac : Nat} {np : Nat} {kc : Nat} {mN : AM} {pV : Nat → AM} {kV : Nat → AM} {st : Nat → Nat} {sn : Nat → Nat} {sl : Nat → Nat} {scx : Nat → Nat → Int32} {tT : Nat → Option SVal} {ec : Nat → Nat} {er : Nat → Nat} {ed : Nat → Nat → Int32} {eT : Nat → Nat → Option SVal} {eb : Nat → Nat → Int32} {en : Nat → Nat → Int32} {q_undos : Nat} {q_models : Nat} {PGv : Nat → AM} {f_afterOf : Nat → Int32} {f_actMany : Nat → Int32} {f_actOf : Nat → Int32} {f_whom : Nat → Int32} {f_hasIf : Nat → Int32} {f_becomes : Nat → Int32} {f_goneOf : Nat → Int32} {q_taped : Nat} {cr : Nat → Int} {q_people : Nat} {f_secrets : Nat → Int32} {f_lanes : Nat → Int32} {f_lengths : Nat → Int32} {f_cells : Nat → Int32} {f_tokens : Nat → Int32} {f_afters : Nat → Int32} {f_caseMany : Nat → Int32} {f_happen : Nat → Int32} {f_heard : Nat → Int32} {v0 : Int32} (C : CX X room_1 cL_law 4 RL ret E) (hW : Nat.ble (rest.map fun v => v.category).sum 8 = true) (hk : kC + 0 ≤ 600000 ∧ nC + 0 ≤ 7302250) (hS : ST E hx hm tl ct pe kn ac np kc mN pV kV st sn sl scx tT ec er ed eT eb en q_undos q_models PGv f_afterOf f_actMany f_actOf f_whom f_hasIf f_becomes f_goneOf q_taped cr q_people f_secrets f_lanes f_lengths f_cells f_tokens f_afters f_caseMany f_happen f_heard ws) (kont : ∀ (rr : Int32) (mNZ : AM) (pVZ : Nat → AM) (acZ : Nat) (npZ : Nat) (wsZ : va_W), ST E hx hm tl ct pe kn acZ npZ kc mNZ pVZ kV st sn sl scx tT ec er ed eT eb en q_undos q_models PGv f_afterOf f_actMany f_actOf f_whom f_hasIf f_becomes f_goneOf q_taped cr q_people f_secrets f_lanes f_lengths f_cells f_tokens f_afters f_caseMany f_happen f_heard wsZ → (((asX mNZ acZ npZ pVZ), rr) = opBlind (asX mN ac np pV) v0) → WW X 4 E 327 lv (.int rr :: rest) wsZ kC nC) : WW X 4 E 324 lv (.int v0 :: .ref hx :: rest) ws kC nC := by
  unfold ST at hS
  refine ex8 hS ?_
  clear hS
  intro h qp qs qj ly qh kk rd hS
  refine ex8 hS ?_
  clear hS
  intro pg ss w_now w_past w_pars w_judg w_layr w_heap hS
  refine ex6 hS ?_
  clear hS
  intro w_kept w_rnds w_plnr w_shts wm ro hS
  refine an8 hS ?_
  clear hS
  intro hac hnp hkc hpe H_now H_past H_pars H_judg hS
  refine an7 hS ?_
  clear hS
  intro H_layr H_heap H_kept H_rnds H_plnr H_shts H_ref hS
  have we_st := hS
  clear hS
  subst we_st
  refine ww_perm (ws' := [(hx, .inr (11, [.ref h, .ref qp, .int (nI ac), .int (nI np), .ref qs, .ref qj, .ref ly, .ref qh, .ref kk, .int (nI kc), .ref rd, .ref pg, .int (nI pe), .int kn, .ref ss]))] ++ (w_now ++ (w_past ++ (w_pars ++ (w_judg ++ (w_layr ++ (w_heap ++ (w_kept ++ (w_rnds ++ (w_plnr ++ (w_shts ++ (wm ++ ro)))))))))))) (List.Perm.append_left _ ((List.Perm.refl _).trans (List.Perm.append_left _ (List.Perm.refl _)))) ?_
  refine lx_blind (ro := ro) (wT := (w_pars ++ (w_judg ++ (w_layr ++ (w_heap ++ (w_kept ++ (w_rnds ++ (w_plnr ++ (w_shts ++ (wm ++ ro)))))))))) (pre := (w_pars ++ (w_judg ++ (w_layr ++ (w_heap ++ (w_kept ++ (w_rnds ++ (w_plnr ++ (w_shts ++ wm))))))))) C hW (by simp only [List.append_assoc]) hk hac hnp hkc hpe H_now H_past (fun rr acZ npZ mNZ pVZ w_nowZ w_pastZ hacZ hnpZ H_nowZ H_pastZ hE => ?_)
  refine ww_perm (ws' := [(hx, .inr (11, [.ref h, .ref qp, .int (nI acZ), .int (nI npZ), .ref qs, .ref qj, .ref ly, .ref qh, .ref kk, .int (nI kc), .ref rd, .ref pg, .int (nI pe), .int kn, .ref ss]))] ++ (w_nowZ ++ (w_pastZ ++ (w_pars ++ (w_judg ++ (w_layr ++ (w_heap ++ (w_kept ++ (w_rnds ++ (w_plnr ++ (w_shts ++ (wm ++ ro)))))))))))) (List.Perm.append_left _ ((List.Perm.refl _).trans (List.Perm.append_left _ (List.Perm.refl _)))).symm ?_
  exact kont rr mNZ pVZ acZ npZ _ ⟨h, qp, qs, qj, ly, qh, kk, rd, pg, ss, w_nowZ, w_pastZ, w_pars, w_judg, w_layr, w_heap, w_kept, w_rnds, w_plnr, w_shts, wm, ro, hacZ, hnpZ, hkc, hpe, H_nowZ, H_pastZ, H_pars, H_judg, H_layr, H_heap, H_kept, H_rnds, H_plnr, H_shts, H_ref, rfl⟩ hE
set_option maxRecDepth 100000 in
theorem cx_real {X : XT} {E : EV} {ws : va_W} {lv : List (Nat × Value)} {rest : List Value} {kC nC : Nat} {hx hm : Nat} {tl : Nat} {ct : Nat → Int} {pe : Nat} {kn : Int32} {ac : Nat} {np : Nat} {kc : Nat} {mN : AM} {pV : Nat → AM} {kV : Nat → AM} {st : Nat → Nat} {sn : Nat → Nat} {sl : Nat → Nat} {scx : Nat → Nat → Int32} {tT : Nat → Option SVal} {ec : Nat → Nat} {er : Nat → Nat} {ed : Nat → Nat → Int32} {eT : Nat → Nat → Option SVal} {eb : Nat → Nat → Int32} {en : Nat → Nat → Int32} {q_undos : Nat} {q_models : Nat} {PGv : Nat → AM} {f_afterOf : Nat → Int32} {f_actMany : Nat → Int32} {f_actOf : Nat → Int32} {f_whom : Nat → Int32} {f_hasIf : Nat → Int32} {f_becomes : Nat → Int32} {f_goneOf : Nat → Int32} {q_taped : Nat} {cr : Nat → Int} {q_people : Nat} {f_secrets : Nat → Int32} {f_lanes : Nat → Int32} {f_lengths : Nat → Int32} {f_cells : Nat → Int32} {f_tokens : Nat → Int32} {f_afters : Nat → Int32} {f_caseMany : Nat → Int32} {f_happen : Nat → Int32} {f_heard : Nat → Int32} {v0 : Int32} (C : CX X room_1 cL_law 4 RL ret E) (hW : Nat.ble (rest.map fun v => v.category).sum 8 = true) (hk : kC + 0 ≤ 600000 ∧ nC + 0 ≤ 7302250) (hS : ST E hx hm tl ct pe kn ac np kc mN pV kV st sn sl scx tT ec er ed eT eb en q_undos q_models PGv f_afterOf f_actMany f_actOf f_whom f_hasIf f_becomes f_goneOf q_taped cr q_people f_secrets f_lanes f_lengths f_cells f_tokens f_afters f_caseMany f_happen f_heard ws) (kont : ∀ (rr : Int32) (mNZ : AM) (pVZ : Nat → AM) (acZ : Nat) (npZ : Nat) (wsZ : va_W), ST E hx hm tl ct pe kn acZ npZ kc mNZ pVZ kV st sn sl scx tT ec er ed eT eb en q_undos q_models PGv f_afterOf f_actMany f_actOf f_whom f_hasIf f_becomes f_goneOf q_taped cr q_people f_secrets f_lanes f_lengths f_cells f_tokens f_afters f_caseMany f_happen f_heard wsZ → (((asX mNZ acZ npZ pVZ), rr) = opReal (asX mN ac np pV) v0) → WW X 4 E 350 lv (.int rr :: rest) wsZ kC nC) : WW X 4 E 347 lv (.int v0 :: .ref hx :: rest) ws kC nC := by
  unfold ST at hS
  refine ex8 hS ?_
  clear hS
  intro h qp qs qj ly qh kk rd hS
  refine ex8 hS ?_
  clear hS
  intro pg ss w_now w_past w_pars w_judg w_layr w_heap hS
  refine ex6 hS ?_
  clear hS
  intro w_kept w_rnds w_plnr w_shts wm ro hS
  refine an8 hS ?_
  clear hS
  intro hac hnp hkc hpe H_now H_past H_pars H_judg hS
  refine an7 hS ?_
  clear hS
  intro H_layr H_heap H_kept H_rnds H_plnr H_shts H_ref hS
  have we_st := hS
  clear hS
  subst we_st
  refine ww_perm (ws' := [(hx, .inr (11, [.ref h, .ref qp, .int (nI ac), .int (nI np), .ref qs, .ref qj, .ref ly, .ref qh, .ref kk, .int (nI kc), .ref rd, .ref pg, .int (nI pe), .int kn, .ref ss]))] ++ (w_now ++ (w_past ++ (w_pars ++ (w_judg ++ (w_layr ++ (w_heap ++ (w_kept ++ (w_rnds ++ (w_plnr ++ (w_shts ++ (wm ++ ro)))))))))))) (List.Perm.append_left _ ((List.Perm.refl _).trans (List.Perm.append_left _ (List.Perm.refl _)))) ?_
  refine lx_real (ro := ro) (wT := (w_pars ++ (w_judg ++ (w_layr ++ (w_heap ++ (w_kept ++ (w_rnds ++ (w_plnr ++ (w_shts ++ (wm ++ ro)))))))))) (pre := (w_pars ++ (w_judg ++ (w_layr ++ (w_heap ++ (w_kept ++ (w_rnds ++ (w_plnr ++ (w_shts ++ wm))))))))) C hW (by simp only [List.append_assoc]) hk hac hnp hkc hpe H_now H_past (fun rr acZ npZ mNZ pVZ w_nowZ w_pastZ hacZ hnpZ H_nowZ H_pastZ hE => ?_)
  refine ww_perm (ws' := [(hx, .inr (11, [.ref h, .ref qp, .int (nI acZ), .int (nI npZ), .ref qs, .ref qj, .ref ly, .ref qh, .ref kk, .int (nI kc), .ref rd, .ref pg, .int (nI pe), .int kn, .ref ss]))] ++ (w_nowZ ++ (w_pastZ ++ (w_pars ++ (w_judg ++ (w_layr ++ (w_heap ++ (w_kept ++ (w_rnds ++ (w_plnr ++ (w_shts ++ (wm ++ ro)))))))))))) (List.Perm.append_left _ ((List.Perm.refl _).trans (List.Perm.append_left _ (List.Perm.refl _)))).symm ?_
  exact kont rr mNZ pVZ acZ npZ _ ⟨h, qp, qs, qj, ly, qh, kk, rd, pg, ss, w_nowZ, w_pastZ, w_pars, w_judg, w_layr, w_heap, w_kept, w_rnds, w_plnr, w_shts, wm, ro, hacZ, hnpZ, hkc, hpe, H_nowZ, H_pastZ, H_pars, H_judg, H_layr, H_heap, H_kept, H_rnds, H_plnr, H_shts, H_ref, rfl⟩ hE
set_option maxRecDepth 100000 in
theorem cx_of {X : XT} {E : EV} {ws : va_W} {lv : List (Nat × Value)} {rest : List Value} {kC nC : Nat} {hx hm : Nat} {tl : Nat} {ct : Nat → Int} {pe : Nat} {kn : Int32} {ac : Nat} {np : Nat} {kc : Nat} {mN : AM} {pV : Nat → AM} {kV : Nat → AM} {st : Nat → Nat} {sn : Nat → Nat} {sl : Nat → Nat} {scx : Nat → Nat → Int32} {tT : Nat → Option SVal} {ec : Nat → Nat} {er : Nat → Nat} {ed : Nat → Nat → Int32} {eT : Nat → Nat → Option SVal} {eb : Nat → Nat → Int32} {en : Nat → Nat → Int32} {q_undos : Nat} {q_models : Nat} {PGv : Nat → AM} {f_afterOf : Nat → Int32} {f_actMany : Nat → Int32} {f_actOf : Nat → Int32} {f_whom : Nat → Int32} {f_hasIf : Nat → Int32} {f_becomes : Nat → Int32} {f_goneOf : Nat → Int32} {q_taped : Nat} {cr : Nat → Int} {q_people : Nat} {f_secrets : Nat → Int32} {f_lanes : Nat → Int32} {f_lengths : Nat → Int32} {f_cells : Nat → Int32} {f_tokens : Nat → Int32} {f_afters : Nat → Int32} {f_caseMany : Nat → Int32} {f_happen : Nat → Int32} {f_heard : Nat → Int32} {v0 : Int32} {v1 : Int32} (C : CX X room_1 cL_law 4 RL ret E) (hW : Nat.ble (rest.map fun v => v.category).sum 8 = true) (hk : kC + 0 ≤ 600000 ∧ nC + 0 ≤ 7302250) (hS : ST E hx hm tl ct pe kn ac np kc mN pV kV st sn sl scx tT ec er ed eT eb en q_undos q_models PGv f_afterOf f_actMany f_actOf f_whom f_hasIf f_becomes f_goneOf q_taped cr q_people f_secrets f_lanes f_lengths f_cells f_tokens f_afters f_caseMany f_happen f_heard ws) (kont : ∀ (rr : Int32) (wsZ : va_W), ST E hx hm tl ct pe kn ac np kc mN pV kV st sn sl scx tT ec er ed eT eb en q_undos q_models PGv f_afterOf f_actMany f_actOf f_whom f_hasIf f_becomes f_goneOf q_taped cr q_people f_secrets f_lanes f_lengths f_cells f_tokens f_afters f_caseMany f_happen f_heard wsZ → (rr = ansOf mN v0 v1) → WW X 4 E 378 lv (.int rr :: rest) wsZ kC nC) : WW X 4 E 375 lv (.int v1 :: .int v0 :: .ref hx :: rest) ws kC nC := by
  unfold ST at hS
  refine ex8 hS ?_
  clear hS
  intro h qp qs qj ly qh kk rd hS
  refine ex8 hS ?_
  clear hS
  intro pg ss w_now w_past w_pars w_judg w_layr w_heap hS
  refine ex6 hS ?_
  clear hS
  intro w_kept w_rnds w_plnr w_shts wm ro hS
  refine an8 hS ?_
  clear hS
  intro hac hnp hkc hpe H_now H_past H_pars H_judg hS
  refine an7 hS ?_
  clear hS
  intro H_layr H_heap H_kept H_rnds H_plnr H_shts H_ref hS
  have we_st := hS
  clear hS
  subst we_st
  refine ww_perm (ws' := [(hx, .inr (11, [.ref h, .ref qp, .int (nI ac), .int (nI np), .ref qs, .ref qj, .ref ly, .ref qh, .ref kk, .int (nI kc), .ref rd, .ref pg, .int (nI pe), .int kn, .ref ss]))] ++ (w_now ++ (w_past ++ (w_pars ++ (w_judg ++ (w_layr ++ (w_heap ++ (w_kept ++ (w_rnds ++ (w_plnr ++ (w_shts ++ (wm ++ ro)))))))))))) (List.Perm.append_left _ (List.Perm.refl _)) ?_
  refine lx_of (ro := ro) (wT := (w_past ++ (w_pars ++ (w_judg ++ (w_layr ++ (w_heap ++ (w_kept ++ (w_rnds ++ (w_plnr ++ (w_shts ++ (wm ++ ro))))))))))) (pre := (w_past ++ (w_pars ++ (w_judg ++ (w_layr ++ (w_heap ++ (w_kept ++ (w_rnds ++ (w_plnr ++ (w_shts ++ wm)))))))))) C hW (by simp only [List.append_assoc]) hk hac hnp hkc hpe H_now (fun rr w_nowZ H_nowZ hE => ?_)
  refine ww_perm (ws' := [(hx, .inr (11, [.ref h, .ref qp, .int (nI ac), .int (nI np), .ref qs, .ref qj, .ref ly, .ref qh, .ref kk, .int (nI kc), .ref rd, .ref pg, .int (nI pe), .int kn, .ref ss]))] ++ (w_nowZ ++ (w_past ++ (w_pars ++ (w_judg ++ (w_layr ++ (w_heap ++ (w_kept ++ (w_rnds ++ (w_plnr ++ (w_shts ++ (wm ++ ro)))))))))))) (List.Perm.append_left _ (List.Perm.refl _)).symm ?_
  exact kont rr  _ ⟨h, qp, qs, qj, ly, qh, kk, rd, pg, ss, w_nowZ, w_past, w_pars, w_judg, w_layr, w_heap, w_kept, w_rnds, w_plnr, w_shts, wm, ro, hac, hnp, hkc, hpe, H_nowZ, H_past, H_pars, H_judg, H_layr, H_heap, H_kept, H_rnds, H_plnr, H_shts, H_ref, rfl⟩ hE
set_option maxRecDepth 100000 in
theorem cx_reach {X : XT} {E : EV} {ws : va_W} {lv : List (Nat × Value)} {rest : List Value} {kC nC : Nat} {hx hm : Nat} {tl : Nat} {ct : Nat → Int} {pe : Nat} {kn : Int32} {ac : Nat} {np : Nat} {kc : Nat} {mN : AM} {pV : Nat → AM} {kV : Nat → AM} {st : Nat → Nat} {sn : Nat → Nat} {sl : Nat → Nat} {scx : Nat → Nat → Int32} {tT : Nat → Option SVal} {ec : Nat → Nat} {er : Nat → Nat} {ed : Nat → Nat → Int32} {eT : Nat → Nat → Option SVal} {eb : Nat → Nat → Int32} {en : Nat → Nat → Int32} {q_undos : Nat} {q_models : Nat} {PGv : Nat → AM} {f_afterOf : Nat → Int32} {f_actMany : Nat → Int32} {f_actOf : Nat → Int32} {f_whom : Nat → Int32} {f_hasIf : Nat → Int32} {f_becomes : Nat → Int32} {f_goneOf : Nat → Int32} {q_taped : Nat} {cr : Nat → Int} {q_people : Nat} {f_secrets : Nat → Int32} {f_lanes : Nat → Int32} {f_lengths : Nat → Int32} {f_cells : Nat → Int32} {f_tokens : Nat → Int32} {f_afters : Nat → Int32} {f_caseMany : Nat → Int32} {f_happen : Nat → Int32} {f_heard : Nat → Int32} {v0 : Int32} {v1 : Int32} (C : CX X room_1 cL_law 4 RL ret E) (hW : Nat.ble (rest.map fun v => v.category).sum 8 = true) (hk : kC + 0 ≤ 600000 ∧ nC + 0 ≤ 7302250) (hS : ST E hx hm tl ct pe kn ac np kc mN pV kV st sn sl scx tT ec er ed eT eb en q_undos q_models PGv f_afterOf f_actMany f_actOf f_whom f_hasIf f_becomes f_goneOf q_taped cr q_people f_secrets f_lanes f_lengths f_cells f_tokens f_afters f_caseMany f_happen f_heard ws) (kont : ∀ (rr : Int32) (wsZ : va_W), ST E hx hm tl ct pe kn ac np kc mN pV kV st sn sl scx tT ec er ed eT eb en q_undos q_models PGv f_afterOf f_actMany f_actOf f_whom f_hasIf f_becomes f_goneOf q_taped cr q_people f_secrets f_lanes f_lengths f_cells f_tokens f_afters f_caseMany f_happen f_heard wsZ → (rr = ansReach mN v0 v1) → WW X 4 E 411 lv (.int rr :: rest) wsZ kC nC) : WW X 4 E 408 lv (.int v1 :: .int v0 :: .ref hx :: rest) ws kC nC := by
  unfold ST at hS
  refine ex8 hS ?_
  clear hS
  intro h qp qs qj ly qh kk rd hS
  refine ex8 hS ?_
  clear hS
  intro pg ss w_now w_past w_pars w_judg w_layr w_heap hS
  refine ex6 hS ?_
  clear hS
  intro w_kept w_rnds w_plnr w_shts wm ro hS
  refine an8 hS ?_
  clear hS
  intro hac hnp hkc hpe H_now H_past H_pars H_judg hS
  refine an7 hS ?_
  clear hS
  intro H_layr H_heap H_kept H_rnds H_plnr H_shts H_ref hS
  have we_st := hS
  clear hS
  subst we_st
  refine ww_perm (ws' := [(hx, .inr (11, [.ref h, .ref qp, .int (nI ac), .int (nI np), .ref qs, .ref qj, .ref ly, .ref qh, .ref kk, .int (nI kc), .ref rd, .ref pg, .int (nI pe), .int kn, .ref ss]))] ++ (w_now ++ (w_past ++ (w_pars ++ (w_judg ++ (w_layr ++ (w_heap ++ (w_kept ++ (w_rnds ++ (w_plnr ++ (w_shts ++ (wm ++ ro)))))))))))) (List.Perm.append_left _ (List.Perm.refl _)) ?_
  refine lx_reach (ro := ro) (wT := (w_past ++ (w_pars ++ (w_judg ++ (w_layr ++ (w_heap ++ (w_kept ++ (w_rnds ++ (w_plnr ++ (w_shts ++ (wm ++ ro))))))))))) (pre := (w_past ++ (w_pars ++ (w_judg ++ (w_layr ++ (w_heap ++ (w_kept ++ (w_rnds ++ (w_plnr ++ (w_shts ++ wm)))))))))) C hW (by simp only [List.append_assoc]) hk hac hnp hkc hpe H_now (fun rr w_nowZ H_nowZ hE => ?_)
  refine ww_perm (ws' := [(hx, .inr (11, [.ref h, .ref qp, .int (nI ac), .int (nI np), .ref qs, .ref qj, .ref ly, .ref qh, .ref kk, .int (nI kc), .ref rd, .ref pg, .int (nI pe), .int kn, .ref ss]))] ++ (w_nowZ ++ (w_past ++ (w_pars ++ (w_judg ++ (w_layr ++ (w_heap ++ (w_kept ++ (w_rnds ++ (w_plnr ++ (w_shts ++ (wm ++ ro)))))))))))) (List.Perm.append_left _ (List.Perm.refl _)).symm ?_
  exact kont rr  _ ⟨h, qp, qs, qj, ly, qh, kk, rd, pg, ss, w_nowZ, w_past, w_pars, w_judg, w_layr, w_heap, w_kept, w_rnds, w_plnr, w_shts, wm, ro, hac, hnp, hkc, hpe, H_nowZ, H_past, H_pars, H_judg, H_layr, H_heap, H_kept, H_rnds, H_plnr, H_shts, H_ref, rfl⟩ hE
set_option maxRecDepth 100000 in
theorem cx_feed {X : XT} {E : EV} {ws : va_W} {lv : List (Nat × Value)} {rest : List Value} {kC nC : Nat} {hx hm : Nat} {tl : Nat} {ct : Nat → Int} {pe : Nat} {kn : Int32} {ac : Nat} {np : Nat} {kc : Nat} {mN : AM} {pV : Nat → AM} {kV : Nat → AM} {st : Nat → Nat} {sn : Nat → Nat} {sl : Nat → Nat} {scx : Nat → Nat → Int32} {tT : Nat → Option SVal} {ec : Nat → Nat} {er : Nat → Nat} {ed : Nat → Nat → Int32} {eT : Nat → Nat → Option SVal} {eb : Nat → Nat → Int32} {en : Nat → Nat → Int32} {q_undos : Nat} {q_models : Nat} {PGv : Nat → AM} {f_afterOf : Nat → Int32} {f_actMany : Nat → Int32} {f_actOf : Nat → Int32} {f_whom : Nat → Int32} {f_hasIf : Nat → Int32} {f_becomes : Nat → Int32} {f_goneOf : Nat → Int32} {q_taped : Nat} {cr : Nat → Int} {q_people : Nat} {f_secrets : Nat → Int32} {f_lanes : Nat → Int32} {f_lengths : Nat → Int32} {f_cells : Nat → Int32} {f_tokens : Nat → Int32} {f_afters : Nat → Int32} {f_caseMany : Nat → Int32} {f_happen : Nat → Int32} {f_heard : Nat → Int32} {v0 : Int64} (C : CX X room_1 cL_law 4 RL ret E) (hW : Nat.ble (rest.map fun v => v.category).sum 8 = true) (hk : kC + 0 ≤ 600000 ∧ nC + 0 ≤ 7302250) (hS : ST E hx hm tl ct pe kn ac np kc mN pV kV st sn sl scx tT ec er ed eT eb en q_undos q_models PGv f_afterOf f_actMany f_actOf f_whom f_hasIf f_becomes f_goneOf q_taped cr q_people f_secrets f_lanes f_lengths f_cells f_tokens f_afters f_caseMany f_happen f_heard ws) (kont : ∀ (rr : Int32) (tlZ : Nat) (ctZ : Nat → Int) (wsZ : va_W), ST E hx hm tlZ ctZ pe kn ac np kc mN pV kV st sn sl scx tT ec er ed eT eb en q_undos q_models PGv f_afterOf f_actMany f_actOf f_whom f_hasIf f_becomes f_goneOf q_taped cr q_people f_secrets f_lanes f_lengths f_cells f_tokens f_afters f_caseMany f_happen f_heard wsZ → ((tl + 8 ≤ 160 ∧ tlZ = tl + 8 ∧ ctZ = czf ct tl v0 ∧ rr = nI (tl + 8)) ∨ (160 < tl + 8 ∧ tlZ = tl ∧ ctZ = ct ∧ rr = -3)) → WW X 4 E 454 lv (.int rr :: rest) wsZ kC nC) : WW X 4 E 451 lv (.long v0 :: .ref hx :: rest) ws kC nC := by
  unfold ST at hS
  refine ex8 hS ?_
  clear hS
  intro h qp qs qj ly qh kk rd hS
  refine ex8 hS ?_
  clear hS
  intro pg ss w_now w_past w_pars w_judg w_layr w_heap hS
  refine ex6 hS ?_
  clear hS
  intro w_kept w_rnds w_plnr w_shts wm ro hS
  refine an8 hS ?_
  clear hS
  intro hac hnp hkc hpe H_now H_past H_pars H_judg hS
  refine an7 hS ?_
  clear hS
  intro H_layr H_heap H_kept H_rnds H_plnr H_shts H_ref hS
  have we_st := hS
  clear hS
  subst we_st
  refine ww_perm (ws' := [(hx, .inr (11, [.ref h, .ref qp, .int (nI ac), .int (nI np), .ref qs, .ref qj, .ref ly, .ref qh, .ref kk, .int (nI kc), .ref rd, .ref pg, .int (nI pe), .int kn, .ref ss]))] ++ (w_pars ++ (w_now ++ (w_past ++ (w_judg ++ (w_layr ++ (w_heap ++ (w_kept ++ (w_rnds ++ (w_plnr ++ (w_shts ++ (wm ++ ro)))))))))))) (List.Perm.append_left _ ((List.Perm.append_left _ ((List.Perm.append_left _ (List.Perm.refl _)).trans (List.perm_append_comm_assoc _ _ _))).trans (List.perm_append_comm_assoc _ _ _))) ?_
  refine lx_feed (ro := ro) (wT := (w_now ++ (w_past ++ (w_judg ++ (w_layr ++ (w_heap ++ (w_kept ++ (w_rnds ++ (w_plnr ++ (w_shts ++ (wm ++ ro))))))))))) (pre := (w_now ++ (w_past ++ (w_judg ++ (w_layr ++ (w_heap ++ (w_kept ++ (w_rnds ++ (w_plnr ++ (w_shts ++ wm)))))))))) C hW (by simp only [List.append_assoc]) hk hac hnp hkc hpe H_pars (fun rr tlZ ctZ w_parsZ H_parsZ hE => ?_)
  refine ww_perm (ws' := [(hx, .inr (11, [.ref h, .ref qp, .int (nI ac), .int (nI np), .ref qs, .ref qj, .ref ly, .ref qh, .ref kk, .int (nI kc), .ref rd, .ref pg, .int (nI pe), .int kn, .ref ss]))] ++ (w_now ++ (w_past ++ (w_parsZ ++ (w_judg ++ (w_layr ++ (w_heap ++ (w_kept ++ (w_rnds ++ (w_plnr ++ (w_shts ++ (wm ++ ro)))))))))))) (List.Perm.append_left _ ((List.Perm.append_left _ ((List.Perm.append_left _ (List.Perm.refl _)).trans (List.perm_append_comm_assoc _ _ _))).trans (List.perm_append_comm_assoc _ _ _))).symm ?_
  exact kont rr tlZ ctZ _ ⟨h, qp, qs, qj, ly, qh, kk, rd, pg, ss, w_now, w_past, w_parsZ, w_judg, w_layr, w_heap, w_kept, w_rnds, w_plnr, w_shts, wm, ro, hac, hnp, hkc, hpe, H_now, H_past, H_parsZ, H_judg, H_layr, H_heap, H_kept, H_rnds, H_plnr, H_shts, H_ref, rfl⟩ hE
set_option maxRecDepth 100000 in
theorem cx_end {X : XT} {E : EV} {ws : va_W} {lv : List (Nat × Value)} {rest : List Value} {kC nC : Nat} {hx hm : Nat} {tl : Nat} {ct : Nat → Int} {pe : Nat} {kn : Int32} {ac : Nat} {np : Nat} {kc : Nat} {mN : AM} {pV : Nat → AM} {kV : Nat → AM} {st : Nat → Nat} {sn : Nat → Nat} {sl : Nat → Nat} {scx : Nat → Nat → Int32} {tT : Nat → Option SVal} {ec : Nat → Nat} {er : Nat → Nat} {ed : Nat → Nat → Int32} {eT : Nat → Nat → Option SVal} {eb : Nat → Nat → Int32} {en : Nat → Nat → Int32} {q_undos : Nat} {q_models : Nat} {PGv : Nat → AM} {f_afterOf : Nat → Int32} {f_actMany : Nat → Int32} {f_actOf : Nat → Int32} {f_whom : Nat → Int32} {f_hasIf : Nat → Int32} {f_becomes : Nat → Int32} {f_goneOf : Nat → Int32} {q_taped : Nat} {cr : Nat → Int} {q_people : Nat} {f_secrets : Nat → Int32} {f_lanes : Nat → Int32} {f_lengths : Nat → Int32} {f_cells : Nat → Int32} {f_tokens : Nat → Int32} {f_afters : Nat → Int32} {f_caseMany : Nat → Int32} {f_happen : Nat → Int32} {f_heard : Nat → Int32} {v0 : Int32} (C : CX X room_1 cL_law 4 RL ret E) (hW : Nat.ble (rest.map fun v => v.category).sum 8 = true) (hk : kC + 0 ≤ 600000 ∧ nC + 0 ≤ 7302250) (hS : ST E hx hm tl ct pe kn ac np kc mN pV kV st sn sl scx tT ec er ed eT eb en q_undos q_models PGv f_afterOf f_actMany f_actOf f_whom f_hasIf f_becomes f_goneOf q_taped cr q_people f_secrets f_lanes f_lengths f_cells f_tokens f_afters f_caseMany f_happen f_heard ws) (kont : ∀ (rr : Int32) (tlZ : Nat) (ctZ : Nat → Int) (wsZ : va_W), ST E hx hm tlZ ctZ pe kn ac np kc mN pV kV st sn sl scx tT ec er ed eT eb en q_undos q_models PGv f_afterOf f_actMany f_actOf f_whom f_hasIf f_becomes f_goneOf q_taped cr q_people f_secrets f_lanes f_lengths f_cells f_tokens f_afters f_caseMany f_happen f_heard wsZ → (((v0.toInt < 0 ∨ (tl : Int) < v0.toInt) ∧ tlZ = tl ∧ ctZ = ct ∧ rr = -1) ∨ (v0 = nI tlZ ∧ tlZ ≤ tl ∧ ctZ = cze ct tlZ ∧ rr = nI tl)) → WW X 4 E 492 lv (.int rr :: rest) wsZ kC nC) : WW X 4 E 489 lv (.int v0 :: .ref hx :: rest) ws kC nC := by
  unfold ST at hS
  refine ex8 hS ?_
  clear hS
  intro h qp qs qj ly qh kk rd hS
  refine ex8 hS ?_
  clear hS
  intro pg ss w_now w_past w_pars w_judg w_layr w_heap hS
  refine ex6 hS ?_
  clear hS
  intro w_kept w_rnds w_plnr w_shts wm ro hS
  refine an8 hS ?_
  clear hS
  intro hac hnp hkc hpe H_now H_past H_pars H_judg hS
  refine an7 hS ?_
  clear hS
  intro H_layr H_heap H_kept H_rnds H_plnr H_shts H_ref hS
  have we_st := hS
  clear hS
  subst we_st
  refine ww_perm (ws' := [(hx, .inr (11, [.ref h, .ref qp, .int (nI ac), .int (nI np), .ref qs, .ref qj, .ref ly, .ref qh, .ref kk, .int (nI kc), .ref rd, .ref pg, .int (nI pe), .int kn, .ref ss]))] ++ (w_pars ++ (w_now ++ (w_past ++ (w_judg ++ (w_layr ++ (w_heap ++ (w_kept ++ (w_rnds ++ (w_plnr ++ (w_shts ++ (wm ++ ro)))))))))))) (List.Perm.append_left _ ((List.Perm.append_left _ ((List.Perm.append_left _ (List.Perm.refl _)).trans (List.perm_append_comm_assoc _ _ _))).trans (List.perm_append_comm_assoc _ _ _))) ?_
  refine lx_end (ro := ro) (wT := (w_now ++ (w_past ++ (w_judg ++ (w_layr ++ (w_heap ++ (w_kept ++ (w_rnds ++ (w_plnr ++ (w_shts ++ (wm ++ ro))))))))))) (pre := (w_now ++ (w_past ++ (w_judg ++ (w_layr ++ (w_heap ++ (w_kept ++ (w_rnds ++ (w_plnr ++ (w_shts ++ wm)))))))))) C hW (by simp only [List.append_assoc]) hk hac hnp hkc hpe H_pars (fun rr tlZ ctZ w_parsZ H_parsZ hE => ?_)
  refine ww_perm (ws' := [(hx, .inr (11, [.ref h, .ref qp, .int (nI ac), .int (nI np), .ref qs, .ref qj, .ref ly, .ref qh, .ref kk, .int (nI kc), .ref rd, .ref pg, .int (nI pe), .int kn, .ref ss]))] ++ (w_now ++ (w_past ++ (w_parsZ ++ (w_judg ++ (w_layr ++ (w_heap ++ (w_kept ++ (w_rnds ++ (w_plnr ++ (w_shts ++ (wm ++ ro)))))))))))) (List.Perm.append_left _ ((List.Perm.append_left _ ((List.Perm.append_left _ (List.Perm.refl _)).trans (List.perm_append_comm_assoc _ _ _))).trans (List.perm_append_comm_assoc _ _ _))).symm ?_
  exact kont rr tlZ ctZ _ ⟨h, qp, qs, qj, ly, qh, kk, rd, pg, ss, w_now, w_past, w_parsZ, w_judg, w_layr, w_heap, w_kept, w_rnds, w_plnr, w_shts, wm, ro, hac, hnp, hkc, hpe, H_now, H_past, H_parsZ, H_judg, H_layr, H_heap, H_kept, H_rnds, H_plnr, H_shts, H_ref, rfl⟩ hE
set_option maxRecDepth 100000 in
theorem cx_say {X : XT} {E : EV} {ws : va_W} {lv : List (Nat × Value)} {rest : List Value} {kC nC : Nat} {hx hm : Nat} {tl : Nat} {ct : Nat → Int} {pe : Nat} {kn : Int32} {ac : Nat} {np : Nat} {kc : Nat} {mN : AM} {pV : Nat → AM} {kV : Nat → AM} {st : Nat → Nat} {sn : Nat → Nat} {sl : Nat → Nat} {scx : Nat → Nat → Int32} {tT : Nat → Option SVal} {ec : Nat → Nat} {er : Nat → Nat} {ed : Nat → Nat → Int32} {eT : Nat → Nat → Option SVal} {eb : Nat → Nat → Int32} {en : Nat → Nat → Int32} {q_undos : Nat} {q_models : Nat} {PGv : Nat → AM} {f_afterOf : Nat → Int32} {f_actMany : Nat → Int32} {f_actOf : Nat → Int32} {f_whom : Nat → Int32} {f_hasIf : Nat → Int32} {f_becomes : Nat → Int32} {f_goneOf : Nat → Int32} {q_taped : Nat} {cr : Nat → Int} {q_people : Nat} {f_secrets : Nat → Int32} {f_lanes : Nat → Int32} {f_lengths : Nat → Int32} {f_cells : Nat → Int32} {f_tokens : Nat → Int32} {f_afters : Nat → Int32} {f_caseMany : Nat → Int32} {f_happen : Nat → Int32} {f_heard : Nat → Int32} {v0 : Int32} (C : CX X room_1 cL_law 4 RL ret E) (hW : Nat.ble (rest.map fun v => v.category).sum 8 = true) (hk : kC + 4 ≤ 600000 ∧ nC + 73 ≤ 7302250) (hS : ST E hx hm tl ct pe kn ac np kc mN pV kV st sn sl scx tT ec er ed eT eb en q_undos q_models PGv f_afterOf f_actMany f_actOf f_whom f_hasIf f_becomes f_goneOf q_taped cr q_people f_secrets f_lanes f_lengths f_cells f_tokens f_afters f_caseMany f_happen f_heard ws) (kont : ∀ (rr : Int32) (tlZ : Nat) (ctZ : Nat → Int) (tTZ : Nat → Option SVal) (wsZ : va_W), ST E hx hm tlZ ctZ pe kn ac np kc mN pV kV st sn sl scx tTZ ec er ed eT eb en q_undos q_models PGv f_afterOf f_actMany f_actOf f_whom f_hasIf f_becomes f_goneOf q_taped cr q_people f_secrets f_lanes f_lengths f_cells f_tokens f_afters f_caseMany f_happen f_heard wsZ → (((v0.toInt < 0 ∨ 7 < v0.toInt) ∧ tlZ = tl ∧ ctZ = ct ∧ tTZ = tT ∧ rr = -1) ∨ (0 ≤ v0.toInt ∧ v0.toInt ≤ 7 ∧ tlZ = 0 ∧ ctZ = cze ct 0 ∧ ((∃ l, SBAD ct l ∧ rr = (-10 : Int32) - nI l ∧ tTZ = tT) ∨ ∃ jk p n v w K m S, v0 = nI jk ∧ jk ≤ 7 ∧ SOK ct p n v w K m ∧ rr = nI m ∧ tTZ = va_up tT jk (some S) ∧ sNa S = n ∧ S.1 = K ∧ (1 ≤ K ∧ K ≤ 32) ∧ OPX ct p K S.2.1 S.2.2.1 ∧ (0 < n → S.2.2.2.1 0 = nI v) ∧ (1 < n → S.2.2.2.1 1 = nI w) ∧ AFI n S.2.2.2.1 ∧ S.2.2.2.2.1 = m ∧ S.2.2.2.2.2.1 = nI (dPl S.1 S.2.1) ∧ S.2.2.2.2.2.2.1 = nPl S.2.1 S.2.2.1 S.1))) → WW X 4 E 515 lv (.int rr :: rest) wsZ (kC + 4) (nC + 73)) : WW X 4 E 512 lv (.int v0 :: .ref hx :: rest) ws kC nC := by
  unfold ST at hS
  refine ex8 hS ?_
  clear hS
  intro h qp qs qj ly qh kk rd hS
  refine ex8 hS ?_
  clear hS
  intro pg ss w_now w_past w_pars w_judg w_layr w_heap hS
  refine ex6 hS ?_
  clear hS
  intro w_kept w_rnds w_plnr w_shts wm ro hS
  refine an8 hS ?_
  clear hS
  intro hac hnp hkc hpe H_now H_past H_pars H_judg hS
  refine an7 hS ?_
  clear hS
  intro H_layr H_heap H_kept H_rnds H_plnr H_shts H_ref hS
  have we_st := hS
  clear hS
  subst we_st
  refine ww_perm (ws' := [(hx, .inr (11, [.ref h, .ref qp, .int (nI ac), .int (nI np), .ref qs, .ref qj, .ref ly, .ref qh, .ref kk, .int (nI kc), .ref rd, .ref pg, .int (nI pe), .int kn, .ref ss]))] ++ (w_pars ++ (w_judg ++ (w_now ++ (w_past ++ (w_layr ++ (w_heap ++ (w_kept ++ (w_rnds ++ (w_plnr ++ (w_shts ++ (wm ++ ro)))))))))))) (List.Perm.append_left _ (((List.Perm.append_left _ ((List.Perm.append_left _ (List.Perm.refl _)).trans (List.perm_append_comm_assoc _ _ _))).trans (List.perm_append_comm_assoc _ _ _)).trans (List.Perm.append_left _ ((List.Perm.append_left _ ((List.Perm.append_left _ (List.Perm.refl _)).trans (List.perm_append_comm_assoc _ _ _))).trans (List.perm_append_comm_assoc _ _ _))))) ?_
  refine lx_say (ro := ro) (wT := (w_now ++ (w_past ++ (w_layr ++ (w_heap ++ (w_kept ++ (w_rnds ++ (w_plnr ++ (w_shts ++ (wm ++ ro)))))))))) (pre := (w_now ++ (w_past ++ (w_layr ++ (w_heap ++ (w_kept ++ (w_rnds ++ (w_plnr ++ (w_shts ++ wm))))))))) C hW (by simp only [List.append_assoc]) hk hac hnp hkc hpe H_pars H_judg (fun rr tlZ ctZ tTZ w_parsZ w_judgZ roZ H_parsZ H_judgZ hro hE => ?_)
  refine ww_eq (ws' := [(hx, .inr (11, [.ref h, .ref qp, .int (nI ac), .int (nI np), .ref qs, .ref qj, .ref ly, .ref qh, .ref kk, .int (nI kc), .ref rd, .ref pg, .int (nI pe), .int kn, .ref ss]))] ++ (w_parsZ ++ (w_judgZ ++ (w_now ++ (w_past ++ (w_layr ++ (w_heap ++ (w_kept ++ (w_rnds ++ (w_plnr ++ (w_shts ++ (wm ++ roZ)))))))))))) ?_ rfl rfl (by simp only [List.append_assoc])
  refine ww_perm (ws' := [(hx, .inr (11, [.ref h, .ref qp, .int (nI ac), .int (nI np), .ref qs, .ref qj, .ref ly, .ref qh, .ref kk, .int (nI kc), .ref rd, .ref pg, .int (nI pe), .int kn, .ref ss]))] ++ (w_now ++ (w_past ++ (w_parsZ ++ (w_judgZ ++ (w_layr ++ (w_heap ++ (w_kept ++ (w_rnds ++ (w_plnr ++ (w_shts ++ (wm ++ roZ)))))))))))) (List.Perm.append_left _ (((List.Perm.append_left _ ((List.Perm.append_left _ (List.Perm.refl _)).trans (List.perm_append_comm_assoc _ _ _))).trans (List.perm_append_comm_assoc _ _ _)).trans (List.Perm.append_left _ ((List.Perm.append_left _ ((List.Perm.append_left _ (List.Perm.refl _)).trans (List.perm_append_comm_assoc _ _ _))).trans (List.perm_append_comm_assoc _ _ _))))).symm ?_
  exact kont rr tlZ ctZ tTZ _ ⟨h, qp, qs, qj, ly, qh, kk, rd, pg, ss, w_now, w_past, w_parsZ, w_judgZ, w_layr, w_heap, w_kept, w_rnds, w_plnr, w_shts, wm, roZ, hac, hnp, hkc, hpe, (ok_now_ro H_now), (ok_past_ro H_past), H_parsZ, H_judgZ, (ok_layr_ro H_layr), (ok_heap_ro H_heap), (ok_kept_ro H_kept), (ok_rnds_ro H_rnds), (ok_plnr_ro H_plnr), (ok_shts_ro H_shts), H_ref, rfl⟩ hE
set_option maxRecDepth 100000 in
theorem cx_fault {X : XT} {E : EV} {ws : va_W} {lv : List (Nat × Value)} {rest : List Value} {kC nC : Nat} {hx hm : Nat} {tl : Nat} {ct : Nat → Int} {pe : Nat} {kn : Int32} {ac : Nat} {np : Nat} {kc : Nat} {mN : AM} {pV : Nat → AM} {kV : Nat → AM} {st : Nat → Nat} {sn : Nat → Nat} {sl : Nat → Nat} {scx : Nat → Nat → Int32} {tT : Nat → Option SVal} {ec : Nat → Nat} {er : Nat → Nat} {ed : Nat → Nat → Int32} {eT : Nat → Nat → Option SVal} {eb : Nat → Nat → Int32} {en : Nat → Nat → Int32} {q_undos : Nat} {q_models : Nat} {PGv : Nat → AM} {f_afterOf : Nat → Int32} {f_actMany : Nat → Int32} {f_actOf : Nat → Int32} {f_whom : Nat → Int32} {f_hasIf : Nat → Int32} {f_becomes : Nat → Int32} {f_goneOf : Nat → Int32} {q_taped : Nat} {cr : Nat → Int} {q_people : Nat} {f_secrets : Nat → Int32} {f_lanes : Nat → Int32} {f_lengths : Nat → Int32} {f_cells : Nat → Int32} {f_tokens : Nat → Int32} {f_afters : Nat → Int32} {f_caseMany : Nat → Int32} {f_happen : Nat → Int32} {f_heard : Nat → Int32}  (C : CX X room_1 cL_law 4 RL ret E) (hW : Nat.ble (rest.map fun v => v.category).sum 8 = true) (hk : kC + 0 ≤ 600000 ∧ nC + 0 ≤ 7302250) (hS : ST E hx hm tl ct pe kn ac np kc mN pV kV st sn sl scx tT ec er ed eT eb en q_undos q_models PGv f_afterOf f_actMany f_actOf f_whom f_hasIf f_becomes f_goneOf q_taped cr q_people f_secrets f_lanes f_lengths f_cells f_tokens f_afters f_caseMany f_happen f_heard ws) (kont : ∀ (rr : Int32) (wsZ : va_W), ST E hx hm tl ct pe kn ac np kc mN pV kV st sn sl scx tT ec er ed eT eb en q_undos q_models PGv f_afterOf f_actMany f_actOf f_whom f_hasIf f_becomes f_goneOf q_taped cr q_people f_secrets f_lanes f_lengths f_cells f_tokens f_afters f_caseMany f_happen f_heard wsZ → (True) → WW X 4 E 533 lv (.int rr :: rest) wsZ kC nC) : WW X 4 E 530 lv (.ref hx :: rest) ws kC nC := by
  unfold ST at hS
  refine ex8 hS ?_
  clear hS
  intro h qp qs qj ly qh kk rd hS
  refine ex8 hS ?_
  clear hS
  intro pg ss w_now w_past w_pars w_judg w_layr w_heap hS
  refine ex6 hS ?_
  clear hS
  intro w_kept w_rnds w_plnr w_shts wm ro hS
  refine an8 hS ?_
  clear hS
  intro hac hnp hkc hpe H_now H_past H_pars H_judg hS
  refine an7 hS ?_
  clear hS
  intro H_layr H_heap H_kept H_rnds H_plnr H_shts H_ref hS
  have we_st := hS
  clear hS
  subst we_st
  refine ww_perm (ws' := [(hx, .inr (11, [.ref h, .ref qp, .int (nI ac), .int (nI np), .ref qs, .ref qj, .ref ly, .ref qh, .ref kk, .int (nI kc), .ref rd, .ref pg, .int (nI pe), .int kn, .ref ss]))] ++ (w_pars ++ (w_now ++ (w_past ++ (w_judg ++ (w_layr ++ (w_heap ++ (w_kept ++ (w_rnds ++ (w_plnr ++ (w_shts ++ (wm ++ ro)))))))))))) (List.Perm.append_left _ ((List.Perm.append_left _ ((List.Perm.append_left _ (List.Perm.refl _)).trans (List.perm_append_comm_assoc _ _ _))).trans (List.perm_append_comm_assoc _ _ _))) ?_
  refine lx_fault (ro := ro) (wT := (w_now ++ (w_past ++ (w_judg ++ (w_layr ++ (w_heap ++ (w_kept ++ (w_rnds ++ (w_plnr ++ (w_shts ++ (wm ++ ro))))))))))) (pre := (w_now ++ (w_past ++ (w_judg ++ (w_layr ++ (w_heap ++ (w_kept ++ (w_rnds ++ (w_plnr ++ (w_shts ++ wm)))))))))) C hW (by simp only [List.append_assoc]) hk hac hnp hkc hpe H_pars (fun rr w_parsZ H_parsZ hE => ?_)
  refine ww_perm (ws' := [(hx, .inr (11, [.ref h, .ref qp, .int (nI ac), .int (nI np), .ref qs, .ref qj, .ref ly, .ref qh, .ref kk, .int (nI kc), .ref rd, .ref pg, .int (nI pe), .int kn, .ref ss]))] ++ (w_now ++ (w_past ++ (w_parsZ ++ (w_judg ++ (w_layr ++ (w_heap ++ (w_kept ++ (w_rnds ++ (w_plnr ++ (w_shts ++ (wm ++ ro)))))))))))) (List.Perm.append_left _ ((List.Perm.append_left _ ((List.Perm.append_left _ (List.Perm.refl _)).trans (List.perm_append_comm_assoc _ _ _))).trans (List.perm_append_comm_assoc _ _ _))).symm ?_
  exact kont rr  _ ⟨h, qp, qs, qj, ly, qh, kk, rd, pg, ss, w_now, w_past, w_parsZ, w_judg, w_layr, w_heap, w_kept, w_rnds, w_plnr, w_shts, wm, ro, hac, hnp, hkc, hpe, H_now, H_past, H_parsZ, H_judg, H_layr, H_heap, H_kept, H_rnds, H_plnr, H_shts, H_ref, rfl⟩ hE
set_option maxRecDepth 100000 in
theorem cx_saying {X : XT} {E : EV} {ws : va_W} {lv : List (Nat × Value)} {rest : List Value} {kC nC : Nat} {hx hm : Nat} {tl : Nat} {ct : Nat → Int} {pe : Nat} {kn : Int32} {ac : Nat} {np : Nat} {kc : Nat} {mN : AM} {pV : Nat → AM} {kV : Nat → AM} {st : Nat → Nat} {sn : Nat → Nat} {sl : Nat → Nat} {scx : Nat → Nat → Int32} {tT : Nat → Option SVal} {ec : Nat → Nat} {er : Nat → Nat} {ed : Nat → Nat → Int32} {eT : Nat → Nat → Option SVal} {eb : Nat → Nat → Int32} {en : Nat → Nat → Int32} {q_undos : Nat} {q_models : Nat} {PGv : Nat → AM} {f_afterOf : Nat → Int32} {f_actMany : Nat → Int32} {f_actOf : Nat → Int32} {f_whom : Nat → Int32} {f_hasIf : Nat → Int32} {f_becomes : Nat → Int32} {f_goneOf : Nat → Int32} {q_taped : Nat} {cr : Nat → Int} {q_people : Nat} {f_secrets : Nat → Int32} {f_lanes : Nat → Int32} {f_lengths : Nat → Int32} {f_cells : Nat → Int32} {f_tokens : Nat → Int32} {f_afters : Nat → Int32} {f_caseMany : Nat → Int32} {f_happen : Nat → Int32} {f_heard : Nat → Int32} {v0 : Int32} {v1 : Int32} (C : CX X room_1 cL_law 4 RL ret E) (hW : Nat.ble (rest.map fun v => v.category).sum 8 = true) (hk : kC + 0 ≤ 600000 ∧ nC + 0 ≤ 7302250) (hS : ST E hx hm tl ct pe kn ac np kc mN pV kV st sn sl scx tT ec er ed eT eb en q_undos q_models PGv f_afterOf f_actMany f_actOf f_whom f_hasIf f_becomes f_goneOf q_taped cr q_people f_secrets f_lanes f_lengths f_cells f_tokens f_afters f_caseMany f_happen f_heard ws) (kont : ∀ (rr : Int32) (wsZ : va_W), ST E hx hm tl ct pe kn ac np kc mN pV kV st sn sl scx tT ec er ed eT eb en q_undos q_models PGv f_afterOf f_actMany f_actOf f_whom f_hasIf f_becomes f_goneOf q_taped cr q_people f_secrets f_lanes f_lengths f_cells f_tokens f_afters f_caseMany f_happen f_heard wsZ → (rr = ansSy (sy4T tT) v0 v1) → WW X 4 E 556 lv (.int rr :: rest) wsZ kC nC) : WW X 4 E 553 lv (.int v1 :: .int v0 :: .ref hx :: rest) ws kC nC := by
  unfold ST at hS
  refine ex8 hS ?_
  clear hS
  intro h qp qs qj ly qh kk rd hS
  refine ex8 hS ?_
  clear hS
  intro pg ss w_now w_past w_pars w_judg w_layr w_heap hS
  refine ex6 hS ?_
  clear hS
  intro w_kept w_rnds w_plnr w_shts wm ro hS
  refine an8 hS ?_
  clear hS
  intro hac hnp hkc hpe H_now H_past H_pars H_judg hS
  refine an7 hS ?_
  clear hS
  intro H_layr H_heap H_kept H_rnds H_plnr H_shts H_ref hS
  have we_st := hS
  clear hS
  subst we_st
  refine ww_perm (ws' := [(hx, .inr (11, [.ref h, .ref qp, .int (nI ac), .int (nI np), .ref qs, .ref qj, .ref ly, .ref qh, .ref kk, .int (nI kc), .ref rd, .ref pg, .int (nI pe), .int kn, .ref ss]))] ++ (w_judg ++ (w_now ++ (w_past ++ (w_pars ++ (w_layr ++ (w_heap ++ (w_kept ++ (w_rnds ++ (w_plnr ++ (w_shts ++ (wm ++ ro)))))))))))) (List.Perm.append_left _ ((List.Perm.append_left _ ((List.Perm.append_left _ ((List.Perm.append_left _ (List.Perm.refl _)).trans (List.perm_append_comm_assoc _ _ _))).trans (List.perm_append_comm_assoc _ _ _))).trans (List.perm_append_comm_assoc _ _ _))) ?_
  refine lx_saying (ro := ro) (wT := (w_now ++ (w_past ++ (w_pars ++ (w_layr ++ (w_heap ++ (w_kept ++ (w_rnds ++ (w_plnr ++ (w_shts ++ (wm ++ ro))))))))))) (pre := (w_now ++ (w_past ++ (w_pars ++ (w_layr ++ (w_heap ++ (w_kept ++ (w_rnds ++ (w_plnr ++ (w_shts ++ wm)))))))))) C hW (by simp only [List.append_assoc]) hk hac hnp hkc hpe H_judg (fun rr w_judgZ H_judgZ hE => ?_)
  refine ww_perm (ws' := [(hx, .inr (11, [.ref h, .ref qp, .int (nI ac), .int (nI np), .ref qs, .ref qj, .ref ly, .ref qh, .ref kk, .int (nI kc), .ref rd, .ref pg, .int (nI pe), .int kn, .ref ss]))] ++ (w_now ++ (w_past ++ (w_pars ++ (w_judgZ ++ (w_layr ++ (w_heap ++ (w_kept ++ (w_rnds ++ (w_plnr ++ (w_shts ++ (wm ++ ro)))))))))))) (List.Perm.append_left _ ((List.Perm.append_left _ ((List.Perm.append_left _ ((List.Perm.append_left _ (List.Perm.refl _)).trans (List.perm_append_comm_assoc _ _ _))).trans (List.perm_append_comm_assoc _ _ _))).trans (List.perm_append_comm_assoc _ _ _))).symm ?_
  exact kont rr  _ ⟨h, qp, qs, qj, ly, qh, kk, rd, pg, ss, w_now, w_past, w_pars, w_judgZ, w_layr, w_heap, w_kept, w_rnds, w_plnr, w_shts, wm, ro, hac, hnp, hkc, hpe, H_now, H_past, H_pars, H_judgZ, H_layr, H_heap, H_kept, H_rnds, H_plnr, H_shts, H_ref, rfl⟩ hE
set_option maxRecDepth 100000 in
theorem cx_truth {X : XT} {E : EV} {ws : va_W} {lv : List (Nat × Value)} {rest : List Value} {kC nC : Nat} {hx hm : Nat} {tl : Nat} {ct : Nat → Int} {pe : Nat} {kn : Int32} {ac : Nat} {np : Nat} {kc : Nat} {mN : AM} {pV : Nat → AM} {kV : Nat → AM} {st : Nat → Nat} {sn : Nat → Nat} {sl : Nat → Nat} {scx : Nat → Nat → Int32} {tT : Nat → Option SVal} {ec : Nat → Nat} {er : Nat → Nat} {ed : Nat → Nat → Int32} {eT : Nat → Nat → Option SVal} {eb : Nat → Nat → Int32} {en : Nat → Nat → Int32} {q_undos : Nat} {q_models : Nat} {PGv : Nat → AM} {f_afterOf : Nat → Int32} {f_actMany : Nat → Int32} {f_actOf : Nat → Int32} {f_whom : Nat → Int32} {f_hasIf : Nat → Int32} {f_becomes : Nat → Int32} {f_goneOf : Nat → Int32} {q_taped : Nat} {cr : Nat → Int} {q_people : Nat} {f_secrets : Nat → Int32} {f_lanes : Nat → Int32} {f_lengths : Nat → Int32} {f_cells : Nat → Int32} {f_tokens : Nat → Int32} {f_afters : Nat → Int32} {f_caseMany : Nat → Int32} {f_happen : Nat → Int32} {f_heard : Nat → Int32} {v0 : Int32} (C : CX X room_1 cL_law 4 RL ret E) (hW : Nat.ble (rest.map fun v => v.category).sum 8 = true) (hk : kC + 0 ≤ 600000 ∧ nC + 0 ≤ 7302250) (hS : ST E hx hm tl ct pe kn ac np kc mN pV kV st sn sl scx tT ec er ed eT eb en q_undos q_models PGv f_afterOf f_actMany f_actOf f_whom f_hasIf f_becomes f_goneOf q_taped cr q_people f_secrets f_lanes f_lengths f_cells f_tokens f_afters f_caseMany f_happen f_heard ws) (kont : ∀ (rr : Int32) (wsZ : va_W), ST E hx hm tl ct pe kn ac np kc mN pV kV st sn sl scx tT ec er ed eT eb en q_undos q_models PGv f_afterOf f_actMany f_actOf f_whom f_hasIf f_becomes f_goneOf q_taped cr q_people f_secrets f_lanes f_lengths f_cells f_tokens f_afters f_caseMany f_happen f_heard wsZ → (rr = ansTruth mN (ev6 ec er eT eb en ed) tT v0) → WW X 4 E 584 lv (.int rr :: rest) wsZ kC nC) : WW X 4 E 581 lv (.int v0 :: .ref hx :: rest) ws kC nC := by
  unfold ST at hS
  refine ex8 hS ?_
  clear hS
  intro h qp qs qj ly qh kk rd hS
  refine ex8 hS ?_
  clear hS
  intro pg ss w_now w_past w_pars w_judg w_layr w_heap hS
  refine ex6 hS ?_
  clear hS
  intro w_kept w_rnds w_plnr w_shts wm ro hS
  refine an8 hS ?_
  clear hS
  intro hac hnp hkc hpe H_now H_past H_pars H_judg hS
  refine an7 hS ?_
  clear hS
  intro H_layr H_heap H_kept H_rnds H_plnr H_shts H_ref hS
  have we_st := hS
  clear hS
  subst we_st
  refine ww_perm (ws' := [(hx, .inr (11, [.ref h, .ref qp, .int (nI ac), .int (nI np), .ref qs, .ref qj, .ref ly, .ref qh, .ref kk, .int (nI kc), .ref rd, .ref pg, .int (nI pe), .int kn, .ref ss]))] ++ (w_now ++ (w_judg ++ (w_past ++ (w_pars ++ (w_layr ++ (w_heap ++ (w_kept ++ (w_rnds ++ (w_plnr ++ (w_shts ++ (wm ++ ro)))))))))))) (List.Perm.append_left _ ((List.Perm.refl _).trans (List.Perm.append_left _ ((List.Perm.append_left _ ((List.Perm.append_left _ (List.Perm.refl _)).trans (List.perm_append_comm_assoc _ _ _))).trans (List.perm_append_comm_assoc _ _ _))))) ?_
  refine lx_truth (ro := ro) (wT := (w_past ++ (w_pars ++ (w_layr ++ (w_heap ++ (w_kept ++ (w_rnds ++ (w_plnr ++ (w_shts ++ (wm ++ ro)))))))))) (pre := (w_past ++ (w_pars ++ (w_layr ++ (w_heap ++ (w_kept ++ (w_rnds ++ (w_plnr ++ (w_shts ++ wm))))))))) C hW (by simp only [List.append_assoc]) hk hac hnp hkc hpe H_now H_judg (fun rr w_nowZ w_judgZ H_nowZ H_judgZ hE => ?_)
  refine ww_perm (ws' := [(hx, .inr (11, [.ref h, .ref qp, .int (nI ac), .int (nI np), .ref qs, .ref qj, .ref ly, .ref qh, .ref kk, .int (nI kc), .ref rd, .ref pg, .int (nI pe), .int kn, .ref ss]))] ++ (w_nowZ ++ (w_past ++ (w_pars ++ (w_judgZ ++ (w_layr ++ (w_heap ++ (w_kept ++ (w_rnds ++ (w_plnr ++ (w_shts ++ (wm ++ ro)))))))))))) (List.Perm.append_left _ ((List.Perm.refl _).trans (List.Perm.append_left _ ((List.Perm.append_left _ ((List.Perm.append_left _ (List.Perm.refl _)).trans (List.perm_append_comm_assoc _ _ _))).trans (List.perm_append_comm_assoc _ _ _))))).symm ?_
  exact kont rr  _ ⟨h, qp, qs, qj, ly, qh, kk, rd, pg, ss, w_nowZ, w_past, w_pars, w_judgZ, w_layr, w_heap, w_kept, w_rnds, w_plnr, w_shts, wm, ro, hac, hnp, hkc, hpe, H_nowZ, H_past, H_pars, H_judgZ, H_layr, H_heap, H_kept, H_rnds, H_plnr, H_shts, H_ref, rfl⟩ hE
set_option maxRecDepth 100000 in
theorem cx_holds {X : XT} {E : EV} {ws : va_W} {lv : List (Nat × Value)} {rest : List Value} {kC nC : Nat} {hx hm : Nat} {tl : Nat} {ct : Nat → Int} {pe : Nat} {kn : Int32} {ac : Nat} {np : Nat} {kc : Nat} {mN : AM} {pV : Nat → AM} {kV : Nat → AM} {st : Nat → Nat} {sn : Nat → Nat} {sl : Nat → Nat} {scx : Nat → Nat → Int32} {tT : Nat → Option SVal} {ec : Nat → Nat} {er : Nat → Nat} {ed : Nat → Nat → Int32} {eT : Nat → Nat → Option SVal} {eb : Nat → Nat → Int32} {en : Nat → Nat → Int32} {q_undos : Nat} {q_models : Nat} {PGv : Nat → AM} {f_afterOf : Nat → Int32} {f_actMany : Nat → Int32} {f_actOf : Nat → Int32} {f_whom : Nat → Int32} {f_hasIf : Nat → Int32} {f_becomes : Nat → Int32} {f_goneOf : Nat → Int32} {q_taped : Nat} {cr : Nat → Int} {q_people : Nat} {f_secrets : Nat → Int32} {f_lanes : Nat → Int32} {f_lengths : Nat → Int32} {f_cells : Nat → Int32} {f_tokens : Nat → Int32} {f_afters : Nat → Int32} {f_caseMany : Nat → Int32} {f_happen : Nat → Int32} {f_heard : Nat → Int32} {v0 : Int32} (C : CX X room_1 cL_law 4 RL ret E) (hW : Nat.ble (rest.map fun v => v.category).sum 8 = true) (hk : kC + 0 ≤ 600000 ∧ nC + 0 ≤ 7302250) (hS : ST E hx hm tl ct pe kn ac np kc mN pV kV st sn sl scx tT ec er ed eT eb en q_undos q_models PGv f_afterOf f_actMany f_actOf f_whom f_hasIf f_becomes f_goneOf q_taped cr q_people f_secrets f_lanes f_lengths f_cells f_tokens f_afters f_caseMany f_happen f_heard ws) (kont : ∀ (rr : Int32) (wsZ : va_W), ST E hx hm tl ct pe kn ac np kc mN pV kV st sn sl scx tT ec er ed eT eb en q_undos q_models PGv f_afterOf f_actMany f_actOf f_whom f_hasIf f_becomes f_goneOf q_taped cr q_people f_secrets f_lanes f_lengths f_cells f_tokens f_afters f_caseMany f_happen f_heard wsZ → (rr = ansHolds mN (ev6 ec er eT eb en ed) tT v0) → WW X 4 E 607 lv (.int rr :: rest) wsZ kC nC) : WW X 4 E 604 lv (.int v0 :: .ref hx :: rest) ws kC nC := by
  unfold ST at hS
  refine ex8 hS ?_
  clear hS
  intro h qp qs qj ly qh kk rd hS
  refine ex8 hS ?_
  clear hS
  intro pg ss w_now w_past w_pars w_judg w_layr w_heap hS
  refine ex6 hS ?_
  clear hS
  intro w_kept w_rnds w_plnr w_shts wm ro hS
  refine an8 hS ?_
  clear hS
  intro hac hnp hkc hpe H_now H_past H_pars H_judg hS
  refine an7 hS ?_
  clear hS
  intro H_layr H_heap H_kept H_rnds H_plnr H_shts H_ref hS
  have we_st := hS
  clear hS
  subst we_st
  refine ww_perm (ws' := [(hx, .inr (11, [.ref h, .ref qp, .int (nI ac), .int (nI np), .ref qs, .ref qj, .ref ly, .ref qh, .ref kk, .int (nI kc), .ref rd, .ref pg, .int (nI pe), .int kn, .ref ss]))] ++ (w_now ++ (w_judg ++ (w_past ++ (w_pars ++ (w_layr ++ (w_heap ++ (w_kept ++ (w_rnds ++ (w_plnr ++ (w_shts ++ (wm ++ ro)))))))))))) (List.Perm.append_left _ ((List.Perm.refl _).trans (List.Perm.append_left _ ((List.Perm.append_left _ ((List.Perm.append_left _ (List.Perm.refl _)).trans (List.perm_append_comm_assoc _ _ _))).trans (List.perm_append_comm_assoc _ _ _))))) ?_
  refine lx_holds (ro := ro) (wT := (w_past ++ (w_pars ++ (w_layr ++ (w_heap ++ (w_kept ++ (w_rnds ++ (w_plnr ++ (w_shts ++ (wm ++ ro)))))))))) (pre := (w_past ++ (w_pars ++ (w_layr ++ (w_heap ++ (w_kept ++ (w_rnds ++ (w_plnr ++ (w_shts ++ wm))))))))) C hW (by simp only [List.append_assoc]) hk hac hnp hkc hpe H_now H_judg (fun rr w_nowZ w_judgZ H_nowZ H_judgZ hE => ?_)
  refine ww_perm (ws' := [(hx, .inr (11, [.ref h, .ref qp, .int (nI ac), .int (nI np), .ref qs, .ref qj, .ref ly, .ref qh, .ref kk, .int (nI kc), .ref rd, .ref pg, .int (nI pe), .int kn, .ref ss]))] ++ (w_nowZ ++ (w_past ++ (w_pars ++ (w_judgZ ++ (w_layr ++ (w_heap ++ (w_kept ++ (w_rnds ++ (w_plnr ++ (w_shts ++ (wm ++ ro)))))))))))) (List.Perm.append_left _ ((List.Perm.refl _).trans (List.Perm.append_left _ ((List.Perm.append_left _ ((List.Perm.append_left _ (List.Perm.refl _)).trans (List.perm_append_comm_assoc _ _ _))).trans (List.perm_append_comm_assoc _ _ _))))).symm ?_
  exact kont rr  _ ⟨h, qp, qs, qj, ly, qh, kk, rd, pg, ss, w_nowZ, w_past, w_pars, w_judgZ, w_layr, w_heap, w_kept, w_rnds, w_plnr, w_shts, wm, ro, hac, hnp, hkc, hpe, H_nowZ, H_past, H_pars, H_judgZ, H_layr, H_heap, H_kept, H_rnds, H_plnr, H_shts, H_ref, rfl⟩ hE
set_option maxRecDepth 100000 in
theorem cx_event {X : XT} {E : EV} {ws : va_W} {lv : List (Nat × Value)} {rest : List Value} {kC nC : Nat} {hx hm : Nat} {tl : Nat} {ct : Nat → Int} {pe : Nat} {kn : Int32} {ac : Nat} {np : Nat} {kc : Nat} {mN : AM} {pV : Nat → AM} {kV : Nat → AM} {st : Nat → Nat} {sn : Nat → Nat} {sl : Nat → Nat} {scx : Nat → Nat → Int32} {tT : Nat → Option SVal} {ec : Nat → Nat} {er : Nat → Nat} {ed : Nat → Nat → Int32} {eT : Nat → Nat → Option SVal} {eb : Nat → Nat → Int32} {en : Nat → Nat → Int32} {q_undos : Nat} {q_models : Nat} {PGv : Nat → AM} {f_afterOf : Nat → Int32} {f_actMany : Nat → Int32} {f_actOf : Nat → Int32} {f_whom : Nat → Int32} {f_hasIf : Nat → Int32} {f_becomes : Nat → Int32} {f_goneOf : Nat → Int32} {q_taped : Nat} {cr : Nat → Int} {q_people : Nat} {f_secrets : Nat → Int32} {f_lanes : Nat → Int32} {f_lengths : Nat → Int32} {f_cells : Nat → Int32} {f_tokens : Nat → Int32} {f_afters : Nat → Int32} {f_caseMany : Nat → Int32} {f_happen : Nat → Int32} {f_heard : Nat → Int32} {v0 : Int32} {v1 : Int32} (C : CX X room_1 cL_law 4 RL ret E) (hW : Nat.ble (rest.map fun v => v.category).sum 8 = true) (hk : kC + 0 ≤ 600000 ∧ nC + 0 ≤ 7302250) (hS : ST E hx hm tl ct pe kn ac np kc mN pV kV st sn sl scx tT ec er ed eT eb en q_undos q_models PGv f_afterOf f_actMany f_actOf f_whom f_hasIf f_becomes f_goneOf q_taped cr q_people f_secrets f_lanes f_lengths f_cells f_tokens f_afters f_caseMany f_happen f_heard ws) (kont : ∀ (rr : Int32) (ecZ : Nat → Nat) (erZ : Nat → Nat) (edZ : Nat → Nat → Int32) (eTZ : Nat → Nat → Option SVal) (ebZ : Nat → Nat → Int32) (enZ : Nat → Nat → Int32) (wsZ : va_W), ST E hx hm tl ct pe kn ac np kc mN pV kV st sn sl scx tT ecZ erZ edZ eTZ ebZ enZ q_undos q_models PGv f_afterOf f_actMany f_actOf f_whom f_hasIf f_becomes f_goneOf q_taped cr q_people f_secrets f_lanes f_lengths f_cells f_tokens f_afters f_caseMany f_happen f_heard wsZ → (((v0.toInt < 0 ∨ 3 < v0.toInt ∨ v1.toInt < 1 ∨ 4 < v1.toInt) ∧ rr = -1 ∧ ecZ = ec ∧ erZ = er ∧ edZ = ed ∧ eTZ = eT ∧ ebZ = eb ∧ enZ = en) ∨ ∃ k_ n_ : Nat, v0 = nI k_ ∧ v1 = nI n_ ∧ k_ ≤ 3 ∧ (1 ≤ n_ ∧ n_ ≤ 4) ∧ (∀ i, i < 4 → ecZ i = if i = k_ then n_ else ec i) ∧ (∀ i, i < 4 → erZ i = if i = k_ then 0 else er i) ∧ (∀ i, i < 4 → i ≠ k_ → edZ i = ed i) ∧ Z0x 16 (edZ k_) ∧ rr = 1 ∧ (∀ i, i < 4 → i ≠ k_ → eTZ i = eT i) ∧ (∀ i, i < 4 → i ≠ k_ → ebZ i = eb i) ∧ (∀ i, i < 4 → i ≠ k_ → enZ i = en i) ∧ (∀ z, z < 4 → ebZ k_ z = 0 ∧ enZ k_ z = 0) ∧ ∀ z, z < 4 → eTZ k_ z = none) → WW X 4 E 635 lv (.int rr :: rest) wsZ kC nC) : WW X 4 E 632 lv (.int v1 :: .int v0 :: .ref hx :: rest) ws kC nC := by
  unfold ST at hS
  refine ex8 hS ?_
  clear hS
  intro h qp qs qj ly qh kk rd hS
  refine ex8 hS ?_
  clear hS
  intro pg ss w_now w_past w_pars w_judg w_layr w_heap hS
  refine ex6 hS ?_
  clear hS
  intro w_kept w_rnds w_plnr w_shts wm ro hS
  refine an8 hS ?_
  clear hS
  intro hac hnp hkc hpe H_now H_past H_pars H_judg hS
  refine an7 hS ?_
  clear hS
  intro H_layr H_heap H_kept H_rnds H_plnr H_shts H_ref hS
  have we_st := hS
  clear hS
  subst we_st
  refine ww_perm (ws' := [(hx, .inr (11, [.ref h, .ref qp, .int (nI ac), .int (nI np), .ref qs, .ref qj, .ref ly, .ref qh, .ref kk, .int (nI kc), .ref rd, .ref pg, .int (nI pe), .int kn, .ref ss]))] ++ (w_judg ++ (w_now ++ (w_past ++ (w_pars ++ (w_layr ++ (w_heap ++ (w_kept ++ (w_rnds ++ (w_plnr ++ (w_shts ++ (wm ++ ro)))))))))))) (List.Perm.append_left _ ((List.Perm.append_left _ ((List.Perm.append_left _ ((List.Perm.append_left _ (List.Perm.refl _)).trans (List.perm_append_comm_assoc _ _ _))).trans (List.perm_append_comm_assoc _ _ _))).trans (List.perm_append_comm_assoc _ _ _))) ?_
  refine lx_event (ro := ro) (wT := (w_now ++ (w_past ++ (w_pars ++ (w_layr ++ (w_heap ++ (w_kept ++ (w_rnds ++ (w_plnr ++ (w_shts ++ (wm ++ ro))))))))))) (pre := (w_now ++ (w_past ++ (w_pars ++ (w_layr ++ (w_heap ++ (w_kept ++ (w_rnds ++ (w_plnr ++ (w_shts ++ wm)))))))))) C hW (by simp only [List.append_assoc]) hk hac hnp hkc hpe H_judg (fun rr ecZ erZ edZ eTZ ebZ enZ w_judgZ H_judgZ hE => ?_)
  refine ww_perm (ws' := [(hx, .inr (11, [.ref h, .ref qp, .int (nI ac), .int (nI np), .ref qs, .ref qj, .ref ly, .ref qh, .ref kk, .int (nI kc), .ref rd, .ref pg, .int (nI pe), .int kn, .ref ss]))] ++ (w_now ++ (w_past ++ (w_pars ++ (w_judgZ ++ (w_layr ++ (w_heap ++ (w_kept ++ (w_rnds ++ (w_plnr ++ (w_shts ++ (wm ++ ro)))))))))))) (List.Perm.append_left _ ((List.Perm.append_left _ ((List.Perm.append_left _ ((List.Perm.append_left _ (List.Perm.refl _)).trans (List.perm_append_comm_assoc _ _ _))).trans (List.perm_append_comm_assoc _ _ _))).trans (List.perm_append_comm_assoc _ _ _))).symm ?_
  exact kont rr ecZ erZ edZ eTZ ebZ enZ _ ⟨h, qp, qs, qj, ly, qh, kk, rd, pg, ss, w_now, w_past, w_pars, w_judgZ, w_layr, w_heap, w_kept, w_rnds, w_plnr, w_shts, wm, ro, hac, hnp, hkc, hpe, H_now, H_past, H_pars, H_judgZ, H_layr, H_heap, H_kept, H_rnds, H_plnr, H_shts, H_ref, rfl⟩ hE
set_option maxRecDepth 100000 in
theorem cx_when {X : XT} {E : EV} {ws : va_W} {lv : List (Nat × Value)} {rest : List Value} {kC nC : Nat} {hx hm : Nat} {tl : Nat} {ct : Nat → Int} {pe : Nat} {kn : Int32} {ac : Nat} {np : Nat} {kc : Nat} {mN : AM} {pV : Nat → AM} {kV : Nat → AM} {st : Nat → Nat} {sn : Nat → Nat} {sl : Nat → Nat} {scx : Nat → Nat → Int32} {tT : Nat → Option SVal} {ec : Nat → Nat} {er : Nat → Nat} {ed : Nat → Nat → Int32} {eT : Nat → Nat → Option SVal} {eb : Nat → Nat → Int32} {en : Nat → Nat → Int32} {q_undos : Nat} {q_models : Nat} {PGv : Nat → AM} {f_afterOf : Nat → Int32} {f_actMany : Nat → Int32} {f_actOf : Nat → Int32} {f_whom : Nat → Int32} {f_hasIf : Nat → Int32} {f_becomes : Nat → Int32} {f_goneOf : Nat → Int32} {q_taped : Nat} {cr : Nat → Int} {q_people : Nat} {f_secrets : Nat → Int32} {f_lanes : Nat → Int32} {f_lengths : Nat → Int32} {f_cells : Nat → Int32} {f_tokens : Nat → Int32} {f_afters : Nat → Int32} {f_caseMany : Nat → Int32} {f_happen : Nat → Int32} {f_heard : Nat → Int32} {v0 : Int32} {v1 : Int32} {v2 : Int32} {v3 : Int32} {v4 : Int32} (C : CX X room_1 cL_law 4 RL ret E) (hW : Nat.ble (rest.map fun v => v.category).sum 8 = true) (hk : kC + 0 ≤ 600000 ∧ nC + 0 ≤ 7302250) (hS : ST E hx hm tl ct pe kn ac np kc mN pV kV st sn sl scx tT ec er ed eT eb en q_undos q_models PGv f_afterOf f_actMany f_actOf f_whom f_hasIf f_becomes f_goneOf q_taped cr q_people f_secrets f_lanes f_lengths f_cells f_tokens f_afters f_caseMany f_happen f_heard ws) (kont : ∀ (rr : Int32) (eTZ : Nat → Nat → Option SVal) (ebZ : Nat → Nat → Int32) (enZ : Nat → Nat → Int32) (wsZ : va_W), ST E hx hm tl ct pe kn ac np kc mN pV kV st sn sl scx tT ec er ed eTZ ebZ enZ q_undos q_models PGv f_afterOf f_actMany f_actOf f_whom f_hasIf f_becomes f_goneOf q_taped cr q_people f_secrets f_lanes f_lengths f_cells f_tokens f_afters f_caseMany f_happen f_heard wsZ → (((¬ CSE ec v0 v1 ∨ (v2 ≠ -4 ∧ ¬ PLN (sNs tT) v2) ∨ v3.toInt < 0 ∨ 15 < v3.toInt ∨ v4.toInt < 0 ∨ 15 < v4.toInt) ∧ rr = -1 ∧ eTZ = eT ∧ ebZ = eb ∧ enZ = en) ∨ ∃ k_ i_ : Nat, (CSE ec v0 v1 ∧ (v2 = -4 ∨ PLN (sNs tT) v2) ∧ 0 ≤ v3.toInt ∧ v3.toInt ≤ 15 ∧ 0 ≤ v4.toInt ∧ v4.toInt ≤ 15) ∧ rr = 1 ∧ v0 = nI k_ ∧ v1 = nI i_ ∧ k_ ≤ 3 ∧ i_ ≤ 3 ∧ (∀ i, i < 4 → i ≠ k_ → eTZ i = eT i) ∧ (∀ i, i < 4 → i ≠ k_ → ebZ i = eb i) ∧ (∀ i, i < 4 → i ≠ k_ → enZ i = en i) ∧ ((v2 = -4 ∧ eTZ k_ = va_up (eT k_) i_ none) ∨ ∃ s_ : Nat, v2 = nI s_ ∧ s_ ≤ 7 ∧ (tT s_).isSome = true ∧ eTZ k_ = va_up (eT k_) i_ (tT s_)) ∧ upd (eb k_) i_ v3 = ebZ k_ ∧ upd (en k_) i_ v4 = enZ k_) → WW X 4 E 683 lv (.int rr :: rest) wsZ kC nC) : WW X 4 E 680 lv (.int v4 :: .int v3 :: .int v2 :: .int v1 :: .int v0 :: .ref hx :: rest) ws kC nC := by
  unfold ST at hS
  refine ex8 hS ?_
  clear hS
  intro h qp qs qj ly qh kk rd hS
  refine ex8 hS ?_
  clear hS
  intro pg ss w_now w_past w_pars w_judg w_layr w_heap hS
  refine ex6 hS ?_
  clear hS
  intro w_kept w_rnds w_plnr w_shts wm ro hS
  refine an8 hS ?_
  clear hS
  intro hac hnp hkc hpe H_now H_past H_pars H_judg hS
  refine an7 hS ?_
  clear hS
  intro H_layr H_heap H_kept H_rnds H_plnr H_shts H_ref hS
  have we_st := hS
  clear hS
  subst we_st
  refine ww_perm (ws' := [(hx, .inr (11, [.ref h, .ref qp, .int (nI ac), .int (nI np), .ref qs, .ref qj, .ref ly, .ref qh, .ref kk, .int (nI kc), .ref rd, .ref pg, .int (nI pe), .int kn, .ref ss]))] ++ (w_judg ++ (w_now ++ (w_past ++ (w_pars ++ (w_layr ++ (w_heap ++ (w_kept ++ (w_rnds ++ (w_plnr ++ (w_shts ++ (wm ++ ro)))))))))))) (List.Perm.append_left _ ((List.Perm.append_left _ ((List.Perm.append_left _ ((List.Perm.append_left _ (List.Perm.refl _)).trans (List.perm_append_comm_assoc _ _ _))).trans (List.perm_append_comm_assoc _ _ _))).trans (List.perm_append_comm_assoc _ _ _))) ?_
  refine lx_when (ro := ro) (wT := (w_now ++ (w_past ++ (w_pars ++ (w_layr ++ (w_heap ++ (w_kept ++ (w_rnds ++ (w_plnr ++ (w_shts ++ (wm ++ ro))))))))))) (pre := (w_now ++ (w_past ++ (w_pars ++ (w_layr ++ (w_heap ++ (w_kept ++ (w_rnds ++ (w_plnr ++ (w_shts ++ wm)))))))))) C hW (by simp only [List.append_assoc]) hk hac hnp hkc hpe H_judg (fun rr eTZ ebZ enZ w_judgZ H_judgZ hE => ?_)
  refine ww_perm (ws' := [(hx, .inr (11, [.ref h, .ref qp, .int (nI ac), .int (nI np), .ref qs, .ref qj, .ref ly, .ref qh, .ref kk, .int (nI kc), .ref rd, .ref pg, .int (nI pe), .int kn, .ref ss]))] ++ (w_now ++ (w_past ++ (w_pars ++ (w_judgZ ++ (w_layr ++ (w_heap ++ (w_kept ++ (w_rnds ++ (w_plnr ++ (w_shts ++ (wm ++ ro)))))))))))) (List.Perm.append_left _ ((List.Perm.append_left _ ((List.Perm.append_left _ ((List.Perm.append_left _ (List.Perm.refl _)).trans (List.perm_append_comm_assoc _ _ _))).trans (List.perm_append_comm_assoc _ _ _))).trans (List.perm_append_comm_assoc _ _ _))).symm ?_
  exact kont rr eTZ ebZ enZ _ ⟨h, qp, qs, qj, ly, qh, kk, rd, pg, ss, w_now, w_past, w_pars, w_judgZ, w_layr, w_heap, w_kept, w_rnds, w_plnr, w_shts, wm, ro, hac, hnp, hkc, hpe, H_now, H_past, H_pars, H_judgZ, H_layr, H_heap, H_kept, H_rnds, H_plnr, H_shts, H_ref, rfl⟩ hE
set_option maxRecDepth 100000 in
theorem cx_hears {X : XT} {E : EV} {ws : va_W} {lv : List (Nat × Value)} {rest : List Value} {kC nC : Nat} {hx hm : Nat} {tl : Nat} {ct : Nat → Int} {pe : Nat} {kn : Int32} {ac : Nat} {np : Nat} {kc : Nat} {mN : AM} {pV : Nat → AM} {kV : Nat → AM} {st : Nat → Nat} {sn : Nat → Nat} {sl : Nat → Nat} {scx : Nat → Nat → Int32} {tT : Nat → Option SVal} {ec : Nat → Nat} {er : Nat → Nat} {ed : Nat → Nat → Int32} {eT : Nat → Nat → Option SVal} {eb : Nat → Nat → Int32} {en : Nat → Nat → Int32} {q_undos : Nat} {q_models : Nat} {PGv : Nat → AM} {f_afterOf : Nat → Int32} {f_actMany : Nat → Int32} {f_actOf : Nat → Int32} {f_whom : Nat → Int32} {f_hasIf : Nat → Int32} {f_becomes : Nat → Int32} {f_goneOf : Nat → Int32} {q_taped : Nat} {cr : Nat → Int} {q_people : Nat} {f_secrets : Nat → Int32} {f_lanes : Nat → Int32} {f_lengths : Nat → Int32} {f_cells : Nat → Int32} {f_tokens : Nat → Int32} {f_afters : Nat → Int32} {f_caseMany : Nat → Int32} {f_happen : Nat → Int32} {f_heard : Nat → Int32} {v0 : Int32} {v1 : Int32} {v2 : Int32} {v3 : Int32} {v4 : Int32} (C : CX X room_1 cL_law 4 RL ret E) (hW : Nat.ble (rest.map fun v => v.category).sum 8 = true) (hk : kC + 0 ≤ 600000 ∧ nC + 0 ≤ 7302250) (hS : ST E hx hm tl ct pe kn ac np kc mN pV kV st sn sl scx tT ec er ed eT eb en q_undos q_models PGv f_afterOf f_actMany f_actOf f_whom f_hasIf f_becomes f_goneOf q_taped cr q_people f_secrets f_lanes f_lengths f_cells f_tokens f_afters f_caseMany f_happen f_heard ws) (kont : ∀ (rr : Int32) (edZ : Nat → Nat → Int32) (wsZ : va_W), ST E hx hm tl ct pe kn ac np kc mN pV kV st sn sl scx tT ec er edZ eT eb en q_undos q_models PGv f_afterOf f_actMany f_actOf f_whom f_hasIf f_becomes f_goneOf q_taped cr q_people f_secrets f_lanes f_lengths f_cells f_tokens f_afters f_caseMany f_happen f_heard wsZ → (((¬ CSE ec v0 v2 ∨ ¬ CSE ec v0 v3 ∨ v1.toInt < 0 ∨ 3 < v1.toInt) ∧ rr = -1 ∧ edZ = ed) ∨ ∃ k_ n_ i_ : Nat, CSE ec v0 v2 ∧ CSE ec v0 v3 ∧ v0 = nI k_ ∧ v1 = nI n_ ∧ v2 = nI i_ ∧ k_ ≤ 3 ∧ n_ ≤ 3 ∧ i_ ≤ 3 ∧ (∀ i, i < 4 → i ≠ k_ → edZ i = ed i) ∧ upd (ed k_) (n_ * 4 + i_) (hbt (ed k_ (n_ * 4 + i_)) v3 v4) = edZ k_ ∧ rr = ed k_ (n_ * 4 + i_) >>> (v3 &&& 31) &&& 1) → WW X 4 E 754 lv (.int rr :: rest) wsZ kC nC) : WW X 4 E 751 lv (.int v4 :: .int v3 :: .int v2 :: .int v1 :: .int v0 :: .ref hx :: rest) ws kC nC := by
  unfold ST at hS
  refine ex8 hS ?_
  clear hS
  intro h qp qs qj ly qh kk rd hS
  refine ex8 hS ?_
  clear hS
  intro pg ss w_now w_past w_pars w_judg w_layr w_heap hS
  refine ex6 hS ?_
  clear hS
  intro w_kept w_rnds w_plnr w_shts wm ro hS
  refine an8 hS ?_
  clear hS
  intro hac hnp hkc hpe H_now H_past H_pars H_judg hS
  refine an7 hS ?_
  clear hS
  intro H_layr H_heap H_kept H_rnds H_plnr H_shts H_ref hS
  have we_st := hS
  clear hS
  subst we_st
  refine ww_perm (ws' := [(hx, .inr (11, [.ref h, .ref qp, .int (nI ac), .int (nI np), .ref qs, .ref qj, .ref ly, .ref qh, .ref kk, .int (nI kc), .ref rd, .ref pg, .int (nI pe), .int kn, .ref ss]))] ++ (w_judg ++ (w_now ++ (w_past ++ (w_pars ++ (w_layr ++ (w_heap ++ (w_kept ++ (w_rnds ++ (w_plnr ++ (w_shts ++ (wm ++ ro)))))))))))) (List.Perm.append_left _ ((List.Perm.append_left _ ((List.Perm.append_left _ ((List.Perm.append_left _ (List.Perm.refl _)).trans (List.perm_append_comm_assoc _ _ _))).trans (List.perm_append_comm_assoc _ _ _))).trans (List.perm_append_comm_assoc _ _ _))) ?_
  refine lx_hears (ro := ro) (wT := (w_now ++ (w_past ++ (w_pars ++ (w_layr ++ (w_heap ++ (w_kept ++ (w_rnds ++ (w_plnr ++ (w_shts ++ (wm ++ ro))))))))))) (pre := (w_now ++ (w_past ++ (w_pars ++ (w_layr ++ (w_heap ++ (w_kept ++ (w_rnds ++ (w_plnr ++ (w_shts ++ wm)))))))))) C hW (by simp only [List.append_assoc]) hk hac hnp hkc hpe H_judg (fun rr edZ w_judgZ H_judgZ hE => ?_)
  refine ww_perm (ws' := [(hx, .inr (11, [.ref h, .ref qp, .int (nI ac), .int (nI np), .ref qs, .ref qj, .ref ly, .ref qh, .ref kk, .int (nI kc), .ref rd, .ref pg, .int (nI pe), .int kn, .ref ss]))] ++ (w_now ++ (w_past ++ (w_pars ++ (w_judgZ ++ (w_layr ++ (w_heap ++ (w_kept ++ (w_rnds ++ (w_plnr ++ (w_shts ++ (wm ++ ro)))))))))))) (List.Perm.append_left _ ((List.Perm.append_left _ ((List.Perm.append_left _ ((List.Perm.append_left _ (List.Perm.refl _)).trans (List.perm_append_comm_assoc _ _ _))).trans (List.perm_append_comm_assoc _ _ _))).trans (List.perm_append_comm_assoc _ _ _))).symm ?_
  exact kont rr edZ _ ⟨h, qp, qs, qj, ly, qh, kk, rd, pg, ss, w_now, w_past, w_pars, w_judgZ, w_layr, w_heap, w_kept, w_rnds, w_plnr, w_shts, wm, ro, hac, hnp, hkc, hpe, H_now, H_past, H_pars, H_judgZ, H_layr, H_heap, H_kept, H_rnds, H_plnr, H_shts, H_ref, rfl⟩ hE
set_option maxRecDepth 100000 in
theorem cx_happens {X : XT} {E : EV} {ws : va_W} {lv : List (Nat × Value)} {rest : List Value} {kC nC : Nat} {hx hm : Nat} {tl : Nat} {ct : Nat → Int} {pe : Nat} {kn : Int32} {ac : Nat} {np : Nat} {kc : Nat} {mN : AM} {pV : Nat → AM} {kV : Nat → AM} {st : Nat → Nat} {sn : Nat → Nat} {sl : Nat → Nat} {scx : Nat → Nat → Int32} {tT : Nat → Option SVal} {ec : Nat → Nat} {er : Nat → Nat} {ed : Nat → Nat → Int32} {eT : Nat → Nat → Option SVal} {eb : Nat → Nat → Int32} {en : Nat → Nat → Int32} {q_undos : Nat} {q_models : Nat} {PGv : Nat → AM} {f_afterOf : Nat → Int32} {f_actMany : Nat → Int32} {f_actOf : Nat → Int32} {f_whom : Nat → Int32} {f_hasIf : Nat → Int32} {f_becomes : Nat → Int32} {f_goneOf : Nat → Int32} {q_taped : Nat} {cr : Nat → Int} {q_people : Nat} {f_secrets : Nat → Int32} {f_lanes : Nat → Int32} {f_lengths : Nat → Int32} {f_cells : Nat → Int32} {f_tokens : Nat → Int32} {f_afters : Nat → Int32} {f_caseMany : Nat → Int32} {f_happen : Nat → Int32} {f_heard : Nat → Int32} {v0 : Int32} {v1 : Int32} (C : CX X room_1 cL_law 4 RL ret E) (hW : Nat.ble (rest.map fun v => v.category).sum 8 = true) (hk : kC + 0 ≤ 600000 ∧ nC + 0 ≤ 7302250) (hS : ST E hx hm tl ct pe kn ac np kc mN pV kV st sn sl scx tT ec er ed eT eb en q_undos q_models PGv f_afterOf f_actMany f_actOf f_whom f_hasIf f_becomes f_goneOf q_taped cr q_people f_secrets f_lanes f_lengths f_cells f_tokens f_afters f_caseMany f_happen f_heard ws) (kont : ∀ (rr : Int32) (erZ : Nat → Nat) (wsZ : va_W), ST E hx hm tl ct pe kn ac np kc mN pV kV st sn sl scx tT ec erZ ed eT eb en q_undos q_models PGv f_afterOf f_actMany f_actOf f_whom f_hasIf f_becomes f_goneOf q_taped cr q_people f_secrets f_lanes f_lengths f_cells f_tokens f_afters f_caseMany f_happen f_heard wsZ → ((¬ CSE ec v0 v1 ∧ rr = -1 ∧ erZ = er) ∨ ∃ k_ i_ : Nat, CSE ec v0 v1 ∧ v0 = nI k_ ∧ v1 = nI i_ ∧ k_ ≤ 3 ∧ i_ ≤ 3 ∧ (∀ i, i < 4 → erZ i = if i = k_ then i_ else er i) ∧ rr = nI (er k_)) → WW X 4 E 810 lv (.int rr :: rest) wsZ kC nC) : WW X 4 E 807 lv (.int v1 :: .int v0 :: .ref hx :: rest) ws kC nC := by
  unfold ST at hS
  refine ex8 hS ?_
  clear hS
  intro h qp qs qj ly qh kk rd hS
  refine ex8 hS ?_
  clear hS
  intro pg ss w_now w_past w_pars w_judg w_layr w_heap hS
  refine ex6 hS ?_
  clear hS
  intro w_kept w_rnds w_plnr w_shts wm ro hS
  refine an8 hS ?_
  clear hS
  intro hac hnp hkc hpe H_now H_past H_pars H_judg hS
  refine an7 hS ?_
  clear hS
  intro H_layr H_heap H_kept H_rnds H_plnr H_shts H_ref hS
  have we_st := hS
  clear hS
  subst we_st
  refine ww_perm (ws' := [(hx, .inr (11, [.ref h, .ref qp, .int (nI ac), .int (nI np), .ref qs, .ref qj, .ref ly, .ref qh, .ref kk, .int (nI kc), .ref rd, .ref pg, .int (nI pe), .int kn, .ref ss]))] ++ (w_judg ++ (w_now ++ (w_past ++ (w_pars ++ (w_layr ++ (w_heap ++ (w_kept ++ (w_rnds ++ (w_plnr ++ (w_shts ++ (wm ++ ro)))))))))))) (List.Perm.append_left _ ((List.Perm.append_left _ ((List.Perm.append_left _ ((List.Perm.append_left _ (List.Perm.refl _)).trans (List.perm_append_comm_assoc _ _ _))).trans (List.perm_append_comm_assoc _ _ _))).trans (List.perm_append_comm_assoc _ _ _))) ?_
  refine lx_happens (ro := ro) (wT := (w_now ++ (w_past ++ (w_pars ++ (w_layr ++ (w_heap ++ (w_kept ++ (w_rnds ++ (w_plnr ++ (w_shts ++ (wm ++ ro))))))))))) (pre := (w_now ++ (w_past ++ (w_pars ++ (w_layr ++ (w_heap ++ (w_kept ++ (w_rnds ++ (w_plnr ++ (w_shts ++ wm)))))))))) C hW (by simp only [List.append_assoc]) hk hac hnp hkc hpe H_judg (fun rr erZ w_judgZ H_judgZ hE => ?_)
  refine ww_perm (ws' := [(hx, .inr (11, [.ref h, .ref qp, .int (nI ac), .int (nI np), .ref qs, .ref qj, .ref ly, .ref qh, .ref kk, .int (nI kc), .ref rd, .ref pg, .int (nI pe), .int kn, .ref ss]))] ++ (w_now ++ (w_past ++ (w_pars ++ (w_judgZ ++ (w_layr ++ (w_heap ++ (w_kept ++ (w_rnds ++ (w_plnr ++ (w_shts ++ (wm ++ ro)))))))))))) (List.Perm.append_left _ ((List.Perm.append_left _ ((List.Perm.append_left _ ((List.Perm.append_left _ (List.Perm.refl _)).trans (List.perm_append_comm_assoc _ _ _))).trans (List.perm_append_comm_assoc _ _ _))).trans (List.perm_append_comm_assoc _ _ _))).symm ?_
  exact kont rr erZ _ ⟨h, qp, qs, qj, ly, qh, kk, rd, pg, ss, w_now, w_past, w_pars, w_judgZ, w_layr, w_heap, w_kept, w_rnds, w_plnr, w_shts, wm, ro, hac, hnp, hkc, hpe, H_now, H_past, H_pars, H_judgZ, H_layr, H_heap, H_kept, H_rnds, H_plnr, H_shts, H_ref, rfl⟩ hE
set_option maxRecDepth 100000 in
theorem cx_word {X : XT} {E : EV} {ws : va_W} {lv : List (Nat × Value)} {rest : List Value} {kC nC : Nat} {hx hm : Nat} {tl : Nat} {ct : Nat → Int} {pe : Nat} {kn : Int32} {ac : Nat} {np : Nat} {kc : Nat} {mN : AM} {pV : Nat → AM} {kV : Nat → AM} {st : Nat → Nat} {sn : Nat → Nat} {sl : Nat → Nat} {scx : Nat → Nat → Int32} {tT : Nat → Option SVal} {ec : Nat → Nat} {er : Nat → Nat} {ed : Nat → Nat → Int32} {eT : Nat → Nat → Option SVal} {eb : Nat → Nat → Int32} {en : Nat → Nat → Int32} {q_undos : Nat} {q_models : Nat} {PGv : Nat → AM} {f_afterOf : Nat → Int32} {f_actMany : Nat → Int32} {f_actOf : Nat → Int32} {f_whom : Nat → Int32} {f_hasIf : Nat → Int32} {f_becomes : Nat → Int32} {f_goneOf : Nat → Int32} {q_taped : Nat} {cr : Nat → Int} {q_people : Nat} {f_secrets : Nat → Int32} {f_lanes : Nat → Int32} {f_lengths : Nat → Int32} {f_cells : Nat → Int32} {f_tokens : Nat → Int32} {f_afters : Nat → Int32} {f_caseMany : Nat → Int32} {f_happen : Nat → Int32} {f_heard : Nat → Int32} {v0 : Int32} {v1 : Int32} {v2 : Int32} {v3 : Int32} (C : CX X room_1 cL_law 4 RL ret E) (hW : Nat.ble (rest.map fun v => v.category).sum 8 = true) (hk : kC + 0 ≤ 600000 ∧ nC + 0 ≤ 7302250) (hS : ST E hx hm tl ct pe kn ac np kc mN pV kV st sn sl scx tT ec er ed eT eb en q_undos q_models PGv f_afterOf f_actMany f_actOf f_whom f_hasIf f_becomes f_goneOf q_taped cr q_people f_secrets f_lanes f_lengths f_cells f_tokens f_afters f_caseMany f_happen f_heard ws) (kont : ∀ (rr : Int32) (ecZ : Nat → Nat) (erZ : Nat → Nat) (edZ : Nat → Nat → Int32) (eTZ : Nat → Nat → Option SVal) (ebZ : Nat → Nat → Int32) (enZ : Nat → Nat → Int32) (wsZ : va_W), ST E hx hm tl ct pe kn ac np kc mN pV kV st sn sl scx tT ecZ erZ edZ eTZ ebZ enZ q_undos q_models PGv f_afterOf f_actMany f_actOf f_whom f_hasIf f_becomes f_goneOf q_taped cr q_people f_secrets f_lanes f_lengths f_cells f_tokens f_afters f_caseMany f_happen f_heard wsZ → (((v0.toInt < 0 ∨ 3 < v0.toInt ∨ v1.toInt < 0 ∨ 2 < v1.toInt ∨ ¬ PLN (sNs tT) v2 ∨ v3.toInt < 0 ∨ 15 < v3.toInt) ∧ rr = -1 ∧ ecZ = ec ∧ erZ = er ∧ edZ = ed ∧ eTZ = eT ∧ ebZ = eb ∧ enZ = en) ∨ ∃ k_ d_ : Nat, PLN (sNs tT) v2 ∧ v0 = nI k_ ∧ v1 = nI d_ ∧ k_ ≤ 3 ∧ d_ ≤ 2 ∧ (0 ≤ v3.toInt ∧ v3.toInt ≤ 15) ∧ (∀ i, i < 4 → ecZ i = if i = k_ then (if d_ = 0 then 1 else 2) else ec i) ∧ (∀ i, i < 4 → erZ i = if i = k_ then 0 else er i) ∧ (∀ i, i < 4 → i ≠ k_ → edZ i = ed i) ∧ ((d_ = 0 ∧ SAx 4 (edZ k_)) ∨ (d_ ≠ 0 ∧ SPx v3 4 (edZ k_))) ∧ rr = nI (if d_ = 0 then 1 else 2) ∧ (∀ i, i < 4 → i ≠ k_ → eTZ i = eT i) ∧ (∀ i, i < 4 → i ≠ k_ → ebZ i = eb i) ∧ (∀ i, i < 4 → i ≠ k_ → enZ i = en i) ∧ (∃ s_ : Nat, v2 = nI s_ ∧ s_ ≤ 7 ∧ (tT s_).isSome = true ∧ ∀ c, c < 4 → eTZ k_ c = if c = (if d_ = 2 then 1 else 0) then tT s_ else none) ∧ ∀ c, c < 4 → ebZ k_ c = 0 ∧ enZ k_ c = 0) → WW X 4 E 853 lv (.int rr :: rest) wsZ kC nC) : WW X 4 E 850 lv (.int v3 :: .int v2 :: .int v1 :: .int v0 :: .ref hx :: rest) ws kC nC := by
  unfold ST at hS
  refine ex8 hS ?_
  clear hS
  intro h qp qs qj ly qh kk rd hS
  refine ex8 hS ?_
  clear hS
  intro pg ss w_now w_past w_pars w_judg w_layr w_heap hS
  refine ex6 hS ?_
  clear hS
  intro w_kept w_rnds w_plnr w_shts wm ro hS
  refine an8 hS ?_
  clear hS
  intro hac hnp hkc hpe H_now H_past H_pars H_judg hS
  refine an7 hS ?_
  clear hS
  intro H_layr H_heap H_kept H_rnds H_plnr H_shts H_ref hS
  have we_st := hS
  clear hS
  subst we_st
  refine ww_perm (ws' := [(hx, .inr (11, [.ref h, .ref qp, .int (nI ac), .int (nI np), .ref qs, .ref qj, .ref ly, .ref qh, .ref kk, .int (nI kc), .ref rd, .ref pg, .int (nI pe), .int kn, .ref ss]))] ++ (w_judg ++ (w_now ++ (w_past ++ (w_pars ++ (w_layr ++ (w_heap ++ (w_kept ++ (w_rnds ++ (w_plnr ++ (w_shts ++ (wm ++ ro)))))))))))) (List.Perm.append_left _ ((List.Perm.append_left _ ((List.Perm.append_left _ ((List.Perm.append_left _ (List.Perm.refl _)).trans (List.perm_append_comm_assoc _ _ _))).trans (List.perm_append_comm_assoc _ _ _))).trans (List.perm_append_comm_assoc _ _ _))) ?_
  refine lx_word (ro := ro) (wT := (w_now ++ (w_past ++ (w_pars ++ (w_layr ++ (w_heap ++ (w_kept ++ (w_rnds ++ (w_plnr ++ (w_shts ++ (wm ++ ro))))))))))) (pre := (w_now ++ (w_past ++ (w_pars ++ (w_layr ++ (w_heap ++ (w_kept ++ (w_rnds ++ (w_plnr ++ (w_shts ++ wm)))))))))) C hW (by simp only [List.append_assoc]) hk hac hnp hkc hpe H_judg (fun rr ecZ erZ edZ eTZ ebZ enZ w_judgZ H_judgZ hE => ?_)
  refine ww_perm (ws' := [(hx, .inr (11, [.ref h, .ref qp, .int (nI ac), .int (nI np), .ref qs, .ref qj, .ref ly, .ref qh, .ref kk, .int (nI kc), .ref rd, .ref pg, .int (nI pe), .int kn, .ref ss]))] ++ (w_now ++ (w_past ++ (w_pars ++ (w_judgZ ++ (w_layr ++ (w_heap ++ (w_kept ++ (w_rnds ++ (w_plnr ++ (w_shts ++ (wm ++ ro)))))))))))) (List.Perm.append_left _ ((List.Perm.append_left _ ((List.Perm.append_left _ ((List.Perm.append_left _ (List.Perm.refl _)).trans (List.perm_append_comm_assoc _ _ _))).trans (List.perm_append_comm_assoc _ _ _))).trans (List.perm_append_comm_assoc _ _ _))).symm ?_
  exact kont rr ecZ erZ edZ eTZ ebZ enZ _ ⟨h, qp, qs, qj, ly, qh, kk, rd, pg, ss, w_now, w_past, w_pars, w_judgZ, w_layr, w_heap, w_kept, w_rnds, w_plnr, w_shts, wm, ro, hac, hnp, hkc, hpe, H_now, H_past, H_pars, H_judgZ, H_layr, H_heap, H_kept, H_rnds, H_plnr, H_shts, H_ref, rfl⟩ hE
set_option maxRecDepth 100000 in
theorem cx_lay {X : XT} {E : EV} {ws : va_W} {lv : List (Nat × Value)} {rest : List Value} {kC nC : Nat} {hx hm : Nat} {tl : Nat} {ct : Nat → Int} {pe : Nat} {kn : Int32} {ac : Nat} {np : Nat} {kc : Nat} {mN : AM} {pV : Nat → AM} {kV : Nat → AM} {st : Nat → Nat} {sn : Nat → Nat} {sl : Nat → Nat} {scx : Nat → Nat → Int32} {tT : Nat → Option SVal} {ec : Nat → Nat} {er : Nat → Nat} {ed : Nat → Nat → Int32} {eT : Nat → Nat → Option SVal} {eb : Nat → Nat → Int32} {en : Nat → Nat → Int32} {q_undos : Nat} {q_models : Nat} {PGv : Nat → AM} {f_afterOf : Nat → Int32} {f_actMany : Nat → Int32} {f_actOf : Nat → Int32} {f_whom : Nat → Int32} {f_hasIf : Nat → Int32} {f_becomes : Nat → Int32} {f_goneOf : Nat → Int32} {q_taped : Nat} {cr : Nat → Int} {q_people : Nat} {f_secrets : Nat → Int32} {f_lanes : Nat → Int32} {f_lengths : Nat → Int32} {f_cells : Nat → Int32} {f_tokens : Nat → Int32} {f_afters : Nat → Int32} {f_caseMany : Nat → Int32} {f_happen : Nat → Int32} {f_heard : Nat → Int32} {v0 : Int32} (C : CX X room_1 cL_law 4 RL ret E) (hW : Nat.ble (rest.map fun v => v.category).sum 8 = true) (hk : kC + 0 ≤ 600000 ∧ nC + 0 ≤ 7302250) (hS : ST E hx hm tl ct pe kn ac np kc mN pV kV st sn sl scx tT ec er ed eT eb en q_undos q_models PGv f_afterOf f_actMany f_actOf f_whom f_hasIf f_becomes f_goneOf q_taped cr q_people f_secrets f_lanes f_lengths f_cells f_tokens f_afters f_caseMany f_happen f_heard ws) (kont : ∀ (rr : Int32) (mNZ : AM) (pVZ : Nat → AM) (acZ : Nat) (npZ : Nat) (wsZ : va_W), ST E hx hm tl ct pe kn acZ npZ kc mNZ pVZ kV st sn sl scx tT ec er ed eT eb en q_undos q_models PGv f_afterOf f_actMany f_actOf f_whom f_hasIf f_becomes f_goneOf q_taped cr q_people f_secrets f_lanes f_lengths f_cells f_tokens f_afters f_caseMany f_happen f_heard wsZ → (((asX mNZ acZ npZ pVZ), rr) = opLay (asX mN ac np pV) (ev6 ec er eT eb en ed) v0) → WW X 4 E 891 lv (.int rr :: rest) wsZ kC nC) : WW X 4 E 888 lv (.int v0 :: .ref hx :: rest) ws kC nC := by
  unfold ST at hS
  refine ex8 hS ?_
  clear hS
  intro h qp qs qj ly qh kk rd hS
  refine ex8 hS ?_
  clear hS
  intro pg ss w_now w_past w_pars w_judg w_layr w_heap hS
  refine ex6 hS ?_
  clear hS
  intro w_kept w_rnds w_plnr w_shts wm ro hS
  refine an8 hS ?_
  clear hS
  intro hac hnp hkc hpe H_now H_past H_pars H_judg hS
  refine an7 hS ?_
  clear hS
  intro H_layr H_heap H_kept H_rnds H_plnr H_shts H_ref hS
  have we_st := hS
  clear hS
  subst we_st
  refine ww_perm (ws' := [(hx, .inr (11, [.ref h, .ref qp, .int (nI ac), .int (nI np), .ref qs, .ref qj, .ref ly, .ref qh, .ref kk, .int (nI kc), .ref rd, .ref pg, .int (nI pe), .int kn, .ref ss]))] ++ (w_now ++ (w_past ++ (w_judg ++ (w_layr ++ (w_pars ++ (w_heap ++ (w_kept ++ (w_rnds ++ (w_plnr ++ (w_shts ++ (wm ++ ro)))))))))))) (List.Perm.append_left _ ((((List.Perm.refl _).trans (List.Perm.append_left _ (List.Perm.refl _))).trans (List.Perm.append_left _ (List.Perm.append_left _ ((List.Perm.append_left _ (List.Perm.refl _)).trans (List.perm_append_comm_assoc _ _ _))))).trans (List.Perm.append_left _ (List.Perm.append_left _ (List.Perm.append_left _ ((List.Perm.append_left _ (List.Perm.refl _)).trans (List.perm_append_comm_assoc _ _ _))))))) ?_
  refine lx_lay (ro := ro) (wT := (w_pars ++ (w_heap ++ (w_kept ++ (w_rnds ++ (w_plnr ++ (w_shts ++ (wm ++ ro)))))))) (pre := (w_pars ++ (w_heap ++ (w_kept ++ (w_rnds ++ (w_plnr ++ (w_shts ++ wm))))))) C hW (by simp only [List.append_assoc]) hk hac hnp hkc hpe H_now H_past H_judg H_layr (fun rr acZ npZ mNZ pVZ w_nowZ w_pastZ w_judgZ w_layrZ hacZ hnpZ H_nowZ H_pastZ H_judgZ H_layrZ hE => ?_)
  refine ww_perm (ws' := [(hx, .inr (11, [.ref h, .ref qp, .int (nI acZ), .int (nI npZ), .ref qs, .ref qj, .ref ly, .ref qh, .ref kk, .int (nI kc), .ref rd, .ref pg, .int (nI pe), .int kn, .ref ss]))] ++ (w_nowZ ++ (w_pastZ ++ (w_pars ++ (w_judgZ ++ (w_layrZ ++ (w_heap ++ (w_kept ++ (w_rnds ++ (w_plnr ++ (w_shts ++ (wm ++ ro)))))))))))) (List.Perm.append_left _ ((((List.Perm.refl _).trans (List.Perm.append_left _ (List.Perm.refl _))).trans (List.Perm.append_left _ (List.Perm.append_left _ ((List.Perm.append_left _ (List.Perm.refl _)).trans (List.perm_append_comm_assoc _ _ _))))).trans (List.Perm.append_left _ (List.Perm.append_left _ (List.Perm.append_left _ ((List.Perm.append_left _ (List.Perm.refl _)).trans (List.perm_append_comm_assoc _ _ _))))))).symm ?_
  exact kont rr mNZ pVZ acZ npZ _ ⟨h, qp, qs, qj, ly, qh, kk, rd, pg, ss, w_nowZ, w_pastZ, w_pars, w_judgZ, w_layrZ, w_heap, w_kept, w_rnds, w_plnr, w_shts, wm, ro, hacZ, hnpZ, hkc, hpe, H_nowZ, H_pastZ, H_pars, H_judgZ, H_layrZ, H_heap, H_kept, H_rnds, H_plnr, H_shts, H_ref, rfl⟩ hE
set_option maxRecDepth 100000 in
theorem cx_classes {X : XT} {E : EV} {ws : va_W} {lv : List (Nat × Value)} {rest : List Value} {kC nC : Nat} {hx hm : Nat} {tl : Nat} {ct : Nat → Int} {pe : Nat} {kn : Int32} {ac : Nat} {np : Nat} {kc : Nat} {mN : AM} {pV : Nat → AM} {kV : Nat → AM} {st : Nat → Nat} {sn : Nat → Nat} {sl : Nat → Nat} {scx : Nat → Nat → Int32} {tT : Nat → Option SVal} {ec : Nat → Nat} {er : Nat → Nat} {ed : Nat → Nat → Int32} {eT : Nat → Nat → Option SVal} {eb : Nat → Nat → Int32} {en : Nat → Nat → Int32} {q_undos : Nat} {q_models : Nat} {PGv : Nat → AM} {f_afterOf : Nat → Int32} {f_actMany : Nat → Int32} {f_actOf : Nat → Int32} {f_whom : Nat → Int32} {f_hasIf : Nat → Int32} {f_becomes : Nat → Int32} {f_goneOf : Nat → Int32} {q_taped : Nat} {cr : Nat → Int} {q_people : Nat} {f_secrets : Nat → Int32} {f_lanes : Nat → Int32} {f_lengths : Nat → Int32} {f_cells : Nat → Int32} {f_tokens : Nat → Int32} {f_afters : Nat → Int32} {f_caseMany : Nat → Int32} {f_happen : Nat → Int32} {f_heard : Nat → Int32}  (C : CX X room_1 cL_law 4 RL ret E) (hW : Nat.ble (rest.map fun v => v.category).sum 8 = true) (hk : kC + 0 ≤ 600000 ∧ nC + 0 ≤ 7302250) (hS : ST E hx hm tl ct pe kn ac np kc mN pV kV st sn sl scx tT ec er ed eT eb en q_undos q_models PGv f_afterOf f_actMany f_actOf f_whom f_hasIf f_becomes f_goneOf q_taped cr q_people f_secrets f_lanes f_lengths f_cells f_tokens f_afters f_caseMany f_happen f_heard ws) (kont : ∀ (rr : Int32) (wsZ : va_W), ST E hx hm tl ct pe kn ac np kc mN pV kV st sn sl scx tT ec er ed eT eb en q_undos q_models PGv f_afterOf f_actMany f_actOf f_whom f_hasIf f_becomes f_goneOf q_taped cr q_people f_secrets f_lanes f_lengths f_cells f_tokens f_afters f_caseMany f_happen f_heard wsZ → (rr = ansClasses mN) → WW X 4 E 909 lv (.int rr :: rest) wsZ kC nC) : WW X 4 E 906 lv (.ref hx :: rest) ws kC nC := by
  unfold ST at hS
  refine ex8 hS ?_
  clear hS
  intro h qp qs qj ly qh kk rd hS
  refine ex8 hS ?_
  clear hS
  intro pg ss w_now w_past w_pars w_judg w_layr w_heap hS
  refine ex6 hS ?_
  clear hS
  intro w_kept w_rnds w_plnr w_shts wm ro hS
  refine an8 hS ?_
  clear hS
  intro hac hnp hkc hpe H_now H_past H_pars H_judg hS
  refine an7 hS ?_
  clear hS
  intro H_layr H_heap H_kept H_rnds H_plnr H_shts H_ref hS
  have we_st := hS
  clear hS
  subst we_st
  refine ww_perm (ws' := [(hx, .inr (11, [.ref h, .ref qp, .int (nI ac), .int (nI np), .ref qs, .ref qj, .ref ly, .ref qh, .ref kk, .int (nI kc), .ref rd, .ref pg, .int (nI pe), .int kn, .ref ss]))] ++ (w_now ++ (w_heap ++ (w_past ++ (w_pars ++ (w_judg ++ (w_layr ++ (w_kept ++ (w_rnds ++ (w_plnr ++ (w_shts ++ (wm ++ ro)))))))))))) (List.Perm.append_left _ ((List.Perm.refl _).trans (List.Perm.append_left _ ((List.Perm.append_left _ ((List.Perm.append_left _ ((List.Perm.append_left _ ((List.Perm.append_left _ (List.Perm.refl _)).trans (List.perm_append_comm_assoc _ _ _))).trans (List.perm_append_comm_assoc _ _ _))).trans (List.perm_append_comm_assoc _ _ _))).trans (List.perm_append_comm_assoc _ _ _))))) ?_
  refine lx_classes (ro := ro) (wT := (w_past ++ (w_pars ++ (w_judg ++ (w_layr ++ (w_kept ++ (w_rnds ++ (w_plnr ++ (w_shts ++ (wm ++ ro)))))))))) (pre := (w_past ++ (w_pars ++ (w_judg ++ (w_layr ++ (w_kept ++ (w_rnds ++ (w_plnr ++ (w_shts ++ wm))))))))) C hW (by simp only [List.append_assoc]) hk hac hnp hkc hpe H_now H_heap (fun rr w_nowZ w_heapZ H_nowZ H_heapZ hE => ?_)
  refine ww_perm (ws' := [(hx, .inr (11, [.ref h, .ref qp, .int (nI ac), .int (nI np), .ref qs, .ref qj, .ref ly, .ref qh, .ref kk, .int (nI kc), .ref rd, .ref pg, .int (nI pe), .int kn, .ref ss]))] ++ (w_nowZ ++ (w_past ++ (w_pars ++ (w_judg ++ (w_layr ++ (w_heapZ ++ (w_kept ++ (w_rnds ++ (w_plnr ++ (w_shts ++ (wm ++ ro)))))))))))) (List.Perm.append_left _ ((List.Perm.refl _).trans (List.Perm.append_left _ ((List.Perm.append_left _ ((List.Perm.append_left _ ((List.Perm.append_left _ ((List.Perm.append_left _ (List.Perm.refl _)).trans (List.perm_append_comm_assoc _ _ _))).trans (List.perm_append_comm_assoc _ _ _))).trans (List.perm_append_comm_assoc _ _ _))).trans (List.perm_append_comm_assoc _ _ _))))).symm ?_
  exact kont rr  _ ⟨h, qp, qs, qj, ly, qh, kk, rd, pg, ss, w_nowZ, w_past, w_pars, w_judg, w_layr, w_heapZ, w_kept, w_rnds, w_plnr, w_shts, wm, ro, hac, hnp, hkc, hpe, H_nowZ, H_past, H_pars, H_judg, H_layr, H_heapZ, H_kept, H_rnds, H_plnr, H_shts, H_ref, rfl⟩ hE
set_option maxRecDepth 100000 in
theorem cx_classOf {X : XT} {E : EV} {ws : va_W} {lv : List (Nat × Value)} {rest : List Value} {kC nC : Nat} {hx hm : Nat} {tl : Nat} {ct : Nat → Int} {pe : Nat} {kn : Int32} {ac : Nat} {np : Nat} {kc : Nat} {mN : AM} {pV : Nat → AM} {kV : Nat → AM} {st : Nat → Nat} {sn : Nat → Nat} {sl : Nat → Nat} {scx : Nat → Nat → Int32} {tT : Nat → Option SVal} {ec : Nat → Nat} {er : Nat → Nat} {ed : Nat → Nat → Int32} {eT : Nat → Nat → Option SVal} {eb : Nat → Nat → Int32} {en : Nat → Nat → Int32} {q_undos : Nat} {q_models : Nat} {PGv : Nat → AM} {f_afterOf : Nat → Int32} {f_actMany : Nat → Int32} {f_actOf : Nat → Int32} {f_whom : Nat → Int32} {f_hasIf : Nat → Int32} {f_becomes : Nat → Int32} {f_goneOf : Nat → Int32} {q_taped : Nat} {cr : Nat → Int} {q_people : Nat} {f_secrets : Nat → Int32} {f_lanes : Nat → Int32} {f_lengths : Nat → Int32} {f_cells : Nat → Int32} {f_tokens : Nat → Int32} {f_afters : Nat → Int32} {f_caseMany : Nat → Int32} {f_happen : Nat → Int32} {f_heard : Nat → Int32} {v0 : Int32} (C : CX X room_1 cL_law 4 RL ret E) (hW : Nat.ble (rest.map fun v => v.category).sum 8 = true) (hk : kC + 0 ≤ 600000 ∧ nC + 0 ≤ 7302250) (hS : ST E hx hm tl ct pe kn ac np kc mN pV kV st sn sl scx tT ec er ed eT eb en q_undos q_models PGv f_afterOf f_actMany f_actOf f_whom f_hasIf f_becomes f_goneOf q_taped cr q_people f_secrets f_lanes f_lengths f_cells f_tokens f_afters f_caseMany f_happen f_heard ws) (kont : ∀ (rr : Int32) (wsZ : va_W), ST E hx hm tl ct pe kn ac np kc mN pV kV st sn sl scx tT ec er ed eT eb en q_undos q_models PGv f_afterOf f_actMany f_actOf f_whom f_hasIf f_becomes f_goneOf q_taped cr q_people f_secrets f_lanes f_lengths f_cells f_tokens f_afters f_caseMany f_happen f_heard wsZ → (rr = ansClassOf mN v0) → WW X 4 E 927 lv (.int rr :: rest) wsZ kC nC) : WW X 4 E 924 lv (.int v0 :: .ref hx :: rest) ws kC nC := by
  unfold ST at hS
  refine ex8 hS ?_
  clear hS
  intro h qp qs qj ly qh kk rd hS
  refine ex8 hS ?_
  clear hS
  intro pg ss w_now w_past w_pars w_judg w_layr w_heap hS
  refine ex6 hS ?_
  clear hS
  intro w_kept w_rnds w_plnr w_shts wm ro hS
  refine an8 hS ?_
  clear hS
  intro hac hnp hkc hpe H_now H_past H_pars H_judg hS
  refine an7 hS ?_
  clear hS
  intro H_layr H_heap H_kept H_rnds H_plnr H_shts H_ref hS
  have we_st := hS
  clear hS
  subst we_st
  refine ww_perm (ws' := [(hx, .inr (11, [.ref h, .ref qp, .int (nI ac), .int (nI np), .ref qs, .ref qj, .ref ly, .ref qh, .ref kk, .int (nI kc), .ref rd, .ref pg, .int (nI pe), .int kn, .ref ss]))] ++ (w_now ++ (w_heap ++ (w_past ++ (w_pars ++ (w_judg ++ (w_layr ++ (w_kept ++ (w_rnds ++ (w_plnr ++ (w_shts ++ (wm ++ ro)))))))))))) (List.Perm.append_left _ ((List.Perm.refl _).trans (List.Perm.append_left _ ((List.Perm.append_left _ ((List.Perm.append_left _ ((List.Perm.append_left _ ((List.Perm.append_left _ (List.Perm.refl _)).trans (List.perm_append_comm_assoc _ _ _))).trans (List.perm_append_comm_assoc _ _ _))).trans (List.perm_append_comm_assoc _ _ _))).trans (List.perm_append_comm_assoc _ _ _))))) ?_
  refine lx_classOf (ro := ro) (wT := (w_past ++ (w_pars ++ (w_judg ++ (w_layr ++ (w_kept ++ (w_rnds ++ (w_plnr ++ (w_shts ++ (wm ++ ro)))))))))) (pre := (w_past ++ (w_pars ++ (w_judg ++ (w_layr ++ (w_kept ++ (w_rnds ++ (w_plnr ++ (w_shts ++ wm))))))))) C hW (by simp only [List.append_assoc]) hk hac hnp hkc hpe H_now H_heap (fun rr w_nowZ w_heapZ H_nowZ H_heapZ hE => ?_)
  refine ww_perm (ws' := [(hx, .inr (11, [.ref h, .ref qp, .int (nI ac), .int (nI np), .ref qs, .ref qj, .ref ly, .ref qh, .ref kk, .int (nI kc), .ref rd, .ref pg, .int (nI pe), .int kn, .ref ss]))] ++ (w_nowZ ++ (w_past ++ (w_pars ++ (w_judg ++ (w_layr ++ (w_heapZ ++ (w_kept ++ (w_rnds ++ (w_plnr ++ (w_shts ++ (wm ++ ro)))))))))))) (List.Perm.append_left _ ((List.Perm.refl _).trans (List.Perm.append_left _ ((List.Perm.append_left _ ((List.Perm.append_left _ ((List.Perm.append_left _ ((List.Perm.append_left _ (List.Perm.refl _)).trans (List.perm_append_comm_assoc _ _ _))).trans (List.perm_append_comm_assoc _ _ _))).trans (List.perm_append_comm_assoc _ _ _))).trans (List.perm_append_comm_assoc _ _ _))))).symm ?_
  exact kont rr  _ ⟨h, qp, qs, qj, ly, qh, kk, rd, pg, ss, w_nowZ, w_past, w_pars, w_judg, w_layr, w_heapZ, w_kept, w_rnds, w_plnr, w_shts, wm, ro, hac, hnp, hkc, hpe, H_nowZ, H_past, H_pars, H_judg, H_layr, H_heapZ, H_kept, H_rnds, H_plnr, H_shts, H_ref, rfl⟩ hE
set_option maxRecDepth 100000 in
theorem cx_depth {X : XT} {E : EV} {ws : va_W} {lv : List (Nat × Value)} {rest : List Value} {kC nC : Nat} {hx hm : Nat} {tl : Nat} {ct : Nat → Int} {pe : Nat} {kn : Int32} {ac : Nat} {np : Nat} {kc : Nat} {mN : AM} {pV : Nat → AM} {kV : Nat → AM} {st : Nat → Nat} {sn : Nat → Nat} {sl : Nat → Nat} {scx : Nat → Nat → Int32} {tT : Nat → Option SVal} {ec : Nat → Nat} {er : Nat → Nat} {ed : Nat → Nat → Int32} {eT : Nat → Nat → Option SVal} {eb : Nat → Nat → Int32} {en : Nat → Nat → Int32} {q_undos : Nat} {q_models : Nat} {PGv : Nat → AM} {f_afterOf : Nat → Int32} {f_actMany : Nat → Int32} {f_actOf : Nat → Int32} {f_whom : Nat → Int32} {f_hasIf : Nat → Int32} {f_becomes : Nat → Int32} {f_goneOf : Nat → Int32} {q_taped : Nat} {cr : Nat → Int} {q_people : Nat} {f_secrets : Nat → Int32} {f_lanes : Nat → Int32} {f_lengths : Nat → Int32} {f_cells : Nat → Int32} {f_tokens : Nat → Int32} {f_afters : Nat → Int32} {f_caseMany : Nat → Int32} {f_happen : Nat → Int32} {f_heard : Nat → Int32} {v0 : Int32} {v1 : Int32} (C : CX X room_1 cL_law 4 RL ret E) (hW : Nat.ble (rest.map fun v => v.category).sum 8 = true) (hk : kC + 0 ≤ 600000 ∧ nC + 0 ≤ 7302250) (hS : ST E hx hm tl ct pe kn ac np kc mN pV kV st sn sl scx tT ec er ed eT eb en q_undos q_models PGv f_afterOf f_actMany f_actOf f_whom f_hasIf f_becomes f_goneOf q_taped cr q_people f_secrets f_lanes f_lengths f_cells f_tokens f_afters f_caseMany f_happen f_heard ws) (kont : ∀ (rr : Int32) (wsZ : va_W), ST E hx hm tl ct pe kn ac np kc mN pV kV st sn sl scx tT ec er ed eT eb en q_undos q_models PGv f_afterOf f_actMany f_actOf f_whom f_hasIf f_becomes f_goneOf q_taped cr q_people f_secrets f_lanes f_lengths f_cells f_tokens f_afters f_caseMany f_happen f_heard wsZ → (ansDep mN v0 v1 rr) → WW X 4 E 955 lv (.int rr :: rest) wsZ kC nC) : WW X 4 E 952 lv (.int v1 :: .int v0 :: .ref hx :: rest) ws kC nC := by
  unfold ST at hS
  refine ex8 hS ?_
  clear hS
  intro h qp qs qj ly qh kk rd hS
  refine ex8 hS ?_
  clear hS
  intro pg ss w_now w_past w_pars w_judg w_layr w_heap hS
  refine ex6 hS ?_
  clear hS
  intro w_kept w_rnds w_plnr w_shts wm ro hS
  refine an8 hS ?_
  clear hS
  intro hac hnp hkc hpe H_now H_past H_pars H_judg hS
  refine an7 hS ?_
  clear hS
  intro H_layr H_heap H_kept H_rnds H_plnr H_shts H_ref hS
  have we_st := hS
  clear hS
  subst we_st
  refine ww_perm (ws' := [(hx, .inr (11, [.ref h, .ref qp, .int (nI ac), .int (nI np), .ref qs, .ref qj, .ref ly, .ref qh, .ref kk, .int (nI kc), .ref rd, .ref pg, .int (nI pe), .int kn, .ref ss]))] ++ (w_now ++ (w_heap ++ (w_past ++ (w_pars ++ (w_judg ++ (w_layr ++ (w_kept ++ (w_rnds ++ (w_plnr ++ (w_shts ++ (wm ++ ro)))))))))))) (List.Perm.append_left _ ((List.Perm.refl _).trans (List.Perm.append_left _ ((List.Perm.append_left _ ((List.Perm.append_left _ ((List.Perm.append_left _ ((List.Perm.append_left _ (List.Perm.refl _)).trans (List.perm_append_comm_assoc _ _ _))).trans (List.perm_append_comm_assoc _ _ _))).trans (List.perm_append_comm_assoc _ _ _))).trans (List.perm_append_comm_assoc _ _ _))))) ?_
  refine lx_depth (ro := ro) (wT := (w_past ++ (w_pars ++ (w_judg ++ (w_layr ++ (w_kept ++ (w_rnds ++ (w_plnr ++ (w_shts ++ (wm ++ ro)))))))))) (pre := (w_past ++ (w_pars ++ (w_judg ++ (w_layr ++ (w_kept ++ (w_rnds ++ (w_plnr ++ (w_shts ++ wm))))))))) C hW (by simp only [List.append_assoc]) hk hac hnp hkc hpe H_now H_heap (fun rr w_nowZ w_heapZ H_nowZ H_heapZ hE => ?_)
  refine ww_perm (ws' := [(hx, .inr (11, [.ref h, .ref qp, .int (nI ac), .int (nI np), .ref qs, .ref qj, .ref ly, .ref qh, .ref kk, .int (nI kc), .ref rd, .ref pg, .int (nI pe), .int kn, .ref ss]))] ++ (w_nowZ ++ (w_past ++ (w_pars ++ (w_judg ++ (w_layr ++ (w_heapZ ++ (w_kept ++ (w_rnds ++ (w_plnr ++ (w_shts ++ (wm ++ ro)))))))))))) (List.Perm.append_left _ ((List.Perm.refl _).trans (List.Perm.append_left _ ((List.Perm.append_left _ ((List.Perm.append_left _ ((List.Perm.append_left _ ((List.Perm.append_left _ (List.Perm.refl _)).trans (List.perm_append_comm_assoc _ _ _))).trans (List.perm_append_comm_assoc _ _ _))).trans (List.perm_append_comm_assoc _ _ _))).trans (List.perm_append_comm_assoc _ _ _))))).symm ?_
  exact kont rr  _ ⟨h, qp, qs, qj, ly, qh, kk, rd, pg, ss, w_nowZ, w_past, w_pars, w_judg, w_layr, w_heapZ, w_kept, w_rnds, w_plnr, w_shts, wm, ro, hac, hnp, hkc, hpe, H_nowZ, H_past, H_pars, H_judg, H_layr, H_heapZ, H_kept, H_rnds, H_plnr, H_shts, H_ref, rfl⟩ hE
set_option maxRecDepth 100000 in
theorem cx_melt {X : XT} {E : EV} {ws : va_W} {lv : List (Nat × Value)} {rest : List Value} {kC nC : Nat} {hx hm : Nat} {tl : Nat} {ct : Nat → Int} {pe : Nat} {kn : Int32} {ac : Nat} {np : Nat} {kc : Nat} {mN : AM} {pV : Nat → AM} {kV : Nat → AM} {st : Nat → Nat} {sn : Nat → Nat} {sl : Nat → Nat} {scx : Nat → Nat → Int32} {tT : Nat → Option SVal} {ec : Nat → Nat} {er : Nat → Nat} {ed : Nat → Nat → Int32} {eT : Nat → Nat → Option SVal} {eb : Nat → Nat → Int32} {en : Nat → Nat → Int32} {q_undos : Nat} {q_models : Nat} {PGv : Nat → AM} {f_afterOf : Nat → Int32} {f_actMany : Nat → Int32} {f_actOf : Nat → Int32} {f_whom : Nat → Int32} {f_hasIf : Nat → Int32} {f_becomes : Nat → Int32} {f_goneOf : Nat → Int32} {q_taped : Nat} {cr : Nat → Int} {q_people : Nat} {f_secrets : Nat → Int32} {f_lanes : Nat → Int32} {f_lengths : Nat → Int32} {f_cells : Nat → Int32} {f_tokens : Nat → Int32} {f_afters : Nat → Int32} {f_caseMany : Nat → Int32} {f_happen : Nat → Int32} {f_heard : Nat → Int32}  (C : CX X room_1 cL_law 4 RL ret E) (hW : Nat.ble (rest.map fun v => v.category).sum 8 = true) (hk : kC + 0 ≤ 600000 ∧ nC + 0 ≤ 7302250) (hS : ST E hx hm tl ct pe kn ac np kc mN pV kV st sn sl scx tT ec er ed eT eb en q_undos q_models PGv f_afterOf f_actMany f_actOf f_whom f_hasIf f_becomes f_goneOf q_taped cr q_people f_secrets f_lanes f_lengths f_cells f_tokens f_afters f_caseMany f_happen f_heard ws) (kont : ∀ (rr : Int32) (mNZ : AM) (pVZ : Nat → AM) (acZ : Nat) (npZ : Nat) (wsZ : va_W), ST E hx hm tl ct pe kn acZ npZ kc mNZ pVZ kV st sn sl scx tT ec er ed eT eb en q_undos q_models PGv f_afterOf f_actMany f_actOf f_whom f_hasIf f_becomes f_goneOf q_taped cr q_people f_secrets f_lanes f_lengths f_cells f_tokens f_afters f_caseMany f_happen f_heard wsZ → (((asX mNZ acZ npZ pVZ), rr) = opMelt (asX mN ac np pV)) → WW X 4 E 978 lv (.int rr :: rest) wsZ kC nC) : WW X 4 E 975 lv (.ref hx :: rest) ws kC nC := by
  unfold ST at hS
  refine ex8 hS ?_
  clear hS
  intro h qp qs qj ly qh kk rd hS
  refine ex8 hS ?_
  clear hS
  intro pg ss w_now w_past w_pars w_judg w_layr w_heap hS
  refine ex6 hS ?_
  clear hS
  intro w_kept w_rnds w_plnr w_shts wm ro hS
  refine an8 hS ?_
  clear hS
  intro hac hnp hkc hpe H_now H_past H_pars H_judg hS
  refine an7 hS ?_
  clear hS
  intro H_layr H_heap H_kept H_rnds H_plnr H_shts H_ref hS
  have we_st := hS
  clear hS
  subst we_st
  refine ww_perm (ws' := [(hx, .inr (11, [.ref h, .ref qp, .int (nI ac), .int (nI np), .ref qs, .ref qj, .ref ly, .ref qh, .ref kk, .int (nI kc), .ref rd, .ref pg, .int (nI pe), .int kn, .ref ss]))] ++ (w_now ++ (w_past ++ (w_heap ++ (w_pars ++ (w_judg ++ (w_layr ++ (w_kept ++ (w_rnds ++ (w_plnr ++ (w_shts ++ (wm ++ ro)))))))))))) (List.Perm.append_left _ (((List.Perm.refl _).trans (List.Perm.append_left _ (List.Perm.refl _))).trans (List.Perm.append_left _ (List.Perm.append_left _ ((List.Perm.append_left _ ((List.Perm.append_left _ ((List.Perm.append_left _ (List.Perm.refl _)).trans (List.perm_append_comm_assoc _ _ _))).trans (List.perm_append_comm_assoc _ _ _))).trans (List.perm_append_comm_assoc _ _ _)))))) ?_
  refine lx_melt (ro := ro) (wT := (w_pars ++ (w_judg ++ (w_layr ++ (w_kept ++ (w_rnds ++ (w_plnr ++ (w_shts ++ (wm ++ ro))))))))) (pre := (w_pars ++ (w_judg ++ (w_layr ++ (w_kept ++ (w_rnds ++ (w_plnr ++ (w_shts ++ wm)))))))) C hW (by simp only [List.append_assoc]) hk hac hnp hkc hpe H_now H_past H_heap (fun rr acZ npZ mNZ pVZ w_nowZ w_pastZ w_heapZ hacZ hnpZ H_nowZ H_pastZ H_heapZ hE => ?_)
  refine ww_perm (ws' := [(hx, .inr (11, [.ref h, .ref qp, .int (nI acZ), .int (nI npZ), .ref qs, .ref qj, .ref ly, .ref qh, .ref kk, .int (nI kc), .ref rd, .ref pg, .int (nI pe), .int kn, .ref ss]))] ++ (w_nowZ ++ (w_pastZ ++ (w_pars ++ (w_judg ++ (w_layr ++ (w_heapZ ++ (w_kept ++ (w_rnds ++ (w_plnr ++ (w_shts ++ (wm ++ ro)))))))))))) (List.Perm.append_left _ (((List.Perm.refl _).trans (List.Perm.append_left _ (List.Perm.refl _))).trans (List.Perm.append_left _ (List.Perm.append_left _ ((List.Perm.append_left _ ((List.Perm.append_left _ ((List.Perm.append_left _ (List.Perm.refl _)).trans (List.perm_append_comm_assoc _ _ _))).trans (List.perm_append_comm_assoc _ _ _))).trans (List.perm_append_comm_assoc _ _ _)))))).symm ?_
  exact kont rr mNZ pVZ acZ npZ _ ⟨h, qp, qs, qj, ly, qh, kk, rd, pg, ss, w_nowZ, w_pastZ, w_pars, w_judg, w_layr, w_heapZ, w_kept, w_rnds, w_plnr, w_shts, wm, ro, hacZ, hnpZ, hkc, hpe, H_nowZ, H_pastZ, H_pars, H_judg, H_layr, H_heapZ, H_kept, H_rnds, H_plnr, H_shts, H_ref, rfl⟩ hE
set_option maxRecDepth 100000 in
theorem cx_keep {X : XT} {E : EV} {ws : va_W} {lv : List (Nat × Value)} {rest : List Value} {kC nC : Nat} {hx hm : Nat} {tl : Nat} {ct : Nat → Int} {pe : Nat} {kn : Int32} {ac : Nat} {np : Nat} {kc : Nat} {mN : AM} {pV : Nat → AM} {kV : Nat → AM} {st : Nat → Nat} {sn : Nat → Nat} {sl : Nat → Nat} {scx : Nat → Nat → Int32} {tT : Nat → Option SVal} {ec : Nat → Nat} {er : Nat → Nat} {ed : Nat → Nat → Int32} {eT : Nat → Nat → Option SVal} {eb : Nat → Nat → Int32} {en : Nat → Nat → Int32} {q_undos : Nat} {q_models : Nat} {PGv : Nat → AM} {f_afterOf : Nat → Int32} {f_actMany : Nat → Int32} {f_actOf : Nat → Int32} {f_whom : Nat → Int32} {f_hasIf : Nat → Int32} {f_becomes : Nat → Int32} {f_goneOf : Nat → Int32} {q_taped : Nat} {cr : Nat → Int} {q_people : Nat} {f_secrets : Nat → Int32} {f_lanes : Nat → Int32} {f_lengths : Nat → Int32} {f_cells : Nat → Int32} {f_tokens : Nat → Int32} {f_afters : Nat → Int32} {f_caseMany : Nat → Int32} {f_happen : Nat → Int32} {f_heard : Nat → Int32}  (C : CX X room_1 cL_law 4 RL ret E) (hW : Nat.ble (rest.map fun v => v.category).sum 8 = true) (hk : kC + 0 ≤ 600000 ∧ nC + 0 ≤ 7302250) (hS : ST E hx hm tl ct pe kn ac np kc mN pV kV st sn sl scx tT ec er ed eT eb en q_undos q_models PGv f_afterOf f_actMany f_actOf f_whom f_hasIf f_becomes f_goneOf q_taped cr q_people f_secrets f_lanes f_lengths f_cells f_tokens f_afters f_caseMany f_happen f_heard ws) (kont : ∀ (rr : Int32) (kVZ : Nat → AM) (kcZ : Nat) (wsZ : va_W), ST E hx hm tl ct pe kn ac np kcZ mN pV kVZ st sn sl scx tT ec er ed eT eb en q_undos q_models PGv f_afterOf f_actMany f_actOf f_whom f_hasIf f_becomes f_goneOf q_taped cr q_people f_secrets f_lanes f_lengths f_cells f_tokens f_afters f_caseMany f_happen f_heard wsZ → (KPx mN.1 kc kcZ mN kV kVZ rr) → WW X 4 E 991 lv (.int rr :: rest) wsZ kC nC) : WW X 4 E 988 lv (.ref hx :: rest) ws kC nC := by
  unfold ST at hS
  refine ex8 hS ?_
  clear hS
  intro h qp qs qj ly qh kk rd hS
  refine ex8 hS ?_
  clear hS
  intro pg ss w_now w_past w_pars w_judg w_layr w_heap hS
  refine ex6 hS ?_
  clear hS
  intro w_kept w_rnds w_plnr w_shts wm ro hS
  refine an8 hS ?_
  clear hS
  intro hac hnp hkc hpe H_now H_past H_pars H_judg hS
  refine an7 hS ?_
  clear hS
  intro H_layr H_heap H_kept H_rnds H_plnr H_shts H_ref hS
  have we_st := hS
  clear hS
  subst we_st
  refine ww_perm (ws' := [(hx, .inr (11, [.ref h, .ref qp, .int (nI ac), .int (nI np), .ref qs, .ref qj, .ref ly, .ref qh, .ref kk, .int (nI kc), .ref rd, .ref pg, .int (nI pe), .int kn, .ref ss]))] ++ (w_now ++ (w_kept ++ (w_past ++ (w_pars ++ (w_judg ++ (w_layr ++ (w_heap ++ (w_rnds ++ (w_plnr ++ (w_shts ++ (wm ++ ro)))))))))))) (List.Perm.append_left _ ((List.Perm.refl _).trans (List.Perm.append_left _ ((List.Perm.append_left _ ((List.Perm.append_left _ ((List.Perm.append_left _ ((List.Perm.append_left _ ((List.Perm.append_left _ (List.Perm.refl _)).trans (List.perm_append_comm_assoc _ _ _))).trans (List.perm_append_comm_assoc _ _ _))).trans (List.perm_append_comm_assoc _ _ _))).trans (List.perm_append_comm_assoc _ _ _))).trans (List.perm_append_comm_assoc _ _ _))))) ?_
  refine lx_keep (ro := ro) (wT := (w_past ++ (w_pars ++ (w_judg ++ (w_layr ++ (w_heap ++ (w_rnds ++ (w_plnr ++ (w_shts ++ (wm ++ ro)))))))))) (pre := (w_past ++ (w_pars ++ (w_judg ++ (w_layr ++ (w_heap ++ (w_rnds ++ (w_plnr ++ (w_shts ++ wm))))))))) C hW (by simp only [List.append_assoc]) hk hac hnp hkc hpe H_now H_kept (fun rr kcZ kVZ w_nowZ w_keptZ hkcZ H_nowZ H_keptZ hE => ?_)
  refine ww_perm (ws' := [(hx, .inr (11, [.ref h, .ref qp, .int (nI ac), .int (nI np), .ref qs, .ref qj, .ref ly, .ref qh, .ref kk, .int (nI kcZ), .ref rd, .ref pg, .int (nI pe), .int kn, .ref ss]))] ++ (w_nowZ ++ (w_past ++ (w_pars ++ (w_judg ++ (w_layr ++ (w_heap ++ (w_keptZ ++ (w_rnds ++ (w_plnr ++ (w_shts ++ (wm ++ ro)))))))))))) (List.Perm.append_left _ ((List.Perm.refl _).trans (List.Perm.append_left _ ((List.Perm.append_left _ ((List.Perm.append_left _ ((List.Perm.append_left _ ((List.Perm.append_left _ ((List.Perm.append_left _ (List.Perm.refl _)).trans (List.perm_append_comm_assoc _ _ _))).trans (List.perm_append_comm_assoc _ _ _))).trans (List.perm_append_comm_assoc _ _ _))).trans (List.perm_append_comm_assoc _ _ _))).trans (List.perm_append_comm_assoc _ _ _))))).symm ?_
  exact kont rr kVZ kcZ _ ⟨h, qp, qs, qj, ly, qh, kk, rd, pg, ss, w_nowZ, w_past, w_pars, w_judg, w_layr, w_heap, w_keptZ, w_rnds, w_plnr, w_shts, wm, ro, hac, hnp, hkcZ, hpe, H_nowZ, H_past, H_pars, H_judg, H_layr, H_heap, H_keptZ, H_rnds, H_plnr, H_shts, H_ref, rfl⟩ hE
set_option maxRecDepth 100000 in
theorem cx_stand {X : XT} {E : EV} {ws : va_W} {lv : List (Nat × Value)} {rest : List Value} {kC nC : Nat} {hx hm : Nat} {tl : Nat} {ct : Nat → Int} {pe : Nat} {kn : Int32} {ac : Nat} {np : Nat} {kc : Nat} {mN : AM} {pV : Nat → AM} {kV : Nat → AM} {st : Nat → Nat} {sn : Nat → Nat} {sl : Nat → Nat} {scx : Nat → Nat → Int32} {tT : Nat → Option SVal} {ec : Nat → Nat} {er : Nat → Nat} {ed : Nat → Nat → Int32} {eT : Nat → Nat → Option SVal} {eb : Nat → Nat → Int32} {en : Nat → Nat → Int32} {q_undos : Nat} {q_models : Nat} {PGv : Nat → AM} {f_afterOf : Nat → Int32} {f_actMany : Nat → Int32} {f_actOf : Nat → Int32} {f_whom : Nat → Int32} {f_hasIf : Nat → Int32} {f_becomes : Nat → Int32} {f_goneOf : Nat → Int32} {q_taped : Nat} {cr : Nat → Int} {q_people : Nat} {f_secrets : Nat → Int32} {f_lanes : Nat → Int32} {f_lengths : Nat → Int32} {f_cells : Nat → Int32} {f_tokens : Nat → Int32} {f_afters : Nat → Int32} {f_caseMany : Nat → Int32} {f_happen : Nat → Int32} {f_heard : Nat → Int32} {v0 : Int32} (C : CX X room_1 cL_law 4 RL ret E) (hW : Nat.ble (rest.map fun v => v.category).sum 8 = true) (hk : kC + 0 ≤ 600000 ∧ nC + 0 ≤ 7302250) (hS : ST E hx hm tl ct pe kn ac np kc mN pV kV st sn sl scx tT ec er ed eT eb en q_undos q_models PGv f_afterOf f_actMany f_actOf f_whom f_hasIf f_becomes f_goneOf q_taped cr q_people f_secrets f_lanes f_lengths f_cells f_tokens f_afters f_caseMany f_happen f_heard ws) (kont : ∀ (rr : Int32) (mNZ : AM) (pVZ : Nat → AM) (acZ : Nat) (npZ : Nat) (wsZ : va_W), ST E hx hm tl ct pe kn acZ npZ kc mNZ pVZ kV st sn sl scx tT ec er ed eT eb en q_undos q_models PGv f_afterOf f_actMany f_actOf f_whom f_hasIf f_becomes f_goneOf q_taped cr q_people f_secrets f_lanes f_lengths f_cells f_tokens f_afters f_caseMany f_happen f_heard wsZ → (((asX mNZ acZ npZ pVZ), rr) = opStand (asX mN ac np pV) kc kV v0) → WW X 4 E 1009 lv (.int rr :: rest) wsZ kC nC) : WW X 4 E 1006 lv (.int v0 :: .ref hx :: rest) ws kC nC := by
  unfold ST at hS
  refine ex8 hS ?_
  clear hS
  intro h qp qs qj ly qh kk rd hS
  refine ex8 hS ?_
  clear hS
  intro pg ss w_now w_past w_pars w_judg w_layr w_heap hS
  refine ex6 hS ?_
  clear hS
  intro w_kept w_rnds w_plnr w_shts wm ro hS
  refine an8 hS ?_
  clear hS
  intro hac hnp hkc hpe H_now H_past H_pars H_judg hS
  refine an7 hS ?_
  clear hS
  intro H_layr H_heap H_kept H_rnds H_plnr H_shts H_ref hS
  have we_st := hS
  clear hS
  subst we_st
  refine ww_perm (ws' := [(hx, .inr (11, [.ref h, .ref qp, .int (nI ac), .int (nI np), .ref qs, .ref qj, .ref ly, .ref qh, .ref kk, .int (nI kc), .ref rd, .ref pg, .int (nI pe), .int kn, .ref ss]))] ++ (w_now ++ (w_past ++ (w_kept ++ (w_pars ++ (w_judg ++ (w_layr ++ (w_heap ++ (w_rnds ++ (w_plnr ++ (w_shts ++ (wm ++ ro)))))))))))) (List.Perm.append_left _ (((List.Perm.refl _).trans (List.Perm.append_left _ (List.Perm.refl _))).trans (List.Perm.append_left _ (List.Perm.append_left _ ((List.Perm.append_left _ ((List.Perm.append_left _ ((List.Perm.append_left _ ((List.Perm.append_left _ (List.Perm.refl _)).trans (List.perm_append_comm_assoc _ _ _))).trans (List.perm_append_comm_assoc _ _ _))).trans (List.perm_append_comm_assoc _ _ _))).trans (List.perm_append_comm_assoc _ _ _)))))) ?_
  refine lx_stand (ro := ro) (wT := (w_pars ++ (w_judg ++ (w_layr ++ (w_heap ++ (w_rnds ++ (w_plnr ++ (w_shts ++ (wm ++ ro))))))))) (pre := (w_pars ++ (w_judg ++ (w_layr ++ (w_heap ++ (w_rnds ++ (w_plnr ++ (w_shts ++ wm)))))))) C hW (by simp only [List.append_assoc]) hk hac hnp hkc hpe H_now H_past H_kept (fun rr acZ npZ mNZ pVZ w_nowZ w_pastZ w_keptZ hacZ hnpZ H_nowZ H_pastZ H_keptZ hE => ?_)
  refine ww_perm (ws' := [(hx, .inr (11, [.ref h, .ref qp, .int (nI acZ), .int (nI npZ), .ref qs, .ref qj, .ref ly, .ref qh, .ref kk, .int (nI kc), .ref rd, .ref pg, .int (nI pe), .int kn, .ref ss]))] ++ (w_nowZ ++ (w_pastZ ++ (w_pars ++ (w_judg ++ (w_layr ++ (w_heap ++ (w_keptZ ++ (w_rnds ++ (w_plnr ++ (w_shts ++ (wm ++ ro)))))))))))) (List.Perm.append_left _ (((List.Perm.refl _).trans (List.Perm.append_left _ (List.Perm.refl _))).trans (List.Perm.append_left _ (List.Perm.append_left _ ((List.Perm.append_left _ ((List.Perm.append_left _ ((List.Perm.append_left _ ((List.Perm.append_left _ (List.Perm.refl _)).trans (List.perm_append_comm_assoc _ _ _))).trans (List.perm_append_comm_assoc _ _ _))).trans (List.perm_append_comm_assoc _ _ _))).trans (List.perm_append_comm_assoc _ _ _)))))).symm ?_
  exact kont rr mNZ pVZ acZ npZ _ ⟨h, qp, qs, qj, ly, qh, kk, rd, pg, ss, w_nowZ, w_pastZ, w_pars, w_judg, w_layr, w_heap, w_keptZ, w_rnds, w_plnr, w_shts, wm, ro, hacZ, hnpZ, hkc, hpe, H_nowZ, H_pastZ, H_pars, H_judg, H_layr, H_heap, H_keptZ, H_rnds, H_plnr, H_shts, H_ref, rfl⟩ hE
set_option maxRecDepth 100000 in
theorem cx_same {X : XT} {E : EV} {ws : va_W} {lv : List (Nat × Value)} {rest : List Value} {kC nC : Nat} {hx hm : Nat} {tl : Nat} {ct : Nat → Int} {pe : Nat} {kn : Int32} {ac : Nat} {np : Nat} {kc : Nat} {mN : AM} {pV : Nat → AM} {kV : Nat → AM} {st : Nat → Nat} {sn : Nat → Nat} {sl : Nat → Nat} {scx : Nat → Nat → Int32} {tT : Nat → Option SVal} {ec : Nat → Nat} {er : Nat → Nat} {ed : Nat → Nat → Int32} {eT : Nat → Nat → Option SVal} {eb : Nat → Nat → Int32} {en : Nat → Nat → Int32} {q_undos : Nat} {q_models : Nat} {PGv : Nat → AM} {f_afterOf : Nat → Int32} {f_actMany : Nat → Int32} {f_actOf : Nat → Int32} {f_whom : Nat → Int32} {f_hasIf : Nat → Int32} {f_becomes : Nat → Int32} {f_goneOf : Nat → Int32} {q_taped : Nat} {cr : Nat → Int} {q_people : Nat} {f_secrets : Nat → Int32} {f_lanes : Nat → Int32} {f_lengths : Nat → Int32} {f_cells : Nat → Int32} {f_tokens : Nat → Int32} {f_afters : Nat → Int32} {f_caseMany : Nat → Int32} {f_happen : Nat → Int32} {f_heard : Nat → Int32} {v0 : Int32} (C : CX X room_1 cL_law 4 RL ret E) (hW : Nat.ble (rest.map fun v => v.category).sum 8 = true) (hk : kC + 0 ≤ 600000 ∧ nC + 0 ≤ 7302250) (hS : ST E hx hm tl ct pe kn ac np kc mN pV kV st sn sl scx tT ec er ed eT eb en q_undos q_models PGv f_afterOf f_actMany f_actOf f_whom f_hasIf f_becomes f_goneOf q_taped cr q_people f_secrets f_lanes f_lengths f_cells f_tokens f_afters f_caseMany f_happen f_heard ws) (kont : ∀ (rr : Int32) (wsZ : va_W), ST E hx hm tl ct pe kn ac np kc mN pV kV st sn sl scx tT ec er ed eT eb en q_undos q_models PGv f_afterOf f_actMany f_actOf f_whom f_hasIf f_becomes f_goneOf q_taped cr q_people f_secrets f_lanes f_lengths f_cells f_tokens f_afters f_caseMany f_happen f_heard wsZ → (rr = ansSame mN kc kV v0) → WW X 4 E 1032 lv (.int rr :: rest) wsZ kC nC) : WW X 4 E 1029 lv (.int v0 :: .ref hx :: rest) ws kC nC := by
  unfold ST at hS
  refine ex8 hS ?_
  clear hS
  intro h qp qs qj ly qh kk rd hS
  refine ex8 hS ?_
  clear hS
  intro pg ss w_now w_past w_pars w_judg w_layr w_heap hS
  refine ex6 hS ?_
  clear hS
  intro w_kept w_rnds w_plnr w_shts wm ro hS
  refine an8 hS ?_
  clear hS
  intro hac hnp hkc hpe H_now H_past H_pars H_judg hS
  refine an7 hS ?_
  clear hS
  intro H_layr H_heap H_kept H_rnds H_plnr H_shts H_ref hS
  have we_st := hS
  clear hS
  subst we_st
  refine ww_perm (ws' := [(hx, .inr (11, [.ref h, .ref qp, .int (nI ac), .int (nI np), .ref qs, .ref qj, .ref ly, .ref qh, .ref kk, .int (nI kc), .ref rd, .ref pg, .int (nI pe), .int kn, .ref ss]))] ++ (w_now ++ (w_heap ++ (w_kept ++ (w_past ++ (w_pars ++ (w_judg ++ (w_layr ++ (w_rnds ++ (w_plnr ++ (w_shts ++ (wm ++ ro)))))))))))) (List.Perm.append_left _ (((List.Perm.refl _).trans (List.Perm.append_left _ ((List.Perm.append_left _ ((List.Perm.append_left _ ((List.Perm.append_left _ ((List.Perm.append_left _ (List.Perm.refl _)).trans (List.perm_append_comm_assoc _ _ _))).trans (List.perm_append_comm_assoc _ _ _))).trans (List.perm_append_comm_assoc _ _ _))).trans (List.perm_append_comm_assoc _ _ _)))).trans (List.Perm.append_left _ (List.Perm.append_left _ ((List.Perm.append_left _ ((List.Perm.append_left _ ((List.Perm.append_left _ ((List.Perm.append_left _ (List.Perm.refl _)).trans (List.perm_append_comm_assoc _ _ _))).trans (List.perm_append_comm_assoc _ _ _))).trans (List.perm_append_comm_assoc _ _ _))).trans (List.perm_append_comm_assoc _ _ _)))))) ?_
  refine lx_same (ro := ro) (wT := (w_past ++ (w_pars ++ (w_judg ++ (w_layr ++ (w_rnds ++ (w_plnr ++ (w_shts ++ (wm ++ ro))))))))) (pre := (w_past ++ (w_pars ++ (w_judg ++ (w_layr ++ (w_rnds ++ (w_plnr ++ (w_shts ++ wm)))))))) C hW (by simp only [List.append_assoc]) hk hac hnp hkc hpe H_now H_heap H_kept (fun rr w_nowZ w_heapZ w_keptZ H_nowZ H_heapZ H_keptZ hE => ?_)
  refine ww_perm (ws' := [(hx, .inr (11, [.ref h, .ref qp, .int (nI ac), .int (nI np), .ref qs, .ref qj, .ref ly, .ref qh, .ref kk, .int (nI kc), .ref rd, .ref pg, .int (nI pe), .int kn, .ref ss]))] ++ (w_nowZ ++ (w_past ++ (w_pars ++ (w_judg ++ (w_layr ++ (w_heapZ ++ (w_keptZ ++ (w_rnds ++ (w_plnr ++ (w_shts ++ (wm ++ ro)))))))))))) (List.Perm.append_left _ (((List.Perm.refl _).trans (List.Perm.append_left _ ((List.Perm.append_left _ ((List.Perm.append_left _ ((List.Perm.append_left _ ((List.Perm.append_left _ (List.Perm.refl _)).trans (List.perm_append_comm_assoc _ _ _))).trans (List.perm_append_comm_assoc _ _ _))).trans (List.perm_append_comm_assoc _ _ _))).trans (List.perm_append_comm_assoc _ _ _)))).trans (List.Perm.append_left _ (List.Perm.append_left _ ((List.Perm.append_left _ ((List.Perm.append_left _ ((List.Perm.append_left _ ((List.Perm.append_left _ (List.Perm.refl _)).trans (List.perm_append_comm_assoc _ _ _))).trans (List.perm_append_comm_assoc _ _ _))).trans (List.perm_append_comm_assoc _ _ _))).trans (List.perm_append_comm_assoc _ _ _)))))).symm ?_
  exact kont rr  _ ⟨h, qp, qs, qj, ly, qh, kk, rd, pg, ss, w_nowZ, w_past, w_pars, w_judg, w_layr, w_heapZ, w_keptZ, w_rnds, w_plnr, w_shts, wm, ro, hac, hnp, hkc, hpe, H_nowZ, H_past, H_pars, H_judg, H_layr, H_heapZ, H_keptZ, H_rnds, H_plnr, H_shts, H_ref, rfl⟩ hE
set_option maxRecDepth 100000 in
theorem cx_turn {X : XT} {E : EV} {ws : va_W} {lv : List (Nat × Value)} {rest : List Value} {kC nC : Nat} {hx hm : Nat} {tl : Nat} {ct : Nat → Int} {pe : Nat} {kn : Int32} {ac : Nat} {np : Nat} {kc : Nat} {mN : AM} {pV : Nat → AM} {kV : Nat → AM} {st : Nat → Nat} {sn : Nat → Nat} {sl : Nat → Nat} {scx : Nat → Nat → Int32} {tT : Nat → Option SVal} {ec : Nat → Nat} {er : Nat → Nat} {ed : Nat → Nat → Int32} {eT : Nat → Nat → Option SVal} {eb : Nat → Nat → Int32} {en : Nat → Nat → Int32} {q_undos : Nat} {q_models : Nat} {PGv : Nat → AM} {f_afterOf : Nat → Int32} {f_actMany : Nat → Int32} {f_actOf : Nat → Int32} {f_whom : Nat → Int32} {f_hasIf : Nat → Int32} {f_becomes : Nat → Int32} {f_goneOf : Nat → Int32} {q_taped : Nat} {cr : Nat → Int} {q_people : Nat} {f_secrets : Nat → Int32} {f_lanes : Nat → Int32} {f_lengths : Nat → Int32} {f_cells : Nat → Int32} {f_tokens : Nat → Int32} {f_afters : Nat → Int32} {f_caseMany : Nat → Int32} {f_happen : Nat → Int32} {f_heard : Nat → Int32} {v0 : Int32} {v1 : Int32} (C : CX X room_1 cL_law 4 RL ret E) (hW : Nat.ble (rest.map fun v => v.category).sum 8 = true) (hk : kC + 0 ≤ 600000 ∧ nC + 0 ≤ 7302250) (hS : ST E hx hm tl ct pe kn ac np kc mN pV kV st sn sl scx tT ec er ed eT eb en q_undos q_models PGv f_afterOf f_actMany f_actOf f_whom f_hasIf f_becomes f_goneOf q_taped cr q_people f_secrets f_lanes f_lengths f_cells f_tokens f_afters f_caseMany f_happen f_heard ws) (kont : ∀ (rr : Int32) (mNZ : AM) (pVZ : Nat → AM) (acZ : Nat) (npZ : Nat) (wsZ : va_W), ST E hx hm tl ct pe kn acZ npZ kc mNZ pVZ kV st sn sl scx tT ec er ed eT eb en q_undos q_models PGv f_afterOf f_actMany f_actOf f_whom f_hasIf f_becomes f_goneOf q_taped cr q_people f_secrets f_lanes f_lengths f_cells f_tokens f_afters f_caseMany f_happen f_heard wsZ → (((asX mNZ acZ npZ pVZ), rr) = opTurn (asX mN ac np pV) (ev6 ec er eT eb en ed) tT v0 v1) → WW X 4 E 1060 lv (.int rr :: rest) wsZ kC nC) : WW X 4 E 1057 lv (.int v1 :: .int v0 :: .ref hx :: rest) ws kC nC := by
  unfold ST at hS
  refine ex8 hS ?_
  clear hS
  intro h qp qs qj ly qh kk rd hS
  refine ex8 hS ?_
  clear hS
  intro pg ss w_now w_past w_pars w_judg w_layr w_heap hS
  refine ex6 hS ?_
  clear hS
  intro w_kept w_rnds w_plnr w_shts wm ro hS
  refine an8 hS ?_
  clear hS
  intro hac hnp hkc hpe H_now H_past H_pars H_judg hS
  refine an7 hS ?_
  clear hS
  intro H_layr H_heap H_kept H_rnds H_plnr H_shts H_ref hS
  have we_st := hS
  clear hS
  subst we_st
  refine ww_perm (ws' := [(hx, .inr (11, [.ref h, .ref qp, .int (nI ac), .int (nI np), .ref qs, .ref qj, .ref ly, .ref qh, .ref kk, .int (nI kc), .ref rd, .ref pg, .int (nI pe), .int kn, .ref ss]))] ++ (w_now ++ (w_past ++ (w_judg ++ (w_rnds ++ (w_pars ++ (w_layr ++ (w_heap ++ (w_kept ++ (w_plnr ++ (w_shts ++ (wm ++ ro)))))))))))) (List.Perm.append_left _ ((((List.Perm.refl _).trans (List.Perm.append_left _ (List.Perm.refl _))).trans (List.Perm.append_left _ (List.Perm.append_left _ ((List.Perm.append_left _ (List.Perm.refl _)).trans (List.perm_append_comm_assoc _ _ _))))).trans (List.Perm.append_left _ (List.Perm.append_left _ (List.Perm.append_left _ ((List.Perm.append_left _ ((List.Perm.append_left _ ((List.Perm.append_left _ ((List.Perm.append_left _ (List.Perm.refl _)).trans (List.perm_append_comm_assoc _ _ _))).trans (List.perm_append_comm_assoc _ _ _))).trans (List.perm_append_comm_assoc _ _ _))).trans (List.perm_append_comm_assoc _ _ _))))))) ?_
  refine lx_turn (ro := ro) (wT := (w_pars ++ (w_layr ++ (w_heap ++ (w_kept ++ (w_plnr ++ (w_shts ++ (wm ++ ro)))))))) (pre := (w_pars ++ (w_layr ++ (w_heap ++ (w_kept ++ (w_plnr ++ (w_shts ++ wm))))))) C hW (by simp only [List.append_assoc]) hk hac hnp hkc hpe H_now H_past H_judg H_rnds (fun rr acZ npZ mNZ pVZ w_nowZ w_pastZ w_judgZ w_rndsZ hacZ hnpZ H_nowZ H_pastZ H_judgZ H_rndsZ hE => ?_)
  refine ww_perm (ws' := [(hx, .inr (11, [.ref h, .ref qp, .int (nI acZ), .int (nI npZ), .ref qs, .ref qj, .ref ly, .ref qh, .ref kk, .int (nI kc), .ref rd, .ref pg, .int (nI pe), .int kn, .ref ss]))] ++ (w_nowZ ++ (w_pastZ ++ (w_pars ++ (w_judgZ ++ (w_layr ++ (w_heap ++ (w_kept ++ (w_rndsZ ++ (w_plnr ++ (w_shts ++ (wm ++ ro)))))))))))) (List.Perm.append_left _ ((((List.Perm.refl _).trans (List.Perm.append_left _ (List.Perm.refl _))).trans (List.Perm.append_left _ (List.Perm.append_left _ ((List.Perm.append_left _ (List.Perm.refl _)).trans (List.perm_append_comm_assoc _ _ _))))).trans (List.Perm.append_left _ (List.Perm.append_left _ (List.Perm.append_left _ ((List.Perm.append_left _ ((List.Perm.append_left _ ((List.Perm.append_left _ ((List.Perm.append_left _ (List.Perm.refl _)).trans (List.perm_append_comm_assoc _ _ _))).trans (List.perm_append_comm_assoc _ _ _))).trans (List.perm_append_comm_assoc _ _ _))).trans (List.perm_append_comm_assoc _ _ _))))))).symm ?_
  exact kont rr mNZ pVZ acZ npZ _ ⟨h, qp, qs, qj, ly, qh, kk, rd, pg, ss, w_nowZ, w_pastZ, w_pars, w_judgZ, w_layr, w_heap, w_kept, w_rndsZ, w_plnr, w_shts, wm, ro, hacZ, hnpZ, hkc, hpe, H_nowZ, H_pastZ, H_pars, H_judgZ, H_layr, H_heap, H_kept, H_rndsZ, H_plnr, H_shts, H_ref, rfl⟩ hE
set_option maxRecDepth 100000 in
theorem cx_turns {X : XT} {E : EV} {ws : va_W} {lv : List (Nat × Value)} {rest : List Value} {kC nC : Nat} {hx hm : Nat} {tl : Nat} {ct : Nat → Int} {pe : Nat} {kn : Int32} {ac : Nat} {np : Nat} {kc : Nat} {mN : AM} {pV : Nat → AM} {kV : Nat → AM} {st : Nat → Nat} {sn : Nat → Nat} {sl : Nat → Nat} {scx : Nat → Nat → Int32} {tT : Nat → Option SVal} {ec : Nat → Nat} {er : Nat → Nat} {ed : Nat → Nat → Int32} {eT : Nat → Nat → Option SVal} {eb : Nat → Nat → Int32} {en : Nat → Nat → Int32} {q_undos : Nat} {q_models : Nat} {PGv : Nat → AM} {f_afterOf : Nat → Int32} {f_actMany : Nat → Int32} {f_actOf : Nat → Int32} {f_whom : Nat → Int32} {f_hasIf : Nat → Int32} {f_becomes : Nat → Int32} {f_goneOf : Nat → Int32} {q_taped : Nat} {cr : Nat → Int} {q_people : Nat} {f_secrets : Nat → Int32} {f_lanes : Nat → Int32} {f_lengths : Nat → Int32} {f_cells : Nat → Int32} {f_tokens : Nat → Int32} {f_afters : Nat → Int32} {f_caseMany : Nat → Int32} {f_happen : Nat → Int32} {f_heard : Nat → Int32} {v0 : Int32} {v1 : Int32} {v2 : Int32} (C : CX X room_1 cL_law 4 RL ret E) (hW : Nat.ble (rest.map fun v => v.category).sum 8 = true) (hk : kC + 0 ≤ 600000 ∧ nC + 0 ≤ 7302250) (hS : ST E hx hm tl ct pe kn ac np kc mN pV kV st sn sl scx tT ec er ed eT eb en q_undos q_models PGv f_afterOf f_actMany f_actOf f_whom f_hasIf f_becomes f_goneOf q_taped cr q_people f_secrets f_lanes f_lengths f_cells f_tokens f_afters f_caseMany f_happen f_heard ws) (kont : ∀ (rr : Int32) (wsZ : va_W), ST E hx hm tl ct pe kn ac np kc mN pV kV st sn sl scx tT ec er ed eT eb en q_undos q_models PGv f_afterOf f_actMany f_actOf f_whom f_hasIf f_becomes f_goneOf q_taped cr q_people f_secrets f_lanes f_lengths f_cells f_tokens f_afters f_caseMany f_happen f_heard wsZ → (TUR mN (ev6 ec er eT eb en ed) tT v0 v1 v2 rr) → WW X 4 E 1098 lv (.int rr :: rest) wsZ kC nC) : WW X 4 E 1095 lv (.int v2 :: .int v1 :: .int v0 :: .ref hx :: rest) ws kC nC := by
  unfold ST at hS
  refine ex8 hS ?_
  clear hS
  intro h qp qs qj ly qh kk rd hS
  refine ex8 hS ?_
  clear hS
  intro pg ss w_now w_past w_pars w_judg w_layr w_heap hS
  refine ex6 hS ?_
  clear hS
  intro w_kept w_rnds w_plnr w_shts wm ro hS
  refine an8 hS ?_
  clear hS
  intro hac hnp hkc hpe H_now H_past H_pars H_judg hS
  refine an7 hS ?_
  clear hS
  intro H_layr H_heap H_kept H_rnds H_plnr H_shts H_ref hS
  have we_st := hS
  clear hS
  subst we_st
  refine ww_perm (ws' := [(hx, .inr (11, [.ref h, .ref qp, .int (nI ac), .int (nI np), .ref qs, .ref qj, .ref ly, .ref qh, .ref kk, .int (nI kc), .ref rd, .ref pg, .int (nI pe), .int kn, .ref ss]))] ++ (w_now ++ (w_judg ++ (w_rnds ++ (w_past ++ (w_pars ++ (w_layr ++ (w_heap ++ (w_kept ++ (w_plnr ++ (w_shts ++ (wm ++ ro)))))))))))) (List.Perm.append_left _ (((List.Perm.refl _).trans (List.Perm.append_left _ ((List.Perm.append_left _ ((List.Perm.append_left _ (List.Perm.refl _)).trans (List.perm_append_comm_assoc _ _ _))).trans (List.perm_append_comm_assoc _ _ _)))).trans (List.Perm.append_left _ (List.Perm.append_left _ ((List.Perm.append_left _ ((List.Perm.append_left _ ((List.Perm.append_left _ ((List.Perm.append_left _ ((List.Perm.append_left _ (List.Perm.refl _)).trans (List.perm_append_comm_assoc _ _ _))).trans (List.perm_append_comm_assoc _ _ _))).trans (List.perm_append_comm_assoc _ _ _))).trans (List.perm_append_comm_assoc _ _ _))).trans (List.perm_append_comm_assoc _ _ _)))))) ?_
  refine lx_turns (ro := ro) (wT := (w_past ++ (w_pars ++ (w_layr ++ (w_heap ++ (w_kept ++ (w_plnr ++ (w_shts ++ (wm ++ ro))))))))) (pre := (w_past ++ (w_pars ++ (w_layr ++ (w_heap ++ (w_kept ++ (w_plnr ++ (w_shts ++ wm)))))))) C hW (by simp only [List.append_assoc]) hk hac hnp hkc hpe H_now H_judg H_rnds (fun rr w_nowZ w_judgZ w_rndsZ H_nowZ H_judgZ H_rndsZ hE => ?_)
  refine ww_perm (ws' := [(hx, .inr (11, [.ref h, .ref qp, .int (nI ac), .int (nI np), .ref qs, .ref qj, .ref ly, .ref qh, .ref kk, .int (nI kc), .ref rd, .ref pg, .int (nI pe), .int kn, .ref ss]))] ++ (w_nowZ ++ (w_past ++ (w_pars ++ (w_judgZ ++ (w_layr ++ (w_heap ++ (w_kept ++ (w_rndsZ ++ (w_plnr ++ (w_shts ++ (wm ++ ro)))))))))))) (List.Perm.append_left _ (((List.Perm.refl _).trans (List.Perm.append_left _ ((List.Perm.append_left _ ((List.Perm.append_left _ (List.Perm.refl _)).trans (List.perm_append_comm_assoc _ _ _))).trans (List.perm_append_comm_assoc _ _ _)))).trans (List.Perm.append_left _ (List.Perm.append_left _ ((List.Perm.append_left _ ((List.Perm.append_left _ ((List.Perm.append_left _ ((List.Perm.append_left _ ((List.Perm.append_left _ (List.Perm.refl _)).trans (List.perm_append_comm_assoc _ _ _))).trans (List.perm_append_comm_assoc _ _ _))).trans (List.perm_append_comm_assoc _ _ _))).trans (List.perm_append_comm_assoc _ _ _))).trans (List.perm_append_comm_assoc _ _ _)))))).symm ?_
  exact kont rr  _ ⟨h, qp, qs, qj, ly, qh, kk, rd, pg, ss, w_nowZ, w_past, w_pars, w_judgZ, w_layr, w_heap, w_kept, w_rndsZ, w_plnr, w_shts, wm, ro, hac, hnp, hkc, hpe, H_nowZ, H_past, H_pars, H_judgZ, H_layr, H_heap, H_kept, H_rndsZ, H_plnr, H_shts, H_ref, rfl⟩ hE
set_option maxRecDepth 100000 in
theorem cx_plan {X : XT} {E : EV} {ws : va_W} {lv : List (Nat × Value)} {rest : List Value} {kC nC : Nat} {hx hm : Nat} {tl : Nat} {ct : Nat → Int} {pe : Nat} {kn : Int32} {ac : Nat} {np : Nat} {kc : Nat} {mN : AM} {pV : Nat → AM} {kV : Nat → AM} {st : Nat → Nat} {sn : Nat → Nat} {sl : Nat → Nat} {scx : Nat → Nat → Int32} {tT : Nat → Option SVal} {ec : Nat → Nat} {er : Nat → Nat} {ed : Nat → Nat → Int32} {eT : Nat → Nat → Option SVal} {eb : Nat → Nat → Int32} {en : Nat → Nat → Int32} {q_undos : Nat} {q_models : Nat} {PGv : Nat → AM} {f_afterOf : Nat → Int32} {f_actMany : Nat → Int32} {f_actOf : Nat → Int32} {f_whom : Nat → Int32} {f_hasIf : Nat → Int32} {f_becomes : Nat → Int32} {f_goneOf : Nat → Int32} {q_taped : Nat} {cr : Nat → Int} {q_people : Nat} {f_secrets : Nat → Int32} {f_lanes : Nat → Int32} {f_lengths : Nat → Int32} {f_cells : Nat → Int32} {f_tokens : Nat → Int32} {f_afters : Nat → Int32} {f_caseMany : Nat → Int32} {f_happen : Nat → Int32} {f_heard : Nat → Int32} {v0 : Int32} {v1 : Int32} {v2 : Int32} {v3 : Int32} (C : CX X room_1 cL_law 4 RL ret E) (hW : Nat.ble (rest.map fun v => v.category).sum 8 = true) (hk : kC + 0 ≤ 600000 ∧ nC + 0 ≤ 7302250) (hS : ST E hx hm tl ct pe kn ac np kc mN pV kV st sn sl scx tT ec er ed eT eb en q_undos q_models PGv f_afterOf f_actMany f_actOf f_whom f_hasIf f_becomes f_goneOf q_taped cr q_people f_secrets f_lanes f_lengths f_cells f_tokens f_afters f_caseMany f_happen f_heard ws) (kont : ∀ (rr : Int32) (wsZ : va_W), ST E hx hm tl ct pe kn ac np kc mN pV kV st sn sl scx tT ec er ed eT eb en q_undos q_models PGv f_afterOf f_actMany f_actOf f_whom f_hasIf f_becomes f_goneOf q_taped cr q_people f_secrets f_lanes f_lengths f_cells f_tokens f_afters f_caseMany f_happen f_heard wsZ → (PLA mN (ev6 ec er eT eb en ed) tT v0 v1 v2 v3 rr) → WW X 4 E 1146 lv (.int rr :: rest) wsZ kC nC) : WW X 4 E 1143 lv (.int v3 :: .int v2 :: .int v1 :: .int v0 :: .ref hx :: rest) ws kC nC := by
  unfold ST at hS
  refine ex8 hS ?_
  clear hS
  intro h qp qs qj ly qh kk rd hS
  refine ex8 hS ?_
  clear hS
  intro pg ss w_now w_past w_pars w_judg w_layr w_heap hS
  refine ex6 hS ?_
  clear hS
  intro w_kept w_rnds w_plnr w_shts wm ro hS
  refine an8 hS ?_
  clear hS
  intro hac hnp hkc hpe H_now H_past H_pars H_judg hS
  refine an7 hS ?_
  clear hS
  intro H_layr H_heap H_kept H_rnds H_plnr H_shts H_ref hS
  have we_st := hS
  clear hS
  subst we_st
  refine ww_perm (ws' := [(hx, .inr (11, [.ref h, .ref qp, .int (nI ac), .int (nI np), .ref qs, .ref qj, .ref ly, .ref qh, .ref kk, .int (nI kc), .ref rd, .ref pg, .int (nI pe), .int kn, .ref ss]))] ++ (w_now ++ (w_judg ++ (w_plnr ++ (w_past ++ (w_pars ++ (w_layr ++ (w_heap ++ (w_kept ++ (w_rnds ++ (w_shts ++ (wm ++ ro)))))))))))) (List.Perm.append_left _ (((List.Perm.refl _).trans (List.Perm.append_left _ ((List.Perm.append_left _ ((List.Perm.append_left _ (List.Perm.refl _)).trans (List.perm_append_comm_assoc _ _ _))).trans (List.perm_append_comm_assoc _ _ _)))).trans (List.Perm.append_left _ (List.Perm.append_left _ ((List.Perm.append_left _ ((List.Perm.append_left _ ((List.Perm.append_left _ ((List.Perm.append_left _ ((List.Perm.append_left _ ((List.Perm.append_left _ (List.Perm.refl _)).trans (List.perm_append_comm_assoc _ _ _))).trans (List.perm_append_comm_assoc _ _ _))).trans (List.perm_append_comm_assoc _ _ _))).trans (List.perm_append_comm_assoc _ _ _))).trans (List.perm_append_comm_assoc _ _ _))).trans (List.perm_append_comm_assoc _ _ _)))))) ?_
  refine lx_plan (ro := ro) (wT := (w_past ++ (w_pars ++ (w_layr ++ (w_heap ++ (w_kept ++ (w_rnds ++ (w_shts ++ (wm ++ ro))))))))) (pre := (w_past ++ (w_pars ++ (w_layr ++ (w_heap ++ (w_kept ++ (w_rnds ++ (w_shts ++ wm)))))))) C hW (by simp only [List.append_assoc]) hk hac hnp hkc hpe H_now H_judg H_plnr (fun rr w_nowZ w_judgZ w_plnrZ H_nowZ H_judgZ H_plnrZ hE => ?_)
  refine ww_perm (ws' := [(hx, .inr (11, [.ref h, .ref qp, .int (nI ac), .int (nI np), .ref qs, .ref qj, .ref ly, .ref qh, .ref kk, .int (nI kc), .ref rd, .ref pg, .int (nI pe), .int kn, .ref ss]))] ++ (w_nowZ ++ (w_past ++ (w_pars ++ (w_judgZ ++ (w_layr ++ (w_heap ++ (w_kept ++ (w_rnds ++ (w_plnrZ ++ (w_shts ++ (wm ++ ro)))))))))))) (List.Perm.append_left _ (((List.Perm.refl _).trans (List.Perm.append_left _ ((List.Perm.append_left _ ((List.Perm.append_left _ (List.Perm.refl _)).trans (List.perm_append_comm_assoc _ _ _))).trans (List.perm_append_comm_assoc _ _ _)))).trans (List.Perm.append_left _ (List.Perm.append_left _ ((List.Perm.append_left _ ((List.Perm.append_left _ ((List.Perm.append_left _ ((List.Perm.append_left _ ((List.Perm.append_left _ ((List.Perm.append_left _ (List.Perm.refl _)).trans (List.perm_append_comm_assoc _ _ _))).trans (List.perm_append_comm_assoc _ _ _))).trans (List.perm_append_comm_assoc _ _ _))).trans (List.perm_append_comm_assoc _ _ _))).trans (List.perm_append_comm_assoc _ _ _))).trans (List.perm_append_comm_assoc _ _ _)))))).symm ?_
  exact kont rr  _ ⟨h, qp, qs, qj, ly, qh, kk, rd, pg, ss, w_nowZ, w_past, w_pars, w_judgZ, w_layr, w_heap, w_kept, w_rnds, w_plnrZ, w_shts, wm, ro, hac, hnp, hkc, hpe, H_nowZ, H_past, H_pars, H_judgZ, H_layr, H_heap, H_kept, H_rnds, H_plnrZ, H_shts, H_ref, rfl⟩ hE
set_option maxRecDepth 100000 in
theorem cx_people {X : XT} {E : EV} {ws : va_W} {lv : List (Nat × Value)} {rest : List Value} {kC nC : Nat} {hx hm : Nat} {tl : Nat} {ct : Nat → Int} {pe : Nat} {kn : Int32} {ac : Nat} {np : Nat} {kc : Nat} {mN : AM} {pV : Nat → AM} {kV : Nat → AM} {st : Nat → Nat} {sn : Nat → Nat} {sl : Nat → Nat} {scx : Nat → Nat → Int32} {tT : Nat → Option SVal} {ec : Nat → Nat} {er : Nat → Nat} {ed : Nat → Nat → Int32} {eT : Nat → Nat → Option SVal} {eb : Nat → Nat → Int32} {en : Nat → Nat → Int32} {q_undos : Nat} {q_models : Nat} {PGv : Nat → AM} {f_afterOf : Nat → Int32} {f_actMany : Nat → Int32} {f_actOf : Nat → Int32} {f_whom : Nat → Int32} {f_hasIf : Nat → Int32} {f_becomes : Nat → Int32} {f_goneOf : Nat → Int32} {q_taped : Nat} {cr : Nat → Int} {q_people : Nat} {f_secrets : Nat → Int32} {f_lanes : Nat → Int32} {f_lengths : Nat → Int32} {f_cells : Nat → Int32} {f_tokens : Nat → Int32} {f_afters : Nat → Int32} {f_caseMany : Nat → Int32} {f_happen : Nat → Int32} {f_heard : Nat → Int32} {v0 : Int32} (C : CX X room_1 cL_law 4 RL ret E) (hW : Nat.ble (rest.map fun v => v.category).sum 8 = true) (hk : kC + 0 ≤ 600000 ∧ nC + 0 ≤ 7302250) (hS : ST E hx hm tl ct pe kn ac np kc mN pV kV st sn sl scx tT ec er ed eT eb en q_undos q_models PGv f_afterOf f_actMany f_actOf f_whom f_hasIf f_becomes f_goneOf q_taped cr q_people f_secrets f_lanes f_lengths f_cells f_tokens f_afters f_caseMany f_happen f_heard ws) (kont : ∀ (rr : Int32) (peZ : Nat) (knZ : Int32) (wsZ : va_W), ST E hx hm tl ct peZ knZ ac np kc mN pV kV st sn sl scx tT ec er ed eT eb en q_undos q_models PGv f_afterOf f_actMany f_actOf f_whom f_hasIf f_becomes f_goneOf q_taped cr q_people f_secrets f_lanes f_lengths f_cells f_tokens f_afters f_caseMany f_happen f_heard wsZ → (((v0.toInt < 2 ∨ 4 < v0.toInt) ∧ peZ = pe ∧ knZ = kn ∧ rr = -1) ∨ (v0.toInt = 2 ∧ peZ = 2 ∧ knZ = 33 ∧ rr = 2) ∨ (v0.toInt = 3 ∧ peZ = 3 ∧ knZ = 1057 ∧ rr = 3) ∨ (v0.toInt = 4 ∧ peZ = 4 ∧ knZ = 33825 ∧ rr = 4)) → WW X 4 E 1184 lv (.int rr :: rest) wsZ kC nC) : WW X 4 E 1181 lv (.int v0 :: .ref hx :: rest) ws kC nC := by
  unfold ST at hS
  refine ex8 hS ?_
  clear hS
  intro h qp qs qj ly qh kk rd hS
  refine ex8 hS ?_
  clear hS
  intro pg ss w_now w_past w_pars w_judg w_layr w_heap hS
  refine ex6 hS ?_
  clear hS
  intro w_kept w_rnds w_plnr w_shts wm ro hS
  refine an8 hS ?_
  clear hS
  intro hac hnp hkc hpe H_now H_past H_pars H_judg hS
  refine an7 hS ?_
  clear hS
  intro H_layr H_heap H_kept H_rnds H_plnr H_shts H_ref hS
  have we_st := hS
  clear hS
  subst we_st
  refine ww_perm (ws' := [(hx, .inr (11, [.ref h, .ref qp, .int (nI ac), .int (nI np), .ref qs, .ref qj, .ref ly, .ref qh, .ref kk, .int (nI kc), .ref rd, .ref pg, .int (nI pe), .int kn, .ref ss]))] ++ (w_now ++ (w_past ++ (w_pars ++ (w_judg ++ (w_layr ++ (w_heap ++ (w_kept ++ (w_rnds ++ (w_plnr ++ (w_shts ++ (wm ++ ro)))))))))))) (List.Perm.append_left _ (List.Perm.refl _)) ?_
  refine lx_people (ro := ro) (wT := (w_now ++ (w_past ++ (w_pars ++ (w_judg ++ (w_layr ++ (w_heap ++ (w_kept ++ (w_rnds ++ (w_plnr ++ (w_shts ++ (wm ++ ro)))))))))))) (pre := (w_now ++ (w_past ++ (w_pars ++ (w_judg ++ (w_layr ++ (w_heap ++ (w_kept ++ (w_rnds ++ (w_plnr ++ (w_shts ++ wm))))))))))) C hW (by simp only [List.append_assoc]) hk hac hnp hkc hpe  (fun rr peZ knZ hpeZ hE => ?_)
  refine ww_perm (ws' := [(hx, .inr (11, [.ref h, .ref qp, .int (nI ac), .int (nI np), .ref qs, .ref qj, .ref ly, .ref qh, .ref kk, .int (nI kc), .ref rd, .ref pg, .int (nI peZ), .int knZ, .ref ss]))] ++ (w_now ++ (w_past ++ (w_pars ++ (w_judg ++ (w_layr ++ (w_heap ++ (w_kept ++ (w_rnds ++ (w_plnr ++ (w_shts ++ (wm ++ ro)))))))))))) (List.Perm.append_left _ (List.Perm.refl _)).symm ?_
  exact kont rr peZ knZ _ ⟨h, qp, qs, qj, ly, qh, kk, rd, pg, ss, w_now, w_past, w_pars, w_judg, w_layr, w_heap, w_kept, w_rnds, w_plnr, w_shts, wm, ro, hac, hnp, hkc, hpeZ, H_now, H_past, H_pars, H_judg, H_layr, H_heap, H_kept, H_rnds, H_plnr, H_shts, H_ref, rfl⟩ hE
set_option maxRecDepth 100000 in
theorem cx_call {X : XT} {E : EV} {ws : va_W} {lv : List (Nat × Value)} {rest : List Value} {kC nC : Nat} {hx hm : Nat} {tl : Nat} {ct : Nat → Int} {pe : Nat} {kn : Int32} {ac : Nat} {np : Nat} {kc : Nat} {mN : AM} {pV : Nat → AM} {kV : Nat → AM} {st : Nat → Nat} {sn : Nat → Nat} {sl : Nat → Nat} {scx : Nat → Nat → Int32} {tT : Nat → Option SVal} {ec : Nat → Nat} {er : Nat → Nat} {ed : Nat → Nat → Int32} {eT : Nat → Nat → Option SVal} {eb : Nat → Nat → Int32} {en : Nat → Nat → Int32} {q_undos : Nat} {q_models : Nat} {PGv : Nat → AM} {f_afterOf : Nat → Int32} {f_actMany : Nat → Int32} {f_actOf : Nat → Int32} {f_whom : Nat → Int32} {f_hasIf : Nat → Int32} {f_becomes : Nat → Int32} {f_goneOf : Nat → Int32} {q_taped : Nat} {cr : Nat → Int} {q_people : Nat} {f_secrets : Nat → Int32} {f_lanes : Nat → Int32} {f_lengths : Nat → Int32} {f_cells : Nat → Int32} {f_tokens : Nat → Int32} {f_afters : Nat → Int32} {f_caseMany : Nat → Int32} {f_happen : Nat → Int32} {f_heard : Nat → Int32} {v0 : Int32} {v1 : Int32} (C : CX X room_1 cL_law 4 RL ret E) (hW : Nat.ble (rest.map fun v => v.category).sum 8 = true) (hk : kC + 0 ≤ 600000 ∧ nC + 0 ≤ 7302250) (hS : ST E hx hm tl ct pe kn ac np kc mN pV kV st sn sl scx tT ec er ed eT eb en q_undos q_models PGv f_afterOf f_actMany f_actOf f_whom f_hasIf f_becomes f_goneOf q_taped cr q_people f_secrets f_lanes f_lengths f_cells f_tokens f_afters f_caseMany f_happen f_heard ws) (kont : ∀ (rr : Int32) (knZ : Int32) (wsZ : va_W), ST E hx hm tl ct pe knZ ac np kc mN pV kV st sn sl scx tT ec er ed eT eb en q_undos q_models PGv f_afterOf f_actMany f_actOf f_whom f_hasIf f_becomes f_goneOf q_taped cr q_people f_secrets f_lanes f_lengths f_cells f_tokens f_afters f_caseMany f_happen f_heard wsZ → (((v0.toInt < 0 ∨ (pe : Int) ≤ v0.toInt ∨ v1.toInt < 0 ∨ (pe : Int) ≤ v1.toInt ∨ v0.toInt = v1.toInt) ∧ knZ = kn ∧ rr = -1) ∨ ∃ i j : Nat, v0 = nI i ∧ v1 = nI j ∧ i < pe ∧ j < pe ∧ i ≠ j ∧ knZ = cl kn i j ∧ rr = bcf (sc (cl kn i j) i)) → WW X 4 E 1212 lv (.int rr :: rest) wsZ kC nC) : WW X 4 E 1209 lv (.int v1 :: .int v0 :: .ref hx :: rest) ws kC nC := by
  unfold ST at hS
  refine ex8 hS ?_
  clear hS
  intro h qp qs qj ly qh kk rd hS
  refine ex8 hS ?_
  clear hS
  intro pg ss w_now w_past w_pars w_judg w_layr w_heap hS
  refine ex6 hS ?_
  clear hS
  intro w_kept w_rnds w_plnr w_shts wm ro hS
  refine an8 hS ?_
  clear hS
  intro hac hnp hkc hpe H_now H_past H_pars H_judg hS
  refine an7 hS ?_
  clear hS
  intro H_layr H_heap H_kept H_rnds H_plnr H_shts H_ref hS
  have we_st := hS
  clear hS
  subst we_st
  refine ww_perm (ws' := [(hx, .inr (11, [.ref h, .ref qp, .int (nI ac), .int (nI np), .ref qs, .ref qj, .ref ly, .ref qh, .ref kk, .int (nI kc), .ref rd, .ref pg, .int (nI pe), .int kn, .ref ss]))] ++ (w_now ++ (w_past ++ (w_pars ++ (w_judg ++ (w_layr ++ (w_heap ++ (w_kept ++ (w_rnds ++ (w_plnr ++ (w_shts ++ (wm ++ ro)))))))))))) (List.Perm.append_left _ (List.Perm.refl _)) ?_
  refine lx_call (ro := ro) (wT := (w_now ++ (w_past ++ (w_pars ++ (w_judg ++ (w_layr ++ (w_heap ++ (w_kept ++ (w_rnds ++ (w_plnr ++ (w_shts ++ (wm ++ ro)))))))))))) (pre := (w_now ++ (w_past ++ (w_pars ++ (w_judg ++ (w_layr ++ (w_heap ++ (w_kept ++ (w_rnds ++ (w_plnr ++ (w_shts ++ wm))))))))))) C hW (by simp only [List.append_assoc]) hk hac hnp hkc hpe  (fun rr knZ hE => ?_)
  refine ww_perm (ws' := [(hx, .inr (11, [.ref h, .ref qp, .int (nI ac), .int (nI np), .ref qs, .ref qj, .ref ly, .ref qh, .ref kk, .int (nI kc), .ref rd, .ref pg, .int (nI pe), .int knZ, .ref ss]))] ++ (w_now ++ (w_past ++ (w_pars ++ (w_judg ++ (w_layr ++ (w_heap ++ (w_kept ++ (w_rnds ++ (w_plnr ++ (w_shts ++ (wm ++ ro)))))))))))) (List.Perm.append_left _ (List.Perm.refl _)).symm ?_
  exact kont rr knZ _ ⟨h, qp, qs, qj, ly, qh, kk, rd, pg, ss, w_now, w_past, w_pars, w_judg, w_layr, w_heap, w_kept, w_rnds, w_plnr, w_shts, wm, ro, hac, hnp, hkc, hpe, H_now, H_past, H_pars, H_judg, H_layr, H_heap, H_kept, H_rnds, H_plnr, H_shts, H_ref, rfl⟩ hE
set_option maxRecDepth 100000 in
theorem cx_secrets {X : XT} {E : EV} {ws : va_W} {lv : List (Nat × Value)} {rest : List Value} {kC nC : Nat} {hx hm : Nat} {tl : Nat} {ct : Nat → Int} {pe : Nat} {kn : Int32} {ac : Nat} {np : Nat} {kc : Nat} {mN : AM} {pV : Nat → AM} {kV : Nat → AM} {st : Nat → Nat} {sn : Nat → Nat} {sl : Nat → Nat} {scx : Nat → Nat → Int32} {tT : Nat → Option SVal} {ec : Nat → Nat} {er : Nat → Nat} {ed : Nat → Nat → Int32} {eT : Nat → Nat → Option SVal} {eb : Nat → Nat → Int32} {en : Nat → Nat → Int32} {q_undos : Nat} {q_models : Nat} {PGv : Nat → AM} {f_afterOf : Nat → Int32} {f_actMany : Nat → Int32} {f_actOf : Nat → Int32} {f_whom : Nat → Int32} {f_hasIf : Nat → Int32} {f_becomes : Nat → Int32} {f_goneOf : Nat → Int32} {q_taped : Nat} {cr : Nat → Int} {q_people : Nat} {f_secrets : Nat → Int32} {f_lanes : Nat → Int32} {f_lengths : Nat → Int32} {f_cells : Nat → Int32} {f_tokens : Nat → Int32} {f_afters : Nat → Int32} {f_caseMany : Nat → Int32} {f_happen : Nat → Int32} {f_heard : Nat → Int32} {v0 : Int32} (C : CX X room_1 cL_law 4 RL ret E) (hW : Nat.ble (rest.map fun v => v.category).sum 8 = true) (hk : kC + 0 ≤ 600000 ∧ nC + 0 ≤ 7302250) (hS : ST E hx hm tl ct pe kn ac np kc mN pV kV st sn sl scx tT ec er ed eT eb en q_undos q_models PGv f_afterOf f_actMany f_actOf f_whom f_hasIf f_becomes f_goneOf q_taped cr q_people f_secrets f_lanes f_lengths f_cells f_tokens f_afters f_caseMany f_happen f_heard ws) (kont : ∀ (rr : Int32) (wsZ : va_W), ST E hx hm tl ct pe kn ac np kc mN pV kV st sn sl scx tT ec er ed eT eb en q_undos q_models PGv f_afterOf f_actMany f_actOf f_whom f_hasIf f_becomes f_goneOf q_taped cr q_people f_secrets f_lanes f_lengths f_cells f_tokens f_afters f_caseMany f_happen f_heard wsZ → (((v0.toInt < 0 ∨ (pe : Int) ≤ v0.toInt) ∧ rr = -1) ∨ ∃ i : Nat, v0 = nI i ∧ i < pe ∧ rr = sc kn i) → WW X 4 E 1240 lv (.int rr :: rest) wsZ kC nC) : WW X 4 E 1237 lv (.int v0 :: .ref hx :: rest) ws kC nC := by
  unfold ST at hS
  refine ex8 hS ?_
  clear hS
  intro h qp qs qj ly qh kk rd hS
  refine ex8 hS ?_
  clear hS
  intro pg ss w_now w_past w_pars w_judg w_layr w_heap hS
  refine ex6 hS ?_
  clear hS
  intro w_kept w_rnds w_plnr w_shts wm ro hS
  refine an8 hS ?_
  clear hS
  intro hac hnp hkc hpe H_now H_past H_pars H_judg hS
  refine an7 hS ?_
  clear hS
  intro H_layr H_heap H_kept H_rnds H_plnr H_shts H_ref hS
  have we_st := hS
  clear hS
  subst we_st
  refine ww_perm (ws' := [(hx, .inr (11, [.ref h, .ref qp, .int (nI ac), .int (nI np), .ref qs, .ref qj, .ref ly, .ref qh, .ref kk, .int (nI kc), .ref rd, .ref pg, .int (nI pe), .int kn, .ref ss]))] ++ (w_now ++ (w_past ++ (w_pars ++ (w_judg ++ (w_layr ++ (w_heap ++ (w_kept ++ (w_rnds ++ (w_plnr ++ (w_shts ++ (wm ++ ro)))))))))))) (List.Perm.append_left _ (List.Perm.refl _)) ?_
  refine lx_secrets (ro := ro) (wT := (w_now ++ (w_past ++ (w_pars ++ (w_judg ++ (w_layr ++ (w_heap ++ (w_kept ++ (w_rnds ++ (w_plnr ++ (w_shts ++ (wm ++ ro)))))))))))) (pre := (w_now ++ (w_past ++ (w_pars ++ (w_judg ++ (w_layr ++ (w_heap ++ (w_kept ++ (w_rnds ++ (w_plnr ++ (w_shts ++ wm))))))))))) C hW (by simp only [List.append_assoc]) hk hac hnp hkc hpe  (fun rr hE => ?_)
  refine ww_perm (ws' := [(hx, .inr (11, [.ref h, .ref qp, .int (nI ac), .int (nI np), .ref qs, .ref qj, .ref ly, .ref qh, .ref kk, .int (nI kc), .ref rd, .ref pg, .int (nI pe), .int kn, .ref ss]))] ++ (w_now ++ (w_past ++ (w_pars ++ (w_judg ++ (w_layr ++ (w_heap ++ (w_kept ++ (w_rnds ++ (w_plnr ++ (w_shts ++ (wm ++ ro)))))))))))) (List.Perm.append_left _ (List.Perm.refl _)).symm ?_
  exact kont rr  _ ⟨h, qp, qs, qj, ly, qh, kk, rd, pg, ss, w_now, w_past, w_pars, w_judg, w_layr, w_heap, w_kept, w_rnds, w_plnr, w_shts, wm, ro, hac, hnp, hkc, hpe, H_now, H_past, H_pars, H_judg, H_layr, H_heap, H_kept, H_rnds, H_plnr, H_shts, H_ref, rfl⟩ hE
set_option maxRecDepth 100000 in
theorem cx_fewest {X : XT} {E : EV} {ws : va_W} {lv : List (Nat × Value)} {rest : List Value} {kC nC : Nat} {hx hm : Nat} {tl : Nat} {ct : Nat → Int} {pe : Nat} {kn : Int32} {ac : Nat} {np : Nat} {kc : Nat} {mN : AM} {pV : Nat → AM} {kV : Nat → AM} {st : Nat → Nat} {sn : Nat → Nat} {sl : Nat → Nat} {scx : Nat → Nat → Int32} {tT : Nat → Option SVal} {ec : Nat → Nat} {er : Nat → Nat} {ed : Nat → Nat → Int32} {eT : Nat → Nat → Option SVal} {eb : Nat → Nat → Int32} {en : Nat → Nat → Int32} {q_undos : Nat} {q_models : Nat} {PGv : Nat → AM} {f_afterOf : Nat → Int32} {f_actMany : Nat → Int32} {f_actOf : Nat → Int32} {f_whom : Nat → Int32} {f_hasIf : Nat → Int32} {f_becomes : Nat → Int32} {f_goneOf : Nat → Int32} {q_taped : Nat} {cr : Nat → Int} {q_people : Nat} {f_secrets : Nat → Int32} {f_lanes : Nat → Int32} {f_lengths : Nat → Int32} {f_cells : Nat → Int32} {f_tokens : Nat → Int32} {f_afters : Nat → Int32} {f_caseMany : Nat → Int32} {f_happen : Nat → Int32} {f_heard : Nat → Int32} {v0 : Int32} (C : CX X room_1 cL_law 4 RL ret E) (hW : Nat.ble (rest.map fun v => v.category).sum 8 = true) (hk : kC + 0 ≤ 600000 ∧ nC + 0 ≤ 7302250) (hS : ST E hx hm tl ct pe kn ac np kc mN pV kV st sn sl scx tT ec er ed eT eb en q_undos q_models PGv f_afterOf f_actMany f_actOf f_whom f_hasIf f_becomes f_goneOf q_taped cr q_people f_secrets f_lanes f_lengths f_cells f_tokens f_afters f_caseMany f_happen f_heard ws) (kont : ∀ (rr : Int32) (wsZ : va_W), ST E hx hm tl ct pe kn ac np kc mN pV kV st sn sl scx tT ec er ed eT eb en q_undos q_models PGv f_afterOf f_actMany f_actOf f_whom f_hasIf f_becomes f_goneOf q_taped cr q_people f_secrets f_lanes f_lengths f_cells f_tokens f_afters f_caseMany f_happen f_heard wsZ → (FWx pe (cpL pe) (sc kn) v0 rr) → WW X 4 E 1263 lv (.int rr :: rest) wsZ kC nC) : WW X 4 E 1260 lv (.int v0 :: .ref hx :: rest) ws kC nC := by
  unfold ST at hS
  refine ex8 hS ?_
  clear hS
  intro h qp qs qj ly qh kk rd hS
  refine ex8 hS ?_
  clear hS
  intro pg ss w_now w_past w_pars w_judg w_layr w_heap hS
  refine ex6 hS ?_
  clear hS
  intro w_kept w_rnds w_plnr w_shts wm ro hS
  refine an8 hS ?_
  clear hS
  intro hac hnp hkc hpe H_now H_past H_pars H_judg hS
  refine an7 hS ?_
  clear hS
  intro H_layr H_heap H_kept H_rnds H_plnr H_shts H_ref hS
  have we_st := hS
  clear hS
  subst we_st
  refine ww_perm (ws' := [(hx, .inr (11, [.ref h, .ref qp, .int (nI ac), .int (nI np), .ref qs, .ref qj, .ref ly, .ref qh, .ref kk, .int (nI kc), .ref rd, .ref pg, .int (nI pe), .int kn, .ref ss]))] ++ (w_now ++ (w_past ++ (w_pars ++ (w_judg ++ (w_layr ++ (w_heap ++ (w_kept ++ (w_rnds ++ (w_plnr ++ (w_shts ++ (wm ++ ro)))))))))))) (List.Perm.append_left _ (List.Perm.refl _)) ?_
  refine lx_fewest (ro := ro) (wT := (w_now ++ (w_past ++ (w_pars ++ (w_judg ++ (w_layr ++ (w_heap ++ (w_kept ++ (w_rnds ++ (w_plnr ++ (w_shts ++ (wm ++ ro)))))))))))) (pre := (w_now ++ (w_past ++ (w_pars ++ (w_judg ++ (w_layr ++ (w_heap ++ (w_kept ++ (w_rnds ++ (w_plnr ++ (w_shts ++ wm))))))))))) C hW (by simp only [List.append_assoc]) hk hac hnp hkc hpe  (fun rr hE => ?_)
  refine ww_perm (ws' := [(hx, .inr (11, [.ref h, .ref qp, .int (nI ac), .int (nI np), .ref qs, .ref qj, .ref ly, .ref qh, .ref kk, .int (nI kc), .ref rd, .ref pg, .int (nI pe), .int kn, .ref ss]))] ++ (w_now ++ (w_past ++ (w_pars ++ (w_judg ++ (w_layr ++ (w_heap ++ (w_kept ++ (w_rnds ++ (w_plnr ++ (w_shts ++ (wm ++ ro)))))))))))) (List.Perm.append_left _ (List.Perm.refl _)).symm ?_
  exact kont rr  _ ⟨h, qp, qs, qj, ly, qh, kk, rd, pg, ss, w_now, w_past, w_pars, w_judg, w_layr, w_heap, w_kept, w_rnds, w_plnr, w_shts, wm, ro, hac, hnp, hkc, hpe, H_now, H_past, H_pars, H_judg, H_layr, H_heap, H_kept, H_rnds, H_plnr, H_shts, H_ref, rfl⟩ hE
set_option maxRecDepth 100000 in
theorem cx_sheet {X : XT} {E : EV} {ws : va_W} {lv : List (Nat × Value)} {rest : List Value} {kC nC : Nat} {hx hm : Nat} {tl : Nat} {ct : Nat → Int} {pe : Nat} {kn : Int32} {ac : Nat} {np : Nat} {kc : Nat} {mN : AM} {pV : Nat → AM} {kV : Nat → AM} {st : Nat → Nat} {sn : Nat → Nat} {sl : Nat → Nat} {scx : Nat → Nat → Int32} {tT : Nat → Option SVal} {ec : Nat → Nat} {er : Nat → Nat} {ed : Nat → Nat → Int32} {eT : Nat → Nat → Option SVal} {eb : Nat → Nat → Int32} {en : Nat → Nat → Int32} {q_undos : Nat} {q_models : Nat} {PGv : Nat → AM} {f_afterOf : Nat → Int32} {f_actMany : Nat → Int32} {f_actOf : Nat → Int32} {f_whom : Nat → Int32} {f_hasIf : Nat → Int32} {f_becomes : Nat → Int32} {f_goneOf : Nat → Int32} {q_taped : Nat} {cr : Nat → Int} {q_people : Nat} {f_secrets : Nat → Int32} {f_lanes : Nat → Int32} {f_lengths : Nat → Int32} {f_cells : Nat → Int32} {f_tokens : Nat → Int32} {f_afters : Nat → Int32} {f_caseMany : Nat → Int32} {f_happen : Nat → Int32} {f_heard : Nat → Int32} {v0 : Int32} {v1 : Int32} {v2 : Int32} (C : CX X room_1 cL_law 4 RL ret E) (hW : Nat.ble (rest.map fun v => v.category).sum 8 = true) (hk : kC + 0 ≤ 600000 ∧ nC + 0 ≤ 7302250) (hS : ST E hx hm tl ct pe kn ac np kc mN pV kV st sn sl scx tT ec er ed eT eb en q_undos q_models PGv f_afterOf f_actMany f_actOf f_whom f_hasIf f_becomes f_goneOf q_taped cr q_people f_secrets f_lanes f_lengths f_cells f_tokens f_afters f_caseMany f_happen f_heard ws) (kont : ∀ (rr : Int32) (stZ : Nat → Nat) (snZ : Nat → Nat) (slZ : Nat → Nat) (scxZ : Nat → Nat → Int32) (wsZ : va_W), ST E hx hm tl ct pe kn ac np kc mN pV kV stZ snZ slZ scxZ tT ec er ed eT eb en q_undos q_models PGv f_afterOf f_actMany f_actOf f_whom f_hasIf f_becomes f_goneOf q_taped cr q_people f_secrets f_lanes f_lengths f_cells f_tokens f_afters f_caseMany f_happen f_heard wsZ → (((v0.toInt < 0 ∨ 3 < v0.toInt ∨ v1.toInt < 0 ∨ 2 < v1.toInt ∨ 48 < v2.toInt) ∧ rr = -1 ∧ stZ = st ∧ snZ = sn ∧ slZ = sl ∧ scxZ = scx) ∨ ((0 ≤ v0.toInt ∧ v0.toInt ≤ 3 ∧ 0 ≤ v1.toInt ∧ v1.toInt ≤ 2 ∧ v2.toInt < 0) ∧ rr = -14 ∧ stZ = st ∧ snZ = sn ∧ slZ = sl ∧ scxZ = scx) ∨ ∃ k_ l_ n_ : Nat, v0 = nI k_ ∧ v1 = nI l_ ∧ v2 = nI n_ ∧ k_ ≤ 3 ∧ l_ ≤ 2 ∧ n_ ≤ 48 ∧ (∀ i, i < 4 → stZ i = if i = k_ then 1 else st i) ∧ (∀ i, i < 4 → snZ i = if i = k_ then n_ else sn i) ∧ (∀ i, i < 4 → slZ i = if i = k_ then l_ else sl i) ∧ (∀ i, i < 4 → i ≠ k_ → scxZ i = scx i) ∧ Z0x n_ (scxZ k_) ∧ rr = 1) → WW X 4 E 1296 lv (.int rr :: rest) wsZ kC nC) : WW X 4 E 1293 lv (.int v2 :: .int v1 :: .int v0 :: .ref hx :: rest) ws kC nC := by
  unfold ST at hS
  refine ex8 hS ?_
  clear hS
  intro h qp qs qj ly qh kk rd hS
  refine ex8 hS ?_
  clear hS
  intro pg ss w_now w_past w_pars w_judg w_layr w_heap hS
  refine ex6 hS ?_
  clear hS
  intro w_kept w_rnds w_plnr w_shts wm ro hS
  refine an8 hS ?_
  clear hS
  intro hac hnp hkc hpe H_now H_past H_pars H_judg hS
  refine an7 hS ?_
  clear hS
  intro H_layr H_heap H_kept H_rnds H_plnr H_shts H_ref hS
  have we_st := hS
  clear hS
  subst we_st
  refine ww_perm (ws' := [(hx, .inr (11, [.ref h, .ref qp, .int (nI ac), .int (nI np), .ref qs, .ref qj, .ref ly, .ref qh, .ref kk, .int (nI kc), .ref rd, .ref pg, .int (nI pe), .int kn, .ref ss]))] ++ (w_shts ++ (w_now ++ (w_past ++ (w_pars ++ (w_judg ++ (w_layr ++ (w_heap ++ (w_kept ++ (w_rnds ++ (w_plnr ++ (wm ++ ro)))))))))))) (List.Perm.append_left _ ((List.Perm.append_left _ ((List.Perm.append_left _ ((List.Perm.append_left _ ((List.Perm.append_left _ ((List.Perm.append_left _ ((List.Perm.append_left _ ((List.Perm.append_left _ ((List.Perm.append_left _ ((List.Perm.append_left _ (List.Perm.refl _)).trans (List.perm_append_comm_assoc _ _ _))).trans (List.perm_append_comm_assoc _ _ _))).trans (List.perm_append_comm_assoc _ _ _))).trans (List.perm_append_comm_assoc _ _ _))).trans (List.perm_append_comm_assoc _ _ _))).trans (List.perm_append_comm_assoc _ _ _))).trans (List.perm_append_comm_assoc _ _ _))).trans (List.perm_append_comm_assoc _ _ _))).trans (List.perm_append_comm_assoc _ _ _))) ?_
  refine lx_sheet (ro := ro) (wT := (w_now ++ (w_past ++ (w_pars ++ (w_judg ++ (w_layr ++ (w_heap ++ (w_kept ++ (w_rnds ++ (w_plnr ++ (wm ++ ro))))))))))) (pre := (w_now ++ (w_past ++ (w_pars ++ (w_judg ++ (w_layr ++ (w_heap ++ (w_kept ++ (w_rnds ++ (w_plnr ++ wm)))))))))) C hW (by simp only [List.append_assoc]) hk hac hnp hkc hpe H_shts (fun rr stZ snZ slZ scxZ w_shtsZ H_shtsZ hE => ?_)
  refine ww_perm (ws' := [(hx, .inr (11, [.ref h, .ref qp, .int (nI ac), .int (nI np), .ref qs, .ref qj, .ref ly, .ref qh, .ref kk, .int (nI kc), .ref rd, .ref pg, .int (nI pe), .int kn, .ref ss]))] ++ (w_now ++ (w_past ++ (w_pars ++ (w_judg ++ (w_layr ++ (w_heap ++ (w_kept ++ (w_rnds ++ (w_plnr ++ (w_shtsZ ++ (wm ++ ro)))))))))))) (List.Perm.append_left _ ((List.Perm.append_left _ ((List.Perm.append_left _ ((List.Perm.append_left _ ((List.Perm.append_left _ ((List.Perm.append_left _ ((List.Perm.append_left _ ((List.Perm.append_left _ ((List.Perm.append_left _ ((List.Perm.append_left _ (List.Perm.refl _)).trans (List.perm_append_comm_assoc _ _ _))).trans (List.perm_append_comm_assoc _ _ _))).trans (List.perm_append_comm_assoc _ _ _))).trans (List.perm_append_comm_assoc _ _ _))).trans (List.perm_append_comm_assoc _ _ _))).trans (List.perm_append_comm_assoc _ _ _))).trans (List.perm_append_comm_assoc _ _ _))).trans (List.perm_append_comm_assoc _ _ _))).trans (List.perm_append_comm_assoc _ _ _))).symm ?_
  exact kont rr stZ snZ slZ scxZ _ ⟨h, qp, qs, qj, ly, qh, kk, rd, pg, ss, w_now, w_past, w_pars, w_judg, w_layr, w_heap, w_kept, w_rnds, w_plnr, w_shtsZ, wm, ro, hac, hnp, hkc, hpe, H_now, H_past, H_pars, H_judg, H_layr, H_heap, H_kept, H_rnds, H_plnr, H_shtsZ, H_ref, rfl⟩ hE
set_option maxRecDepth 100000 in
theorem cx_write {X : XT} {E : EV} {ws : va_W} {lv : List (Nat × Value)} {rest : List Value} {kC nC : Nat} {hx hm : Nat} {tl : Nat} {ct : Nat → Int} {pe : Nat} {kn : Int32} {ac : Nat} {np : Nat} {kc : Nat} {mN : AM} {pV : Nat → AM} {kV : Nat → AM} {st : Nat → Nat} {sn : Nat → Nat} {sl : Nat → Nat} {scx : Nat → Nat → Int32} {tT : Nat → Option SVal} {ec : Nat → Nat} {er : Nat → Nat} {ed : Nat → Nat → Int32} {eT : Nat → Nat → Option SVal} {eb : Nat → Nat → Int32} {en : Nat → Nat → Int32} {q_undos : Nat} {q_models : Nat} {PGv : Nat → AM} {f_afterOf : Nat → Int32} {f_actMany : Nat → Int32} {f_actOf : Nat → Int32} {f_whom : Nat → Int32} {f_hasIf : Nat → Int32} {f_becomes : Nat → Int32} {f_goneOf : Nat → Int32} {q_taped : Nat} {cr : Nat → Int} {q_people : Nat} {f_secrets : Nat → Int32} {f_lanes : Nat → Int32} {f_lengths : Nat → Int32} {f_cells : Nat → Int32} {f_tokens : Nat → Int32} {f_afters : Nat → Int32} {f_caseMany : Nat → Int32} {f_happen : Nat → Int32} {f_heard : Nat → Int32} {v0 : Int32} {v1 : Int32} {v2 : Int32} (C : CX X room_1 cL_law 4 RL ret E) (hW : Nat.ble (rest.map fun v => v.category).sum 8 = true) (hk : kC + 0 ≤ 600000 ∧ nC + 0 ≤ 7302250) (hS : ST E hx hm tl ct pe kn ac np kc mN pV kV st sn sl scx tT ec er ed eT eb en q_undos q_models PGv f_afterOf f_actMany f_actOf f_whom f_hasIf f_becomes f_goneOf q_taped cr q_people f_secrets f_lanes f_lengths f_cells f_tokens f_afters f_caseMany f_happen f_heard ws) (kont : ∀ (rr : Int32) (scxZ : Nat → Nat → Int32) (wsZ : va_W), ST E hx hm tl ct pe kn ac np kc mN pV kV st sn sl scxZ tT ec er ed eT eb en q_undos q_models PGv f_afterOf f_actMany f_actOf f_whom f_hasIf f_becomes f_goneOf q_taped cr q_people f_secrets f_lanes f_lengths f_cells f_tokens f_afters f_caseMany f_happen f_heard wsZ → (((v0.toInt < 0 ∨ 3 < v0.toInt) ∧ rr = -1 ∧ scxZ = scx) ∨ ∃ k_ : Nat, v0 = nI k_ ∧ k_ ≤ 3 ∧ ((st k_ = 0 ∧ rr = -11 ∧ scxZ = scx) ∨ (st k_ = 1 ∧ (v1.toInt < 0 ∨ ((sn k_ : Nat) : Int) ≤ v1.toInt) ∧ rr = -12 ∧ scxZ = scx) ∨ (st k_ = 1 ∧ (0 ≤ v1.toInt ∧ v1.toInt < ((sn k_ : Nat) : Int)) ∧ rr = 1 ∧ ∃ i_ : Nat, v1 = nI i_ ∧ i_ < 48 ∧ (∀ i, i < 4 → i ≠ k_ → scxZ i = scx i) ∧ upd (scx k_) i_ (putv (sl k_) v2) = scxZ k_))) → WW X 4 E 1339 lv (.int rr :: rest) wsZ kC nC) : WW X 4 E 1336 lv (.int v2 :: .int v1 :: .int v0 :: .ref hx :: rest) ws kC nC := by
  unfold ST at hS
  refine ex8 hS ?_
  clear hS
  intro h qp qs qj ly qh kk rd hS
  refine ex8 hS ?_
  clear hS
  intro pg ss w_now w_past w_pars w_judg w_layr w_heap hS
  refine ex6 hS ?_
  clear hS
  intro w_kept w_rnds w_plnr w_shts wm ro hS
  refine an8 hS ?_
  clear hS
  intro hac hnp hkc hpe H_now H_past H_pars H_judg hS
  refine an7 hS ?_
  clear hS
  intro H_layr H_heap H_kept H_rnds H_plnr H_shts H_ref hS
  have we_st := hS
  clear hS
  subst we_st
  refine ww_perm (ws' := [(hx, .inr (11, [.ref h, .ref qp, .int (nI ac), .int (nI np), .ref qs, .ref qj, .ref ly, .ref qh, .ref kk, .int (nI kc), .ref rd, .ref pg, .int (nI pe), .int kn, .ref ss]))] ++ (w_shts ++ (w_now ++ (w_past ++ (w_pars ++ (w_judg ++ (w_layr ++ (w_heap ++ (w_kept ++ (w_rnds ++ (w_plnr ++ (wm ++ ro)))))))))))) (List.Perm.append_left _ ((List.Perm.append_left _ ((List.Perm.append_left _ ((List.Perm.append_left _ ((List.Perm.append_left _ ((List.Perm.append_left _ ((List.Perm.append_left _ ((List.Perm.append_left _ ((List.Perm.append_left _ ((List.Perm.append_left _ (List.Perm.refl _)).trans (List.perm_append_comm_assoc _ _ _))).trans (List.perm_append_comm_assoc _ _ _))).trans (List.perm_append_comm_assoc _ _ _))).trans (List.perm_append_comm_assoc _ _ _))).trans (List.perm_append_comm_assoc _ _ _))).trans (List.perm_append_comm_assoc _ _ _))).trans (List.perm_append_comm_assoc _ _ _))).trans (List.perm_append_comm_assoc _ _ _))).trans (List.perm_append_comm_assoc _ _ _))) ?_
  refine lx_write (ro := ro) (wT := (w_now ++ (w_past ++ (w_pars ++ (w_judg ++ (w_layr ++ (w_heap ++ (w_kept ++ (w_rnds ++ (w_plnr ++ (wm ++ ro))))))))))) (pre := (w_now ++ (w_past ++ (w_pars ++ (w_judg ++ (w_layr ++ (w_heap ++ (w_kept ++ (w_rnds ++ (w_plnr ++ wm)))))))))) C hW (by simp only [List.append_assoc]) hk hac hnp hkc hpe H_shts (fun rr scxZ w_shtsZ H_shtsZ hE => ?_)
  refine ww_perm (ws' := [(hx, .inr (11, [.ref h, .ref qp, .int (nI ac), .int (nI np), .ref qs, .ref qj, .ref ly, .ref qh, .ref kk, .int (nI kc), .ref rd, .ref pg, .int (nI pe), .int kn, .ref ss]))] ++ (w_now ++ (w_past ++ (w_pars ++ (w_judg ++ (w_layr ++ (w_heap ++ (w_kept ++ (w_rnds ++ (w_plnr ++ (w_shtsZ ++ (wm ++ ro)))))))))))) (List.Perm.append_left _ ((List.Perm.append_left _ ((List.Perm.append_left _ ((List.Perm.append_left _ ((List.Perm.append_left _ ((List.Perm.append_left _ ((List.Perm.append_left _ ((List.Perm.append_left _ ((List.Perm.append_left _ ((List.Perm.append_left _ (List.Perm.refl _)).trans (List.perm_append_comm_assoc _ _ _))).trans (List.perm_append_comm_assoc _ _ _))).trans (List.perm_append_comm_assoc _ _ _))).trans (List.perm_append_comm_assoc _ _ _))).trans (List.perm_append_comm_assoc _ _ _))).trans (List.perm_append_comm_assoc _ _ _))).trans (List.perm_append_comm_assoc _ _ _))).trans (List.perm_append_comm_assoc _ _ _))).trans (List.perm_append_comm_assoc _ _ _))).symm ?_
  exact kont rr scxZ _ ⟨h, qp, qs, qj, ly, qh, kk, rd, pg, ss, w_now, w_past, w_pars, w_judg, w_layr, w_heap, w_kept, w_rnds, w_plnr, w_shtsZ, wm, ro, hac, hnp, hkc, hpe, H_now, H_past, H_pars, H_judg, H_layr, H_heap, H_kept, H_rnds, H_plnr, H_shtsZ, H_ref, rfl⟩ hE
set_option maxRecDepth 100000 in
theorem cx_read {X : XT} {E : EV} {ws : va_W} {lv : List (Nat × Value)} {rest : List Value} {kC nC : Nat} {hx hm : Nat} {tl : Nat} {ct : Nat → Int} {pe : Nat} {kn : Int32} {ac : Nat} {np : Nat} {kc : Nat} {mN : AM} {pV : Nat → AM} {kV : Nat → AM} {st : Nat → Nat} {sn : Nat → Nat} {sl : Nat → Nat} {scx : Nat → Nat → Int32} {tT : Nat → Option SVal} {ec : Nat → Nat} {er : Nat → Nat} {ed : Nat → Nat → Int32} {eT : Nat → Nat → Option SVal} {eb : Nat → Nat → Int32} {en : Nat → Nat → Int32} {q_undos : Nat} {q_models : Nat} {PGv : Nat → AM} {f_afterOf : Nat → Int32} {f_actMany : Nat → Int32} {f_actOf : Nat → Int32} {f_whom : Nat → Int32} {f_hasIf : Nat → Int32} {f_becomes : Nat → Int32} {f_goneOf : Nat → Int32} {q_taped : Nat} {cr : Nat → Int} {q_people : Nat} {f_secrets : Nat → Int32} {f_lanes : Nat → Int32} {f_lengths : Nat → Int32} {f_cells : Nat → Int32} {f_tokens : Nat → Int32} {f_afters : Nat → Int32} {f_caseMany : Nat → Int32} {f_happen : Nat → Int32} {f_heard : Nat → Int32} {v0 : Int32} {v1 : Int32} {v2 : Int32} {v3 : Int32} (C : CX X room_1 cL_law 4 RL ret E) (hW : Nat.ble (rest.map fun v => v.category).sum 8 = true) (hk : kC + 0 ≤ 600000 ∧ nC + 0 ≤ 7302250) (hS : ST E hx hm tl ct pe kn ac np kc mN pV kV st sn sl scx tT ec er ed eT eb en q_undos q_models PGv f_afterOf f_actMany f_actOf f_whom f_hasIf f_becomes f_goneOf q_taped cr q_people f_secrets f_lanes f_lengths f_cells f_tokens f_afters f_caseMany f_happen f_heard ws) (kont : ∀ (rr : Int32) (mNZ : AM) (pVZ : Nat → AM) (acZ : Nat) (npZ : Nat) (wsZ : va_W), ST E hx hm tl ct pe kn acZ npZ kc mNZ pVZ kV st sn sl scx tT ec er ed eT eb en q_undos q_models PGv f_afterOf f_actMany f_actOf f_whom f_hasIf f_becomes f_goneOf q_taped cr q_people f_secrets f_lanes f_lengths f_cells f_tokens f_afters f_caseMany f_happen f_heard wsZ → ((((v0.toInt < 0 ∨ 3 < v0.toInt ∨ v1.toInt < 0 ∨ 2 < v1.toInt ∨ v3.toInt < 0 ∨ 24 < v3.toInt) ∧ rr = -1) ∨ ∃ k_ l_ n_ : Nat, v0 = nI k_ ∧ v1 = nI l_ ∧ v3 = nI n_ ∧ k_ ≤ 3 ∧ l_ ≤ 2 ∧ n_ ≤ 24 ∧ rr = rdA (st k_) (sl k_) (sn k_) (scx k_) l_ v2 n_) ∧ ((rr.toInt < 0 ∧ (asX mNZ acZ npZ pVZ) = (asX mN ac np pV)) ∨ ∃ k_ n_ : Nat, v0 = nI k_ ∧ k_ ≤ 3 ∧ v3 = nI n_ ∧ n_ ≤ 24 ∧ rr = nI n_ ∧ (∀ i, i < n_ → 0 ≤ v2.toInt ∧ v2.toInt + i < ((sn k_ : Nat) : Int)) ∧ (asX mNZ acZ npZ pVZ) = aRem (asX mN ac np pV) (aRd (fun i_ => scx k_ (v2.toInt.toNat + i_)) n_))) → WW X 4 E 1387 lv (.int rr :: rest) wsZ kC nC) : WW X 4 E 1384 lv (.int v3 :: .int v2 :: .int v1 :: .int v0 :: .ref hx :: rest) ws kC nC := by
  unfold ST at hS
  refine ex8 hS ?_
  clear hS
  intro h qp qs qj ly qh kk rd hS
  refine ex8 hS ?_
  clear hS
  intro pg ss w_now w_past w_pars w_judg w_layr w_heap hS
  refine ex6 hS ?_
  clear hS
  intro w_kept w_rnds w_plnr w_shts wm ro hS
  refine an8 hS ?_
  clear hS
  intro hac hnp hkc hpe H_now H_past H_pars H_judg hS
  refine an7 hS ?_
  clear hS
  intro H_layr H_heap H_kept H_rnds H_plnr H_shts H_ref hS
  have we_st := hS
  clear hS
  subst we_st
  refine ww_perm (ws' := [(hx, .inr (11, [.ref h, .ref qp, .int (nI ac), .int (nI np), .ref qs, .ref qj, .ref ly, .ref qh, .ref kk, .int (nI kc), .ref rd, .ref pg, .int (nI pe), .int kn, .ref ss]))] ++ (w_now ++ (w_past ++ (w_shts ++ (w_pars ++ (w_judg ++ (w_layr ++ (w_heap ++ (w_kept ++ (w_rnds ++ (w_plnr ++ (wm ++ ro)))))))))))) (List.Perm.append_left _ (((List.Perm.refl _).trans (List.Perm.append_left _ (List.Perm.refl _))).trans (List.Perm.append_left _ (List.Perm.append_left _ ((List.Perm.append_left _ ((List.Perm.append_left _ ((List.Perm.append_left _ ((List.Perm.append_left _ ((List.Perm.append_left _ ((List.Perm.append_left _ ((List.Perm.append_left _ (List.Perm.refl _)).trans (List.perm_append_comm_assoc _ _ _))).trans (List.perm_append_comm_assoc _ _ _))).trans (List.perm_append_comm_assoc _ _ _))).trans (List.perm_append_comm_assoc _ _ _))).trans (List.perm_append_comm_assoc _ _ _))).trans (List.perm_append_comm_assoc _ _ _))).trans (List.perm_append_comm_assoc _ _ _)))))) ?_
  refine lx_read (ro := ro) (wT := (w_pars ++ (w_judg ++ (w_layr ++ (w_heap ++ (w_kept ++ (w_rnds ++ (w_plnr ++ (wm ++ ro))))))))) (pre := (w_pars ++ (w_judg ++ (w_layr ++ (w_heap ++ (w_kept ++ (w_rnds ++ (w_plnr ++ wm)))))))) C hW (by simp only [List.append_assoc]) hk hac hnp hkc hpe H_now H_past H_shts (fun rr acZ npZ mNZ pVZ w_nowZ w_pastZ w_shtsZ hacZ hnpZ H_nowZ H_pastZ H_shtsZ hE => ?_)
  refine ww_perm (ws' := [(hx, .inr (11, [.ref h, .ref qp, .int (nI acZ), .int (nI npZ), .ref qs, .ref qj, .ref ly, .ref qh, .ref kk, .int (nI kc), .ref rd, .ref pg, .int (nI pe), .int kn, .ref ss]))] ++ (w_nowZ ++ (w_pastZ ++ (w_pars ++ (w_judg ++ (w_layr ++ (w_heap ++ (w_kept ++ (w_rnds ++ (w_plnr ++ (w_shtsZ ++ (wm ++ ro)))))))))))) (List.Perm.append_left _ (((List.Perm.refl _).trans (List.Perm.append_left _ (List.Perm.refl _))).trans (List.Perm.append_left _ (List.Perm.append_left _ ((List.Perm.append_left _ ((List.Perm.append_left _ ((List.Perm.append_left _ ((List.Perm.append_left _ ((List.Perm.append_left _ ((List.Perm.append_left _ ((List.Perm.append_left _ (List.Perm.refl _)).trans (List.perm_append_comm_assoc _ _ _))).trans (List.perm_append_comm_assoc _ _ _))).trans (List.perm_append_comm_assoc _ _ _))).trans (List.perm_append_comm_assoc _ _ _))).trans (List.perm_append_comm_assoc _ _ _))).trans (List.perm_append_comm_assoc _ _ _))).trans (List.perm_append_comm_assoc _ _ _)))))).symm ?_
  exact kont rr mNZ pVZ acZ npZ _ ⟨h, qp, qs, qj, ly, qh, kk, rd, pg, ss, w_nowZ, w_pastZ, w_pars, w_judg, w_layr, w_heap, w_kept, w_rnds, w_plnr, w_shtsZ, wm, ro, hacZ, hnpZ, hkc, hpe, H_nowZ, H_pastZ, H_pars, H_judg, H_layr, H_heap, H_kept, H_rnds, H_plnr, H_shtsZ, H_ref, rfl⟩ hE
set_option maxRecDepth 100000 in
theorem cx_undo {X : XT} {E : EV} {ws : va_W} {lv : List (Nat × Value)} {rest : List Value} {kC nC : Nat} {hx hm : Nat} {tl : Nat} {ct : Nat → Int} {pe : Nat} {kn : Int32} {ac : Nat} {np : Nat} {kc : Nat} {mN : AM} {pV : Nat → AM} {kV : Nat → AM} {st : Nat → Nat} {sn : Nat → Nat} {sl : Nat → Nat} {scx : Nat → Nat → Int32} {tT : Nat → Option SVal} {ec : Nat → Nat} {er : Nat → Nat} {ed : Nat → Nat → Int32} {eT : Nat → Nat → Option SVal} {eb : Nat → Nat → Int32} {en : Nat → Nat → Int32} {q_undos : Nat} {q_models : Nat} {PGv : Nat → AM} {f_afterOf : Nat → Int32} {f_actMany : Nat → Int32} {f_actOf : Nat → Int32} {f_whom : Nat → Int32} {f_hasIf : Nat → Int32} {f_becomes : Nat → Int32} {f_goneOf : Nat → Int32} {q_taped : Nat} {cr : Nat → Int} {q_people : Nat} {f_secrets : Nat → Int32} {f_lanes : Nat → Int32} {f_lengths : Nat → Int32} {f_cells : Nat → Int32} {f_tokens : Nat → Int32} {f_afters : Nat → Int32} {f_caseMany : Nat → Int32} {f_happen : Nat → Int32} {f_heard : Nat → Int32}  (C : CX X room_1 cL_law 4 RL ret E) (hW : Nat.ble (rest.map fun v => v.category).sum 8 = true) (hk : kC + 0 ≤ 600000 ∧ nC + 0 ≤ 7302250) (hS : ST E hx hm tl ct pe kn ac np kc mN pV kV st sn sl scx tT ec er ed eT eb en q_undos q_models PGv f_afterOf f_actMany f_actOf f_whom f_hasIf f_becomes f_goneOf q_taped cr q_people f_secrets f_lanes f_lengths f_cells f_tokens f_afters f_caseMany f_happen f_heard ws) (kont : ∀ (rr : Int32) (mNZ : AM) (pVZ : Nat → AM) (acZ : Nat) (npZ : Nat) (wsZ : va_W), ST E hx hm tl ct pe kn acZ npZ kc mNZ pVZ kV st sn sl scx tT ec er ed eT eb en q_undos q_models PGv f_afterOf f_actMany f_actOf f_whom f_hasIf f_becomes f_goneOf q_taped cr q_people f_secrets f_lanes f_lengths f_cells f_tokens f_afters f_caseMany f_happen f_heard wsZ → (((asX mNZ acZ npZ pVZ), rr) = opUndo (asX mN ac np pV)) → WW X 4 E 1420 lv (.int rr :: rest) wsZ kC nC) : WW X 4 E 1417 lv (.ref hx :: rest) ws kC nC := by
  unfold ST at hS
  refine ex8 hS ?_
  clear hS
  intro h qp qs qj ly qh kk rd hS
  refine ex8 hS ?_
  clear hS
  intro pg ss w_now w_past w_pars w_judg w_layr w_heap hS
  refine ex6 hS ?_
  clear hS
  intro w_kept w_rnds w_plnr w_shts wm ro hS
  refine an8 hS ?_
  clear hS
  intro hac hnp hkc hpe H_now H_past H_pars H_judg hS
  refine an7 hS ?_
  clear hS
  intro H_layr H_heap H_kept H_rnds H_plnr H_shts H_ref hS
  have we_st := hS
  clear hS
  subst we_st
  refine ww_perm (ws' := [(hx, .inr (11, [.ref h, .ref qp, .int (nI ac), .int (nI np), .ref qs, .ref qj, .ref ly, .ref qh, .ref kk, .int (nI kc), .ref rd, .ref pg, .int (nI pe), .int kn, .ref ss]))] ++ (w_now ++ (w_past ++ (w_pars ++ (w_judg ++ (w_layr ++ (w_heap ++ (w_kept ++ (w_rnds ++ (w_plnr ++ (w_shts ++ (wm ++ ro)))))))))))) (List.Perm.append_left _ ((List.Perm.refl _).trans (List.Perm.append_left _ (List.Perm.refl _)))) ?_
  refine lx_undo (ro := ro) (wT := (w_pars ++ (w_judg ++ (w_layr ++ (w_heap ++ (w_kept ++ (w_rnds ++ (w_plnr ++ (w_shts ++ (wm ++ ro)))))))))) (pre := (w_pars ++ (w_judg ++ (w_layr ++ (w_heap ++ (w_kept ++ (w_rnds ++ (w_plnr ++ (w_shts ++ wm))))))))) C hW (by simp only [List.append_assoc]) hk hac hnp hkc hpe H_now H_past (fun rr acZ npZ mNZ pVZ w_nowZ w_pastZ hacZ hnpZ H_nowZ H_pastZ hE => ?_)
  refine ww_perm (ws' := [(hx, .inr (11, [.ref h, .ref qp, .int (nI acZ), .int (nI npZ), .ref qs, .ref qj, .ref ly, .ref qh, .ref kk, .int (nI kc), .ref rd, .ref pg, .int (nI pe), .int kn, .ref ss]))] ++ (w_nowZ ++ (w_pastZ ++ (w_pars ++ (w_judg ++ (w_layr ++ (w_heap ++ (w_kept ++ (w_rnds ++ (w_plnr ++ (w_shts ++ (wm ++ ro)))))))))))) (List.Perm.append_left _ ((List.Perm.refl _).trans (List.Perm.append_left _ (List.Perm.refl _)))).symm ?_
  exact kont rr mNZ pVZ acZ npZ _ ⟨h, qp, qs, qj, ly, qh, kk, rd, pg, ss, w_nowZ, w_pastZ, w_pars, w_judg, w_layr, w_heap, w_kept, w_rnds, w_plnr, w_shts, wm, ro, hacZ, hnpZ, hkc, hpe, H_nowZ, H_pastZ, H_pars, H_judg, H_layr, H_heap, H_kept, H_rnds, H_plnr, H_shts, H_ref, rfl⟩ hE
set_option maxRecDepth 100000 in
theorem cx_count {X : XT} {E : EV} {ws : va_W} {lv : List (Nat × Value)} {rest : List Value} {kC nC : Nat} {hx hm : Nat} {tl : Nat} {ct : Nat → Int} {pe : Nat} {kn : Int32} {ac : Nat} {np : Nat} {kc : Nat} {mN : AM} {pV : Nat → AM} {kV : Nat → AM} {st : Nat → Nat} {sn : Nat → Nat} {sl : Nat → Nat} {scx : Nat → Nat → Int32} {tT : Nat → Option SVal} {ec : Nat → Nat} {er : Nat → Nat} {ed : Nat → Nat → Int32} {eT : Nat → Nat → Option SVal} {eb : Nat → Nat → Int32} {en : Nat → Nat → Int32} {q_undos : Nat} {q_models : Nat} {PGv : Nat → AM} {f_afterOf : Nat → Int32} {f_actMany : Nat → Int32} {f_actOf : Nat → Int32} {f_whom : Nat → Int32} {f_hasIf : Nat → Int32} {f_becomes : Nat → Int32} {f_goneOf : Nat → Int32} {q_taped : Nat} {cr : Nat → Int} {q_people : Nat} {f_secrets : Nat → Int32} {f_lanes : Nat → Int32} {f_lengths : Nat → Int32} {f_cells : Nat → Int32} {f_tokens : Nat → Int32} {f_afters : Nat → Int32} {f_caseMany : Nat → Int32} {f_happen : Nat → Int32} {f_heard : Nat → Int32} {v0 : Int32} (C : CX X room_1 cL_law 4 RL ret E) (hW : Nat.ble (rest.map fun v => v.category).sum 8 = true) (hk : kC + 0 ≤ 600000 ∧ nC + 0 ≤ 7302250) (hS : ST E hx hm tl ct pe kn ac np kc mN pV kV st sn sl scx tT ec er ed eT eb en q_undos q_models PGv f_afterOf f_actMany f_actOf f_whom f_hasIf f_becomes f_goneOf q_taped cr q_people f_secrets f_lanes f_lengths f_cells f_tokens f_afters f_caseMany f_happen f_heard ws) (kont : ∀ (rr : Int32) (wsZ : va_W), ST E hx hm tl ct pe kn ac np kc mN pV kV st sn sl scx tT ec er ed eT eb en q_undos q_models PGv f_afterOf f_actMany f_actOf f_whom f_hasIf f_becomes f_goneOf q_taped cr q_people f_secrets f_lanes f_lengths f_cells f_tokens f_afters f_caseMany f_happen f_heard wsZ → (rr = ansCnt mN.1 mN.2.1 (cb (fun k => (tT k).isSome) 8) (cb (fun e => decide (0 < ec e)) 4) kc ac pe tl (if st 0 = 0 then -4 else nI (sn 0)) v0) → WW X 4 E 1438 lv (.int rr :: rest) wsZ kC nC) : WW X 4 E 1435 lv (.int v0 :: .ref hx :: rest) ws kC nC := by
  unfold ST at hS
  refine ex8 hS ?_
  clear hS
  intro h qp qs qj ly qh kk rd hS
  refine ex8 hS ?_
  clear hS
  intro pg ss w_now w_past w_pars w_judg w_layr w_heap hS
  refine ex6 hS ?_
  clear hS
  intro w_kept w_rnds w_plnr w_shts wm ro hS
  refine an8 hS ?_
  clear hS
  intro hac hnp hkc hpe H_now H_past H_pars H_judg hS
  refine an7 hS ?_
  clear hS
  intro H_layr H_heap H_kept H_rnds H_plnr H_shts H_ref hS
  have we_st := hS
  clear hS
  subst we_st
  refine ww_perm (ws' := [(hx, .inr (11, [.ref h, .ref qp, .int (nI ac), .int (nI np), .ref qs, .ref qj, .ref ly, .ref qh, .ref kk, .int (nI kc), .ref rd, .ref pg, .int (nI pe), .int kn, .ref ss]))] ++ (w_now ++ (w_pars ++ (w_judg ++ (w_shts ++ (w_past ++ (w_layr ++ (w_heap ++ (w_kept ++ (w_rnds ++ (w_plnr ++ (wm ++ ro)))))))))))) (List.Perm.append_left _ ((((List.Perm.refl _).trans (List.Perm.append_left _ ((List.Perm.append_left _ (List.Perm.refl _)).trans (List.perm_append_comm_assoc _ _ _)))).trans (List.Perm.append_left _ (List.Perm.append_left _ ((List.Perm.append_left _ (List.Perm.refl _)).trans (List.perm_append_comm_assoc _ _ _))))).trans (List.Perm.append_left _ (List.Perm.append_left _ (List.Perm.append_left _ ((List.Perm.append_left _ ((List.Perm.append_left _ ((List.Perm.append_left _ ((List.Perm.append_left _ ((List.Perm.append_left _ ((List.Perm.append_left _ (List.Perm.refl _)).trans (List.perm_append_comm_assoc _ _ _))).trans (List.perm_append_comm_assoc _ _ _))).trans (List.perm_append_comm_assoc _ _ _))).trans (List.perm_append_comm_assoc _ _ _))).trans (List.perm_append_comm_assoc _ _ _))).trans (List.perm_append_comm_assoc _ _ _))))))) ?_
  refine lx_count (ro := ro) (wT := (w_past ++ (w_layr ++ (w_heap ++ (w_kept ++ (w_rnds ++ (w_plnr ++ (wm ++ ro)))))))) (pre := (w_past ++ (w_layr ++ (w_heap ++ (w_kept ++ (w_rnds ++ (w_plnr ++ wm))))))) C hW (by simp only [List.append_assoc]) hk hac hnp hkc hpe H_now H_pars H_judg H_shts (fun rr w_nowZ w_parsZ w_judgZ w_shtsZ H_nowZ H_parsZ H_judgZ H_shtsZ hE => ?_)
  refine ww_perm (ws' := [(hx, .inr (11, [.ref h, .ref qp, .int (nI ac), .int (nI np), .ref qs, .ref qj, .ref ly, .ref qh, .ref kk, .int (nI kc), .ref rd, .ref pg, .int (nI pe), .int kn, .ref ss]))] ++ (w_nowZ ++ (w_past ++ (w_parsZ ++ (w_judgZ ++ (w_layr ++ (w_heap ++ (w_kept ++ (w_rnds ++ (w_plnr ++ (w_shtsZ ++ (wm ++ ro)))))))))))) (List.Perm.append_left _ ((((List.Perm.refl _).trans (List.Perm.append_left _ ((List.Perm.append_left _ (List.Perm.refl _)).trans (List.perm_append_comm_assoc _ _ _)))).trans (List.Perm.append_left _ (List.Perm.append_left _ ((List.Perm.append_left _ (List.Perm.refl _)).trans (List.perm_append_comm_assoc _ _ _))))).trans (List.Perm.append_left _ (List.Perm.append_left _ (List.Perm.append_left _ ((List.Perm.append_left _ ((List.Perm.append_left _ ((List.Perm.append_left _ ((List.Perm.append_left _ ((List.Perm.append_left _ ((List.Perm.append_left _ (List.Perm.refl _)).trans (List.perm_append_comm_assoc _ _ _))).trans (List.perm_append_comm_assoc _ _ _))).trans (List.perm_append_comm_assoc _ _ _))).trans (List.perm_append_comm_assoc _ _ _))).trans (List.perm_append_comm_assoc _ _ _))).trans (List.perm_append_comm_assoc _ _ _))))))).symm ?_
  exact kont rr  _ ⟨h, qp, qs, qj, ly, qh, kk, rd, pg, ss, w_nowZ, w_past, w_parsZ, w_judgZ, w_layr, w_heap, w_kept, w_rnds, w_plnr, w_shtsZ, wm, ro, hac, hnp, hkc, hpe, H_nowZ, H_past, H_parsZ, H_judgZ, H_layr, H_heap, H_kept, H_rnds, H_plnr, H_shtsZ, H_ref, rfl⟩ hE
