theorem wc_X11_end : Cond.code yX11_end cX11_end 3 (some .int) ∈ TB := tbm (tq3 (List.mem_of_getElem? (i := 1) (rfl))) (by decide +kernel)
theorem wi_X11_end : Cond.instanceMethod yX11_end ∈ TB := tbm (tq2 (List.mem_of_getElem? (i := 239) (by decide +kernel))) (by decide +kernel)
theorem ws_X11_end : Cond.selects RX11 yX11_end yX11_end ∈ TB := tbm (tq3 (List.mem_of_getElem? (i := 0) (by decide +kernel))) (by decide +kernel)
theorem mi_X11_end : MI yX11_end cX11_end 3 (some .int) 1 := ⟨wc_X11_end, wn_X11, ⟨by decide +kernel, by decide +kernel, by decide +kernel⟩, wi_X11_end, ws_X11_end⟩
theorem wl_L_47 : Cond.methodLink RL 47 yX11_end ∈ TB := tbm (tq2 (List.mem_of_getElem? (i := 238) (by decide +kernel))) (by decide +kernel)
theorem dL_law_489 : decode cL_law 489 = .ok (.invokevirtual 47, 3) := by decide +kernel
set_option maxRecDepth 100000 in
set_option maxHeartbeats 4000000 in
theorem lx_end {X : XT} {E : EV} {ro wT pre : va_W} {lv : List (Nat × Value)} {rest : List Value} {kC nC : Nat} {hx h qp qs qj ly qh kk rd pg ss : Nat} {ac np kc pe : Nat} {kn : Int32} {tl : Nat} {ct : Nat → Int} {w_pars : va_W} {v0 : Int32}  (C : CX X room_1 cL_law 4 RL ret E) (hW : Nat.ble (rest.map fun v => v.category).sum 8 = true) (hT : wT = pre ++ ro) (hk : kC + 0 ≤ 600000 ∧ nC + 0 ≤ 7302250) (hac : ac ≤ 8) (hnp : np < 8) (hkc : kc ≤ 4) (hpe : pe ≤ 4) (H_pars : ok_pars E ro qs tl ct w_pars) (kont : ∀ (rr : Int32) (tlZ : Nat) (ctZ : Nat → Int) (w_parsZ : va_W), ok_pars E ro qs tlZ ctZ w_parsZ → (((v0.toInt < 0 ∨ (tl : Int) < v0.toInt) ∧ tlZ = tl ∧ ctZ = ct ∧ rr = -1) ∨ (v0 = nI tlZ ∧ tlZ ≤ tl ∧ ctZ = cze ct tlZ ∧ rr = nI tl)) → WW X 4 E 492 lv (.int rr :: rest) ([(hx, .inr (11, [.ref h, .ref qp, .int (nI ac), .int (nI np), .ref qs, .ref qj, .ref ly, .ref qh, .ref kk, .int (nI kc), .ref rd, .ref pg, .int (nI pe), .int kn, .ref ss]))] ++ (w_parsZ ++ wT)) kC nC) : WW X 4 E 489 lv (.int v0 :: .ref hx :: rest) ([(hx, .inr (11, [.ref h, .ref qp, .int (nI ac), .int (nI np), .ref qs, .ref qj, .ref ly, .ref qh, .ref kk, .int (nI kc), .ref rd, .ref pg, .int (nI pe), .int kn, .ref ss]))] ++ (w_pars ++ wT)) kC nC := by
  unfold ok_pars at H_pars
  refine ex8 H_pars ?_
  clear H_pars
  intro qt po pa pf pd nd tn an H_pars
  refine ex8 H_pars ?_
  clear H_pars
  intro wr pl tb ta tk ts fb fo H_pars
  refine ex3 H_pars ?_
  clear H_pars
  intro pfa af fd H_pars
  refine an2 H_pars ?_
  clear H_pars
  intro we_pars htl H_pars
  have hct := H_pars
  clear H_pars
  subst we_pars
  subst hct
  refine ww_eq (ws' := [(hx, .inr (11, [.ref h, .ref qp, .int (nI ac), .int (nI np), .ref qs, .ref qj, .ref ly, .ref qh, .ref kk, .int (nI kc), .ref rd, .ref pg, .int (nI pe), .int kn, .ref ss])), (qs, .inr (5, [.ref qt, .ref po, .ref pa, .ref pf, .ref pd, .int nd, .int tn, .int an, .int wr, .int pl])), (qt, .inr (10, [.ref tb, .int (nI tl), .int ta, .int tk, .int ts])), (tb, .inl (E.2.1 0, 160, .inl fb)), (po, .inl (E.2.1 1, 32, .inl fo)), (pa, .inl (E.2.1 1, 32, .inl pfa)), (pf, .inl (E.2.1 1, 2, .inl af)), (pd, .inl (E.2.1 1, 32, .inl fd))] ++ wT) ?_ rfl rfl rfl
  refine ww_ciT (k' := kC) (n' := nC) (wr := [(po, .inl (E.2.1 1, 32, .inl fo)), (pa, .inl (E.2.1 1, 32, .inl pfa)), (pf, .inl (E.2.1 1, 2, .inl af)), (pd, .inl (E.2.1 1, 32, .inl fd))]) C (run_V (As := [.int v0]) (rest := rest) C (x_end X.2.1 E ro hx v0 h qp ac np qs qj ly qh kk kc rd pg pe kn ss qt po pa pf pd nd tn an wr pl tb tl ta tk ts fb (by first | assumption | omega) (by first | assumption | omega) (by first | assumption | omega) (by first | assumption | omega) (by first | assumption | omega)) mi_X11_end wl_L_47 rfl 0 11 rfl rfl rfl rfl hW dL_law_489) (roT (pre := pre) [0, 1, 2, 3] rfl hT) [0, 1, 2, 3] [4, 5, 6, 7] rfl rfl rfl ⟨by omega, by omega, hk.1, hk.2⟩ (fun rr u hw => ?_)
  rcases hw with hw | hw
  · refine an2 hw ?_
    clear hw
    intro he_r he_u hw
    have h_1 := hw
    clear hw
    have he_r := he_r.symm
    subst he_r
    subst he_u
    refine ww_subT (w1 := [(hx, .inr (11, [.ref h, .ref qp, .int (nI ac), .int (nI np), .ref qs, .ref qj, .ref ly, .ref qh, .ref kk, .int (nI kc), .ref rd, .ref pg, .int (nI pe), .int kn, .ref ss])), (qs, .inr (5, [.ref qt, .ref po, .ref pa, .ref pf, .ref pd, .int nd, .int tn, .int an, .int wr, .int pl])), (qt, .inr (10, [.ref tb, .int (nI tl), .int ta, .int tk, .int ts])), (tb, .inl (E.2.1 0, 160, .inl fb)), (po, .inl (E.2.1 1, 32, .inl fo)), (pa, .inl (E.2.1 1, 32, .inl pfa)), (pf, .inl (E.2.1 1, 2, .inl af)), (pd, .inl (E.2.1 1, 32, .inl fd))]) [4, 5, 6, 7, 0, 1, 2, 3] rfl rfl ?_
    exact kont (-1) tl (cz fb tl) [(qs, .inr (5, [.ref qt, .ref po, .ref pa, .ref pf, .ref pd, .int nd, .int tn, .int an, .int wr, .int pl])), (qt, .inr (10, [.ref tb, .int (nI tl), .int ta, .int tk, .int ts])), (tb, .inl (E.2.1 0, 160, .inl fb)), (po, .inl (E.2.1 1, 32, .inl fo)), (pa, .inl (E.2.1 1, 32, .inl pfa)), (pf, .inl (E.2.1 1, 2, .inl af)), (pd, .inl (E.2.1 1, 32, .inl fd))]  ⟨qt, po, pa, pf, pd, nd, tn, an, wr, pl, tb, ta, tk, ts, fb, fo, pfa, af, fd, rfl, (by first | assumption | omega), rfl⟩ (Or.inl ⟨h_1, rfl, rfl, rfl⟩)
  · refine ex1 hw ?_
    clear hw
    intro tlz_2 hw
    refine an3 hw ?_
    clear hw
    intro he_r he_u h_3 hw
    have h_4 := hw
    clear hw
    have he_r := he_r.symm
    subst he_r
    subst he_u
    refine ww_subT (w1 := [(hx, .inr (11, [.ref h, .ref qp, .int (nI ac), .int (nI np), .ref qs, .ref qj, .ref ly, .ref qh, .ref kk, .int (nI kc), .ref rd, .ref pg, .int (nI pe), .int kn, .ref ss])), (qs, .inr (5, [.ref qt, .ref po, .ref pa, .ref pf, .ref pd, .int nd, .int tn, .int an, .int wr, .int pl])), (qt, .inr (10, [.ref tb, .int (nI tlz_2), .int ta, .int tk, .int ts])), (tb, .inl (E.2.1 0, 160, .inl fb)), (po, .inl (E.2.1 1, 32, .inl fo)), (pa, .inl (E.2.1 1, 32, .inl pfa)), (pf, .inl (E.2.1 1, 2, .inl af)), (pd, .inl (E.2.1 1, 32, .inl fd))]) [4, 5, 6, 7, 0, 1, 2, 3] rfl rfl ?_
    exact kont (nI tl) tlz_2 (cz fb tlz_2) [(qs, .inr (5, [.ref qt, .ref po, .ref pa, .ref pf, .ref pd, .int nd, .int tn, .int an, .int wr, .int pl])), (qt, .inr (10, [.ref tb, .int (nI tlz_2), .int ta, .int tk, .int ts])), (tb, .inl (E.2.1 0, 160, .inl fb)), (po, .inl (E.2.1 1, 32, .inl fo)), (pa, .inl (E.2.1 1, 32, .inl pfa)), (pf, .inl (E.2.1 1, 2, .inl af)), (pd, .inl (E.2.1 1, 32, .inl fd))]  ⟨qt, po, pa, pf, pd, nd, tn, an, wr, pl, tb, ta, tk, ts, fb, fo, pfa, af, fd, rfl, (by first | assumption | omega), rfl⟩ (Or.inr (⟨h_3, h_4, cz_e h_4, rfl⟩))
theorem wc_X11_say : Cond.code yX11_say cX11_say 3 (some .int) ∈ TB := tbm (tq3 (List.mem_of_getElem? (i := 5) (rfl))) (by decide +kernel)
theorem wi_X11_say : Cond.instanceMethod yX11_say ∈ TB := tbm (tq3 (List.mem_of_getElem? (i := 3) (by decide +kernel))) (by decide +kernel)
theorem ws_X11_say : Cond.selects RX11 yX11_say yX11_say ∈ TB := tbm (tq3 (List.mem_of_getElem? (i := 4) (by decide +kernel))) (by decide +kernel)
theorem mi_X11_say : MI yX11_say cX11_say 3 (some .int) 1 := ⟨wc_X11_say, wn_X11, ⟨by decide +kernel, by decide +kernel, by decide +kernel⟩, wi_X11_say, ws_X11_say⟩
theorem wl_L_51 : Cond.methodLink RL 51 yX11_say ∈ TB := tbm (tq3 (List.mem_of_getElem? (i := 2) (by decide +kernel))) (by decide +kernel)
theorem dL_law_512 : decode cL_law 512 = .ok (.invokevirtual 51, 3) := by decide +kernel
set_option maxRecDepth 100000 in
set_option maxHeartbeats 4000000 in
theorem lx_say {X : XT} {E : EV} {ro wT pre : va_W} {lv : List (Nat × Value)} {rest : List Value} {kC nC : Nat} {hx h qp qs qj ly qh kk rd pg ss : Nat} {ac np kc pe : Nat} {kn : Int32} {tl : Nat} {ct : Nat → Int} {tT : Nat → Option SVal} {ec : Nat → Nat} {er : Nat → Nat} {ed : Nat → Nat → Int32} {eT : Nat → Nat → Option SVal} {eb : Nat → Nat → Int32} {en : Nat → Nat → Int32} {w_pars : va_W} {w_judg : va_W} {v0 : Int32}  (C : CX X room_1 cL_law 4 RL ret E) (hW : Nat.ble (rest.map fun v => v.category).sum 8 = true) (hT : wT = pre ++ ro) (hk : kC + 4 ≤ 600000 ∧ nC + 73 ≤ 7302250) (hac : ac ≤ 8) (hnp : np < 8) (hkc : kc ≤ 4) (hpe : pe ≤ 4) (H_pars : ok_pars E ro qs tl ct w_pars) (H_judg : ok_judg E ro qj tT ec er ed eT eb en w_judg) (kont : ∀ (rr : Int32) (tlZ : Nat) (ctZ : Nat → Int) (tTZ : Nat → Option SVal) (w_parsZ : va_W) (w_judgZ : va_W) (roZ : va_W), ok_pars E roZ qs tlZ ctZ w_parsZ → ok_judg E roZ qj tTZ ec er ed eT eb en w_judgZ → (roZ = ro ∨ ∃ new : va_W, roZ = new ++ ro) → (((v0.toInt < 0 ∨ 7 < v0.toInt) ∧ tlZ = tl ∧ ctZ = ct ∧ tTZ = tT ∧ rr = -1) ∨ (0 ≤ v0.toInt ∧ v0.toInt ≤ 7 ∧ tlZ = 0 ∧ ctZ = cze ct 0 ∧ ((∃ l, SBAD ct l ∧ rr = (-10 : Int32) - nI l ∧ tTZ = tT) ∨ ∃ jk p n v w K m S, v0 = nI jk ∧ jk ≤ 7 ∧ SOK ct p n v w K m ∧ rr = nI m ∧ tTZ = va_up tT jk (some S) ∧ sNa S = n ∧ S.1 = K ∧ (1 ≤ K ∧ K ≤ 32) ∧ OPX ct p K S.2.1 S.2.2.1 ∧ (0 < n → S.2.2.2.1 0 = nI v) ∧ (1 < n → S.2.2.2.1 1 = nI w) ∧ AFI n S.2.2.2.1))) → WW X 4 E 515 lv (.int rr :: rest) ([(hx, .inr (11, [.ref h, .ref qp, .int (nI ac), .int (nI np), .ref qs, .ref qj, .ref ly, .ref qh, .ref kk, .int (nI kc), .ref rd, .ref pg, .int (nI pe), .int kn, .ref ss]))] ++ (w_parsZ ++ (w_judgZ ++ (pre ++ roZ)))) (kC + 4) (nC + 73)) : WW X 4 E 512 lv (.int v0 :: .ref hx :: rest) ([(hx, .inr (11, [.ref h, .ref qp, .int (nI ac), .int (nI np), .ref qs, .ref qj, .ref ly, .ref qh, .ref kk, .int (nI kc), .ref rd, .ref pg, .int (nI pe), .int kn, .ref ss]))] ++ (w_pars ++ (w_judg ++ wT))) kC nC := by
  subst hT
  unfold ok_pars at H_pars
  refine ex8 H_pars ?_
  clear H_pars
  intro qt po pa pf pd nd tn an H_pars
  refine ex8 H_pars ?_
  clear H_pars
  intro wr pl tb ta tk ts fb fo H_pars
  refine ex3 H_pars ?_
  clear H_pars
  intro pfa af fd H_pars
  refine an2 H_pars ?_
  clear H_pars
  intro we_pars htl H_pars
  have hct := H_pars
  clear H_pars
  subst we_pars
  subst hct
  unfold ok_judg at H_judg
  refine ex8 H_judg ?_
  clear H_judg
  intro jt je ju ja ft fe e0 e1 H_judg
  refine ex8 H_judg ?_
  clear H_judg
  intro e2 e3 fa la0 la1 e0cs e0rc e0a H_judg
  refine ex8 H_judg ?_
  clear H_judg
  intro e0b e0c e0d e0fi e0fb e0fc e0fd e1cs H_judg
  refine ex8 H_judg ?_
  clear H_judg
  intro e1rc e1a e1b e1c e1d e1fi e1fb e1fc H_judg
  refine ex8 H_judg ?_
  clear H_judg
  intro e1fd e2cs e2rc e2a e2b e2c e2d e2fi H_judg
  refine ex8 H_judg ?_
  clear H_judg
  intro e2fb e2fc e2fd e3cs e3rc e3a e3b e3c H_judg
  refine ex8 H_judg ?_
  clear H_judg
  intro e3d e3fi e3fb e3fc e3fd la0m la0p la0w H_judg
  refine ex8 H_judg ?_
  clear H_judg
  intro la0c la0f la0q la0fc la0ff la0fq la0n la0r H_judg
  refine ex8 H_judg ?_
  clear H_judg
  intro la0x la0y la0gx la0gy la1m la1p la1w la1c H_judg
  refine ex8 H_judg ?_
  clear H_judg
  intro la1f la1q la1fc la1ff la1fq la1n la1r la1x H_judg
  refine ex8 H_judg ?_
  clear H_judg
  intro la1y la1gx la1gy fto e0T e1T e2T e3T H_judg
  refine an8 H_judg ?_
  clear H_judg
  intro we_judg k_fe_0 k_fe_1 k_fe_2 k_fe_3 k_fa_0 k_fa_1 he0cs H_judg
  refine an8 H_judg ?_
  clear H_judg
  intro he0rc he0fi he1cs he1rc he1fi he2cs he2rc he2fi H_judg
  refine an8 H_judg ?_
  clear H_judg
  intro he3cs he3rc he3fi hla0n hla0r hla1n hla1r hto H_judg
  refine an5 H_judg ?_
  clear H_judg
  intro hec her hed heT heb H_judg
  have hen := H_judg
  clear H_judg
  subst we_judg
  subst hec
  subst her
  subst hed
  subst heT
  subst heb
  subst hen
  refine ww_eq (ws' := [(hx, .inr (11, [.ref h, .ref qp, .int (nI ac), .int (nI np), .ref qs, .ref qj, .ref ly, .ref qh, .ref kk, .int (nI kc), .ref rd, .ref pg, .int (nI pe), .int kn, .ref ss])), (qs, .inr (5, [.ref qt, .ref po, .ref pa, .ref pf, .ref pd, .int nd, .int tn, .int an, .int wr, .int pl])), (qt, .inr (10, [.ref tb, .int (nI tl), .int ta, .int tk, .int ts])), (tb, .inl (E.2.1 0, 160, .inl fb)), (po, .inl (E.2.1 1, 32, .inl fo)), (pa, .inl (E.2.1 1, 32, .inl pfa)), (pf, .inl (E.2.1 1, 2, .inl af)), (pd, .inl (E.2.1 1, 32, .inl fd)), (qj, .inr (2, [.ref jt, .ref je, .ref ju, .ref ja])), (ju, .inl (E.2.1 1, 32, .inl ft)), (je, .inl (E.2.1 4, 4, .inr (.inr (.inr (.inr fe))))), (ja, .inl (E.2.1 5, 2, .inr (.inr (.inr (.inr fa))))), (e0, .inr (0, [.int (nI e0cs), .int (nI e0rc), .ref e0a, .ref e0b, .ref e0c, .ref e0d])), (e0a, .inl (E.2.1 7, 4, .inr (.inr (.inr (.inr e0fi))))), (e0b, .inl (E.2.1 1, 4, .inl e0fb)), (e0c, .inl (E.2.1 1, 4, .inl e0fc)), (e0d, .inl (E.2.1 1, 16, .inl e0fd)), (e1, .inr (0, [.int (nI e1cs), .int (nI e1rc), .ref e1a, .ref e1b, .ref e1c, .ref e1d])), (e1a, .inl (E.2.1 7, 4, .inr (.inr (.inr (.inr e1fi))))), (e1b, .inl (E.2.1 1, 4, .inl e1fb)), (e1c, .inl (E.2.1 1, 4, .inl e1fc)), (e1d, .inl (E.2.1 1, 16, .inl e1fd)), (e2, .inr (0, [.int (nI e2cs), .int (nI e2rc), .ref e2a, .ref e2b, .ref e2c, .ref e2d])), (e2a, .inl (E.2.1 7, 4, .inr (.inr (.inr (.inr e2fi))))), (e2b, .inl (E.2.1 1, 4, .inl e2fb)), (e2c, .inl (E.2.1 1, 4, .inl e2fc)), (e2d, .inl (E.2.1 1, 16, .inl e2fd)), (e3, .inr (0, [.int (nI e3cs), .int (nI e3rc), .ref e3a, .ref e3b, .ref e3c, .ref e3d])), (e3a, .inl (E.2.1 7, 4, .inr (.inr (.inr (.inr e3fi))))), (e3b, .inl (E.2.1 1, 4, .inl e3fb)), (e3c, .inl (E.2.1 1, 4, .inl e3fc)), (e3d, .inl (E.2.1 1, 16, .inl e3fd)), (la0, .inr (3, [.ref la0m, .int la0p, .int la0w, .ref la0c, .ref la0f, .ref la0q])), (la0c, .inl (E.2.1 1, 24, .inl la0fc)), (la0f, .inl (E.2.1 1, 24, .inl la0ff)), (la0q, .inl (E.2.1 1, 4, .inl la0fq)), (la0m, .inr (4, [.int (nI la0n), .int (nI la0r), .ref la0x, .ref la0y])), (la0x, .inl (E.2.1 1, 24, .inl la0gx)), (la0y, .inl (E.2.1 1, 96, .inl la0gy)), (la1, .inr (3, [.ref la1m, .int la1p, .int la1w, .ref la1c, .ref la1f, .ref la1q])), (la1c, .inl (E.2.1 1, 24, .inl la1fc)), (la1f, .inl (E.2.1 1, 24, .inl la1ff)), (la1q, .inl (E.2.1 1, 4, .inl la1fq)), (la1m, .inr (4, [.int (nI la1n), .int (nI la1r), .ref la1x, .ref la1y])), (la1x, .inl (E.2.1 1, 24, .inl la1gx)), (la1y, .inl (E.2.1 1, 96, .inl la1gy)), (jt, .inl (E.2.1 7, 8, .inr (.inr (.inr (.inr fto)))))] ++ (pre ++ ro)) ?_ rfl rfl rfl
  refine ww_ciT (k' := (kC + 4)) (n' := (nC + 73)) (wr := [(ju, .inl (E.2.1 1, 32, .inl ft)), (je, .inl (E.2.1 4, 4, .inr (.inr (.inr (.inr fe))))), (ja, .inl (E.2.1 5, 2, .inr (.inr (.inr (.inr fa))))), (e0, .inr (0, [.int (nI e0cs), .int (nI e0rc), .ref e0a, .ref e0b, .ref e0c, .ref e0d])), (e0a, .inl (E.2.1 7, 4, .inr (.inr (.inr (.inr e0fi))))), (e0b, .inl (E.2.1 1, 4, .inl e0fb)), (e0c, .inl (E.2.1 1, 4, .inl e0fc)), (e0d, .inl (E.2.1 1, 16, .inl e0fd)), (e1, .inr (0, [.int (nI e1cs), .int (nI e1rc), .ref e1a, .ref e1b, .ref e1c, .ref e1d])), (e1a, .inl (E.2.1 7, 4, .inr (.inr (.inr (.inr e1fi))))), (e1b, .inl (E.2.1 1, 4, .inl e1fb)), (e1c, .inl (E.2.1 1, 4, .inl e1fc)), (e1d, .inl (E.2.1 1, 16, .inl e1fd)), (e2, .inr (0, [.int (nI e2cs), .int (nI e2rc), .ref e2a, .ref e2b, .ref e2c, .ref e2d])), (e2a, .inl (E.2.1 7, 4, .inr (.inr (.inr (.inr e2fi))))), (e2b, .inl (E.2.1 1, 4, .inl e2fb)), (e2c, .inl (E.2.1 1, 4, .inl e2fc)), (e2d, .inl (E.2.1 1, 16, .inl e2fd)), (e3, .inr (0, [.int (nI e3cs), .int (nI e3rc), .ref e3a, .ref e3b, .ref e3c, .ref e3d])), (e3a, .inl (E.2.1 7, 4, .inr (.inr (.inr (.inr e3fi))))), (e3b, .inl (E.2.1 1, 4, .inl e3fb)), (e3c, .inl (E.2.1 1, 4, .inl e3fc)), (e3d, .inl (E.2.1 1, 16, .inl e3fd)), (la0, .inr (3, [.ref la0m, .int la0p, .int la0w, .ref la0c, .ref la0f, .ref la0q])), (la0c, .inl (E.2.1 1, 24, .inl la0fc)), (la0f, .inl (E.2.1 1, 24, .inl la0ff)), (la0q, .inl (E.2.1 1, 4, .inl la0fq)), (la0m, .inr (4, [.int (nI la0n), .int (nI la0r), .ref la0x, .ref la0y])), (la0x, .inl (E.2.1 1, 24, .inl la0gx)), (la0y, .inl (E.2.1 1, 96, .inl la0gy)), (la1, .inr (3, [.ref la1m, .int la1p, .int la1w, .ref la1c, .ref la1f, .ref la1q])), (la1c, .inl (E.2.1 1, 24, .inl la1fc)), (la1f, .inl (E.2.1 1, 24, .inl la1ff)), (la1q, .inl (E.2.1 1, 4, .inl la1fq)), (la1m, .inr (4, [.int (nI la1n), .int (nI la1r), .ref la1x, .ref la1y])), (la1x, .inl (E.2.1 1, 24, .inl la1gx)), (la1y, .inl (E.2.1 1, 96, .inl la1gy))]) C (run_V (As := [.int v0]) (rest := rest) C (x_say X.2.1 E ro hx v0 h qp ac np qs qj ly qh kk kc rd pg pe kn ss qt po pa pf pd nd tn an wr pl tb tl ta tk ts fb fo pfa af fd jt je ju ja fto tT (by first | assumption | omega) (by first | assumption | omega) (by first | assumption | omega) (by first | assumption | omega) (by first | assumption | omega) hto) mi_X11_say wl_L_51 rfl 0 11 rfl rfl rfl rfl hW dL_law_512) (roT (pre := pre) [0, 1, 2, 3, 4, 5, 6, 7, 8, 46] rfl rfl) [0, 1, 2, 3, 4, 5, 6, 7, 8, 46] [9, 10, 11, 12, 13, 14, 15, 16, 17, 18, 19, 20, 21, 22, 23, 24, 25, 26, 27, 28, 29, 30, 31, 32, 33, 34, 35, 36, 37, 38, 39, 40, 41, 42, 43, 44, 45] rfl rfl rfl ⟨by omega, by omega, hk.1, hk.2⟩ (fun rr u hw => ?_)
  rcases hw with hw | hw | hw
  · refine an2 hw ?_
    clear hw
    intro he_r he_u hw
    have h_1 := hw
    clear hw
    have he_r := he_r.symm
    subst he_r
    subst he_u
    refine ww_subT (w1 := [(hx, .inr (11, [.ref h, .ref qp, .int (nI ac), .int (nI np), .ref qs, .ref qj, .ref ly, .ref qh, .ref kk, .int (nI kc), .ref rd, .ref pg, .int (nI pe), .int kn, .ref ss])), (qs, .inr (5, [.ref qt, .ref po, .ref pa, .ref pf, .ref pd, .int nd, .int tn, .int an, .int wr, .int pl])), (qt, .inr (10, [.ref tb, .int (nI tl), .int ta, .int tk, .int ts])), (tb, .inl (E.2.1 0, 160, .inl fb)), (po, .inl (E.2.1 1, 32, .inl fo)), (pa, .inl (E.2.1 1, 32, .inl pfa)), (pf, .inl (E.2.1 1, 2, .inl af)), (pd, .inl (E.2.1 1, 32, .inl fd)), (qj, .inr (2, [.ref jt, .ref je, .ref ju, .ref ja])), (ju, .inl (E.2.1 1, 32, .inl ft)), (je, .inl (E.2.1 4, 4, .inr (.inr (.inr (.inr fe))))), (ja, .inl (E.2.1 5, 2, .inr (.inr (.inr (.inr fa))))), (e0, .inr (0, [.int (nI e0cs), .int (nI e0rc), .ref e0a, .ref e0b, .ref e0c, .ref e0d])), (e0a, .inl (E.2.1 7, 4, .inr (.inr (.inr (.inr e0fi))))), (e0b, .inl (E.2.1 1, 4, .inl e0fb)), (e0c, .inl (E.2.1 1, 4, .inl e0fc)), (e0d, .inl (E.2.1 1, 16, .inl e0fd)), (e1, .inr (0, [.int (nI e1cs), .int (nI e1rc), .ref e1a, .ref e1b, .ref e1c, .ref e1d])), (e1a, .inl (E.2.1 7, 4, .inr (.inr (.inr (.inr e1fi))))), (e1b, .inl (E.2.1 1, 4, .inl e1fb)), (e1c, .inl (E.2.1 1, 4, .inl e1fc)), (e1d, .inl (E.2.1 1, 16, .inl e1fd)), (e2, .inr (0, [.int (nI e2cs), .int (nI e2rc), .ref e2a, .ref e2b, .ref e2c, .ref e2d])), (e2a, .inl (E.2.1 7, 4, .inr (.inr (.inr (.inr e2fi))))), (e2b, .inl (E.2.1 1, 4, .inl e2fb)), (e2c, .inl (E.2.1 1, 4, .inl e2fc)), (e2d, .inl (E.2.1 1, 16, .inl e2fd)), (e3, .inr (0, [.int (nI e3cs), .int (nI e3rc), .ref e3a, .ref e3b, .ref e3c, .ref e3d])), (e3a, .inl (E.2.1 7, 4, .inr (.inr (.inr (.inr e3fi))))), (e3b, .inl (E.2.1 1, 4, .inl e3fb)), (e3c, .inl (E.2.1 1, 4, .inl e3fc)), (e3d, .inl (E.2.1 1, 16, .inl e3fd)), (la0, .inr (3, [.ref la0m, .int la0p, .int la0w, .ref la0c, .ref la0f, .ref la0q])), (la0c, .inl (E.2.1 1, 24, .inl la0fc)), (la0f, .inl (E.2.1 1, 24, .inl la0ff)), (la0q, .inl (E.2.1 1, 4, .inl la0fq)), (la0m, .inr (4, [.int (nI la0n), .int (nI la0r), .ref la0x, .ref la0y])), (la0x, .inl (E.2.1 1, 24, .inl la0gx)), (la0y, .inl (E.2.1 1, 96, .inl la0gy)), (la1, .inr (3, [.ref la1m, .int la1p, .int la1w, .ref la1c, .ref la1f, .ref la1q])), (la1c, .inl (E.2.1 1, 24, .inl la1fc)), (la1f, .inl (E.2.1 1, 24, .inl la1ff)), (la1q, .inl (E.2.1 1, 4, .inl la1fq)), (la1m, .inr (4, [.int (nI la1n), .int (nI la1r), .ref la1x, .ref la1y])), (la1x, .inl (E.2.1 1, 24, .inl la1gx)), (la1y, .inl (E.2.1 1, 96, .inl la1gy)), (jt, .inl (E.2.1 7, 8, .inr (.inr (.inr (.inr fto)))))]) [37, 38, 39, 40, 41, 42, 43, 44, 45, 0, 1, 2, 3, 4, 5, 6, 7, 8, 9, 10, 11, 12, 13, 14, 15, 16, 17, 18, 19, 20, 21, 22, 23, 24, 25, 26, 27, 28, 29, 30, 31, 32, 33, 34, 35, 36, 46] rfl rfl ?_
    exact kont (-1) tl (cz fb tl) tT [(qs, .inr (5, [.ref qt, .ref po, .ref pa, .ref pf, .ref pd, .int nd, .int tn, .int an, .int wr, .int pl])), (qt, .inr (10, [.ref tb, .int (nI tl), .int ta, .int tk, .int ts])), (tb, .inl (E.2.1 0, 160, .inl fb)), (po, .inl (E.2.1 1, 32, .inl fo)), (pa, .inl (E.2.1 1, 32, .inl pfa)), (pf, .inl (E.2.1 1, 2, .inl af)), (pd, .inl (E.2.1 1, 32, .inl fd))] [(qj, .inr (2, [.ref jt, .ref je, .ref ju, .ref ja])), (ju, .inl (E.2.1 1, 32, .inl ft)), (je, .inl (E.2.1 4, 4, .inr (.inr (.inr (.inr fe))))), (ja, .inl (E.2.1 5, 2, .inr (.inr (.inr (.inr fa))))), (e0, .inr (0, [.int (nI e0cs), .int (nI e0rc), .ref e0a, .ref e0b, .ref e0c, .ref e0d])), (e0a, .inl (E.2.1 7, 4, .inr (.inr (.inr (.inr e0fi))))), (e0b, .inl (E.2.1 1, 4, .inl e0fb)), (e0c, .inl (E.2.1 1, 4, .inl e0fc)), (e0d, .inl (E.2.1 1, 16, .inl e0fd)), (e1, .inr (0, [.int (nI e1cs), .int (nI e1rc), .ref e1a, .ref e1b, .ref e1c, .ref e1d])), (e1a, .inl (E.2.1 7, 4, .inr (.inr (.inr (.inr e1fi))))), (e1b, .inl (E.2.1 1, 4, .inl e1fb)), (e1c, .inl (E.2.1 1, 4, .inl e1fc)), (e1d, .inl (E.2.1 1, 16, .inl e1fd)), (e2, .inr (0, [.int (nI e2cs), .int (nI e2rc), .ref e2a, .ref e2b, .ref e2c, .ref e2d])), (e2a, .inl (E.2.1 7, 4, .inr (.inr (.inr (.inr e2fi))))), (e2b, .inl (E.2.1 1, 4, .inl e2fb)), (e2c, .inl (E.2.1 1, 4, .inl e2fc)), (e2d, .inl (E.2.1 1, 16, .inl e2fd)), (e3, .inr (0, [.int (nI e3cs), .int (nI e3rc), .ref e3a, .ref e3b, .ref e3c, .ref e3d])), (e3a, .inl (E.2.1 7, 4, .inr (.inr (.inr (.inr e3fi))))), (e3b, .inl (E.2.1 1, 4, .inl e3fb)), (e3c, .inl (E.2.1 1, 4, .inl e3fc)), (e3d, .inl (E.2.1 1, 16, .inl e3fd)), (la0, .inr (3, [.ref la0m, .int la0p, .int la0w, .ref la0c, .ref la0f, .ref la0q])), (la0c, .inl (E.2.1 1, 24, .inl la0fc)), (la0f, .inl (E.2.1 1, 24, .inl la0ff)), (la0q, .inl (E.2.1 1, 4, .inl la0fq)), (la0m, .inr (4, [.int (nI la0n), .int (nI la0r), .ref la0x, .ref la0y])), (la0x, .inl (E.2.1 1, 24, .inl la0gx)), (la0y, .inl (E.2.1 1, 96, .inl la0gy)), (la1, .inr (3, [.ref la1m, .int la1p, .int la1w, .ref la1c, .ref la1f, .ref la1q])), (la1c, .inl (E.2.1 1, 24, .inl la1fc)), (la1f, .inl (E.2.1 1, 24, .inl la1ff)), (la1q, .inl (E.2.1 1, 4, .inl la1fq)), (la1m, .inr (4, [.int (nI la1n), .int (nI la1r), .ref la1x, .ref la1y])), (la1x, .inl (E.2.1 1, 24, .inl la1gx)), (la1y, .inl (E.2.1 1, 96, .inl la1gy)), (jt, .inl (E.2.1 7, 8, .inr (.inr (.inr (.inr fto)))))] ro  ⟨qt, po, pa, pf, pd, nd, tn, an, wr, pl, tb, ta, tk, ts, fb, fo, pfa, af, fd, rfl, (by first | assumption | omega), rfl⟩ ⟨jt, je, ju, ja, ft, fe, e0, e1, e2, e3, fa, la0, la1, e0cs, e0rc, e0a, e0b, e0c, e0d, e0fi, e0fb, e0fc, e0fd, e1cs, e1rc, e1a, e1b, e1c, e1d, e1fi, e1fb, e1fc, e1fd, e2cs, e2rc, e2a, e2b, e2c, e2d, e2fi, e2fb, e2fc, e2fd, e3cs, e3rc, e3a, e3b, e3c, e3d, e3fi, e3fb, e3fc, e3fd, la0m, la0p, la0w, la0c, la0f, la0q, la0fc, la0ff, la0fq, la0n, la0r, la0x, la0y, la0gx, la0gy, la1m, la1p, la1w, la1c, la1f, la1q, la1fc, la1ff, la1fq, la1n, la1r, la1x, la1y, la1gx, la1gy, fto, e0T, e1T, e2T, e3T, rfl, k_fe_0, k_fe_1, k_fe_2, k_fe_3, k_fa_0, k_fa_1, (by first | assumption | omega), (by first | assumption | omega), he0fi, (by first | assumption | omega), (by first | assumption | omega), he1fi, (by first | assumption | omega), (by first | assumption | omega), he2fi, (by first | assumption | omega), (by first | assumption | omega), he3fi, (by first | assumption | omega), (by first | assumption | omega), (by first | assumption | omega), (by first | assumption | omega), hto, rfl, rfl, rfl, rfl, rfl, rfl⟩ (Or.inl rfl) (Or.inl ⟨h_1, rfl, rfl, rfl, rfl⟩)
  · refine ex8 hw ?_
    clear hw
    intro ndz_2 tnz_3 anz_4 wrz_5 taz_6 tkz_7 tsz_8 plz_9 hw
    refine ex4 hw ?_
    clear hw
    intro foz_10 faz_11 afz_12 fdz_13 hw
    refine an4 hw ?_
    clear hw
    intro he_r he_u h_14 h_15 hw
    have h_16 := hw
    clear hw
    have he_r := he_r.symm
    subst he_r
    subst he_u
    refine ww_subT (w1 := [(hx, .inr (11, [.ref h, .ref qp, .int (nI ac), .int (nI np), .ref qs, .ref qj, .ref ly, .ref qh, .ref kk, .int (nI kc), .ref rd, .ref pg, .int (nI pe), .int kn, .ref ss])), (qs, .inr (5, [.ref qt, .ref po, .ref pa, .ref pf, .ref pd, .int ndz_2, .int tnz_3, .int anz_4, .int wrz_5, .int (nI plz_9)])), (qt, .inr (10, [.ref tb, .int 0, .int taz_6, .int tkz_7, .int tsz_8])), (tb, .inl (E.2.1 0, 160, .inl fb)), (po, .inl (E.2.1 1, 32, .inl foz_10)), (pa, .inl (E.2.1 1, 32, .inl faz_11)), (pf, .inl (E.2.1 1, 2, .inl afz_12)), (pd, .inl (E.2.1 1, 32, .inl fdz_13)), (qj, .inr (2, [.ref jt, .ref je, .ref ju, .ref ja])), (ju, .inl (E.2.1 1, 32, .inl ft)), (je, .inl (E.2.1 4, 4, .inr (.inr (.inr (.inr fe))))), (ja, .inl (E.2.1 5, 2, .inr (.inr (.inr (.inr fa))))), (e0, .inr (0, [.int (nI e0cs), .int (nI e0rc), .ref e0a, .ref e0b, .ref e0c, .ref e0d])), (e0a, .inl (E.2.1 7, 4, .inr (.inr (.inr (.inr e0fi))))), (e0b, .inl (E.2.1 1, 4, .inl e0fb)), (e0c, .inl (E.2.1 1, 4, .inl e0fc)), (e0d, .inl (E.2.1 1, 16, .inl e0fd)), (e1, .inr (0, [.int (nI e1cs), .int (nI e1rc), .ref e1a, .ref e1b, .ref e1c, .ref e1d])), (e1a, .inl (E.2.1 7, 4, .inr (.inr (.inr (.inr e1fi))))), (e1b, .inl (E.2.1 1, 4, .inl e1fb)), (e1c, .inl (E.2.1 1, 4, .inl e1fc)), (e1d, .inl (E.2.1 1, 16, .inl e1fd)), (e2, .inr (0, [.int (nI e2cs), .int (nI e2rc), .ref e2a, .ref e2b, .ref e2c, .ref e2d])), (e2a, .inl (E.2.1 7, 4, .inr (.inr (.inr (.inr e2fi))))), (e2b, .inl (E.2.1 1, 4, .inl e2fb)), (e2c, .inl (E.2.1 1, 4, .inl e2fc)), (e2d, .inl (E.2.1 1, 16, .inl e2fd)), (e3, .inr (0, [.int (nI e3cs), .int (nI e3rc), .ref e3a, .ref e3b, .ref e3c, .ref e3d])), (e3a, .inl (E.2.1 7, 4, .inr (.inr (.inr (.inr e3fi))))), (e3b, .inl (E.2.1 1, 4, .inl e3fb)), (e3c, .inl (E.2.1 1, 4, .inl e3fc)), (e3d, .inl (E.2.1 1, 16, .inl e3fd)), (la0, .inr (3, [.ref la0m, .int la0p, .int la0w, .ref la0c, .ref la0f, .ref la0q])), (la0c, .inl (E.2.1 1, 24, .inl la0fc)), (la0f, .inl (E.2.1 1, 24, .inl la0ff)), (la0q, .inl (E.2.1 1, 4, .inl la0fq)), (la0m, .inr (4, [.int (nI la0n), .int (nI la0r), .ref la0x, .ref la0y])), (la0x, .inl (E.2.1 1, 24, .inl la0gx)), (la0y, .inl (E.2.1 1, 96, .inl la0gy)), (la1, .inr (3, [.ref la1m, .int la1p, .int la1w, .ref la1c, .ref la1f, .ref la1q])), (la1c, .inl (E.2.1 1, 24, .inl la1fc)), (la1f, .inl (E.2.1 1, 24, .inl la1ff)), (la1q, .inl (E.2.1 1, 4, .inl la1fq)), (la1m, .inr (4, [.int (nI la1n), .int (nI la1r), .ref la1x, .ref la1y])), (la1x, .inl (E.2.1 1, 24, .inl la1gx)), (la1y, .inl (E.2.1 1, 96, .inl la1gy)), (jt, .inl (E.2.1 7, 8, .inr (.inr (.inr (.inr fto)))))]) [37, 38, 39, 40, 41, 42, 43, 44, 45, 0, 1, 2, 3, 4, 5, 6, 7, 8, 9, 10, 11, 12, 13, 14, 15, 16, 17, 18, 19, 20, 21, 22, 23, 24, 25, 26, 27, 28, 29, 30, 31, 32, 33, 34, 35, 36, 46] rfl rfl ?_
    exact kont ((-10 : Int32) - nI plz_9) 0 (cz fb 0) tT [(qs, .inr (5, [.ref qt, .ref po, .ref pa, .ref pf, .ref pd, .int ndz_2, .int tnz_3, .int anz_4, .int wrz_5, .int (nI plz_9)])), (qt, .inr (10, [.ref tb, .int 0, .int taz_6, .int tkz_7, .int tsz_8])), (tb, .inl (E.2.1 0, 160, .inl fb)), (po, .inl (E.2.1 1, 32, .inl foz_10)), (pa, .inl (E.2.1 1, 32, .inl faz_11)), (pf, .inl (E.2.1 1, 2, .inl afz_12)), (pd, .inl (E.2.1 1, 32, .inl fdz_13))] [(qj, .inr (2, [.ref jt, .ref je, .ref ju, .ref ja])), (ju, .inl (E.2.1 1, 32, .inl ft)), (je, .inl (E.2.1 4, 4, .inr (.inr (.inr (.inr fe))))), (ja, .inl (E.2.1 5, 2, .inr (.inr (.inr (.inr fa))))), (e0, .inr (0, [.int (nI e0cs), .int (nI e0rc), .ref e0a, .ref e0b, .ref e0c, .ref e0d])), (e0a, .inl (E.2.1 7, 4, .inr (.inr (.inr (.inr e0fi))))), (e0b, .inl (E.2.1 1, 4, .inl e0fb)), (e0c, .inl (E.2.1 1, 4, .inl e0fc)), (e0d, .inl (E.2.1 1, 16, .inl e0fd)), (e1, .inr (0, [.int (nI e1cs), .int (nI e1rc), .ref e1a, .ref e1b, .ref e1c, .ref e1d])), (e1a, .inl (E.2.1 7, 4, .inr (.inr (.inr (.inr e1fi))))), (e1b, .inl (E.2.1 1, 4, .inl e1fb)), (e1c, .inl (E.2.1 1, 4, .inl e1fc)), (e1d, .inl (E.2.1 1, 16, .inl e1fd)), (e2, .inr (0, [.int (nI e2cs), .int (nI e2rc), .ref e2a, .ref e2b, .ref e2c, .ref e2d])), (e2a, .inl (E.2.1 7, 4, .inr (.inr (.inr (.inr e2fi))))), (e2b, .inl (E.2.1 1, 4, .inl e2fb)), (e2c, .inl (E.2.1 1, 4, .inl e2fc)), (e2d, .inl (E.2.1 1, 16, .inl e2fd)), (e3, .inr (0, [.int (nI e3cs), .int (nI e3rc), .ref e3a, .ref e3b, .ref e3c, .ref e3d])), (e3a, .inl (E.2.1 7, 4, .inr (.inr (.inr (.inr e3fi))))), (e3b, .inl (E.2.1 1, 4, .inl e3fb)), (e3c, .inl (E.2.1 1, 4, .inl e3fc)), (e3d, .inl (E.2.1 1, 16, .inl e3fd)), (la0, .inr (3, [.ref la0m, .int la0p, .int la0w, .ref la0c, .ref la0f, .ref la0q])), (la0c, .inl (E.2.1 1, 24, .inl la0fc)), (la0f, .inl (E.2.1 1, 24, .inl la0ff)), (la0q, .inl (E.2.1 1, 4, .inl la0fq)), (la0m, .inr (4, [.int (nI la0n), .int (nI la0r), .ref la0x, .ref la0y])), (la0x, .inl (E.2.1 1, 24, .inl la0gx)), (la0y, .inl (E.2.1 1, 96, .inl la0gy)), (la1, .inr (3, [.ref la1m, .int la1p, .int la1w, .ref la1c, .ref la1f, .ref la1q])), (la1c, .inl (E.2.1 1, 24, .inl la1fc)), (la1f, .inl (E.2.1 1, 24, .inl la1ff)), (la1q, .inl (E.2.1 1, 4, .inl la1fq)), (la1m, .inr (4, [.int (nI la1n), .int (nI la1r), .ref la1x, .ref la1y])), (la1x, .inl (E.2.1 1, 24, .inl la1gx)), (la1y, .inl (E.2.1 1, 96, .inl la1gy)), (jt, .inl (E.2.1 7, 8, .inr (.inr (.inr (.inr fto)))))] ro  ⟨qt, po, pa, pf, pd, ndz_2, tnz_3, anz_4, wrz_5, (nI plz_9), tb, taz_6, tkz_7, tsz_8, fb, foz_10, faz_11, afz_12, fdz_13, rfl, (by first | assumption | omega), rfl⟩ ⟨jt, je, ju, ja, ft, fe, e0, e1, e2, e3, fa, la0, la1, e0cs, e0rc, e0a, e0b, e0c, e0d, e0fi, e0fb, e0fc, e0fd, e1cs, e1rc, e1a, e1b, e1c, e1d, e1fi, e1fb, e1fc, e1fd, e2cs, e2rc, e2a, e2b, e2c, e2d, e2fi, e2fb, e2fc, e2fd, e3cs, e3rc, e3a, e3b, e3c, e3d, e3fi, e3fb, e3fc, e3fd, la0m, la0p, la0w, la0c, la0f, la0q, la0fc, la0ff, la0fq, la0n, la0r, la0x, la0y, la0gx, la0gy, la1m, la1p, la1w, la1c, la1f, la1q, la1fc, la1ff, la1fq, la1n, la1r, la1x, la1y, la1gx, la1gy, fto, e0T, e1T, e2T, e3T, rfl, k_fe_0, k_fe_1, k_fe_2, k_fe_3, k_fa_0, k_fa_1, (by first | assumption | omega), (by first | assumption | omega), he0fi, (by first | assumption | omega), (by first | assumption | omega), he1fi, (by first | assumption | omega), (by first | assumption | omega), he2fi, (by first | assumption | omega), (by first | assumption | omega), he3fi, (by first | assumption | omega), (by first | assumption | omega), (by first | assumption | omega), (by first | assumption | omega), hto, rfl, rfl, rfl, rfl, rfl, rfl⟩ (Or.inl rfl) (Or.inr (⟨h_14, h_15, rfl, cz_e (Nat.zero_le _), Or.inl ⟨_, h_16, rfl, rfl⟩⟩))
  · refine ex8 hw ?_
    clear hw
    intro tm_17 ndz_18 tnz_19 anz_20 wrz_21 plz_22 taz_23 tkz_24 hw
    refine ex8 hw ?_
    clear hw
    intro tsz_25 foz_26 faz_27 afz_28 fdz_29 jk_30 sg_31 nn_32 hw
    refine ex8 hw ?_
    clear hw
    intro na_33 sx_34 sy_35 sz_36 p__37 v__38 w__39 ftoz_40 hw
    refine ex5 hw ?_
    clear hw
    intro dp_41 nm_42 so_43 sr_44 sf_45 hw
    refine an8 hw ?_
    clear hw
    intro he_r he_u h_46 h_47 h_48 h_49 h_50 h_51 hw
    have h_52 := hw
    clear hw
    have he_r := he_r.symm
    subst he_r
    subst he_u
    refine ww_subT (w1 := [(hx, .inr (11, [.ref h, .ref qp, .int (nI ac), .int (nI np), .ref qs, .ref qj, .ref ly, .ref qh, .ref kk, .int (nI kc), .ref rd, .ref pg, .int (nI pe), .int kn, .ref ss])), (qs, .inr (5, [.ref qt, .ref po, .ref pa, .ref pf, .ref pd, .int ndz_18, .int tnz_19, .int anz_20, .int wrz_21, .int plz_22])), (qt, .inr (10, [.ref tb, .int 0, .int taz_23, .int tkz_24, .int tsz_25])), (tb, .inl (E.2.1 0, 160, .inl fb)), (po, .inl (E.2.1 1, 32, .inl foz_26)), (pa, .inl (E.2.1 1, 32, .inl faz_27)), (pf, .inl (E.2.1 1, 2, .inl afz_28)), (pd, .inl (E.2.1 1, 32, .inl fdz_29)), (qj, .inr (2, [.ref jt, .ref je, .ref ju, .ref ja])), (ju, .inl (E.2.1 1, 32, .inl ft)), (je, .inl (E.2.1 4, 4, .inr (.inr (.inr (.inr fe))))), (ja, .inl (E.2.1 5, 2, .inr (.inr (.inr (.inr fa))))), (e0, .inr (0, [.int (nI e0cs), .int (nI e0rc), .ref e0a, .ref e0b, .ref e0c, .ref e0d])), (e0a, .inl (E.2.1 7, 4, .inr (.inr (.inr (.inr e0fi))))), (e0b, .inl (E.2.1 1, 4, .inl e0fb)), (e0c, .inl (E.2.1 1, 4, .inl e0fc)), (e0d, .inl (E.2.1 1, 16, .inl e0fd)), (e1, .inr (0, [.int (nI e1cs), .int (nI e1rc), .ref e1a, .ref e1b, .ref e1c, .ref e1d])), (e1a, .inl (E.2.1 7, 4, .inr (.inr (.inr (.inr e1fi))))), (e1b, .inl (E.2.1 1, 4, .inl e1fb)), (e1c, .inl (E.2.1 1, 4, .inl e1fc)), (e1d, .inl (E.2.1 1, 16, .inl e1fd)), (e2, .inr (0, [.int (nI e2cs), .int (nI e2rc), .ref e2a, .ref e2b, .ref e2c, .ref e2d])), (e2a, .inl (E.2.1 7, 4, .inr (.inr (.inr (.inr e2fi))))), (e2b, .inl (E.2.1 1, 4, .inl e2fb)), (e2c, .inl (E.2.1 1, 4, .inl e2fc)), (e2d, .inl (E.2.1 1, 16, .inl e2fd)), (e3, .inr (0, [.int (nI e3cs), .int (nI e3rc), .ref e3a, .ref e3b, .ref e3c, .ref e3d])), (e3a, .inl (E.2.1 7, 4, .inr (.inr (.inr (.inr e3fi))))), (e3b, .inl (E.2.1 1, 4, .inl e3fb)), (e3c, .inl (E.2.1 1, 4, .inl e3fc)), (e3d, .inl (E.2.1 1, 16, .inl e3fd)), (la0, .inr (3, [.ref la0m, .int la0p, .int la0w, .ref la0c, .ref la0f, .ref la0q])), (la0c, .inl (E.2.1 1, 24, .inl la0fc)), (la0f, .inl (E.2.1 1, 24, .inl la0ff)), (la0q, .inl (E.2.1 1, 4, .inl la0fq)), (la0m, .inr (4, [.int (nI la0n), .int (nI la0r), .ref la0x, .ref la0y])), (la0x, .inl (E.2.1 1, 24, .inl la0gx)), (la0y, .inl (E.2.1 1, 96, .inl la0gy)), (la1, .inr (3, [.ref la1m, .int la1p, .int la1w, .ref la1c, .ref la1f, .ref la1q])), (la1c, .inl (E.2.1 1, 24, .inl la1fc)), (la1f, .inl (E.2.1 1, 24, .inl la1ff)), (la1q, .inl (E.2.1 1, 4, .inl la1fq)), (la1m, .inr (4, [.int (nI la1n), .int (nI la1r), .ref la1x, .ref la1y])), (la1x, .inl (E.2.1 1, 24, .inl la1gx)), (la1y, .inl (E.2.1 1, 96, .inl la1gy)), (jt, .inl (E.2.1 7, 8, .inr (.inr (.inr (.inr ftoz_40))))), (sg_31, .inr (8, [.ref sx_34, .ref sy_35, .int (nI tm_17), .int (nI na_33), .ref sz_36, .int dp_41, .int nm_42])), (sx_34, .inl (E.2.1 1, nn_32, .inl so_43)), (sy_35, .inl (E.2.1 1, nn_32, .inl sr_44)), (sz_36, .inl (E.2.1 1, 2, .inl sf_45))]) [37, 38, 39, 40, 41, 42, 43, 44, 45, 0, 1, 2, 3, 4, 5, 6, 7, 8, 9, 10, 11, 12, 13, 14, 15, 16, 17, 18, 19, 20, 21, 22, 23, 24, 25, 26, 27, 28, 29, 30, 31, 32, 33, 34, 35, 36, 46, 47, 48, 49, 50] rfl rfl ?_
    refine ww_eq (ws' := ([(hx, .inr (11, [.ref h, .ref qp, .int (nI ac), .int (nI np), .ref qs, .ref qj, .ref ly, .ref qh, .ref kk, .int (nI kc), .ref rd, .ref pg, .int (nI pe), .int kn, .ref ss]))] ++ ([(qs, .inr (5, [.ref qt, .ref po, .ref pa, .ref pf, .ref pd, .int ndz_18, .int tnz_19, .int anz_20, .int wrz_21, .int plz_22])), (qt, .inr (10, [.ref tb, .int 0, .int taz_23, .int tkz_24, .int tsz_25])), (tb, .inl (E.2.1 0, 160, .inl fb)), (po, .inl (E.2.1 1, 32, .inl foz_26)), (pa, .inl (E.2.1 1, 32, .inl faz_27)), (pf, .inl (E.2.1 1, 2, .inl afz_28)), (pd, .inl (E.2.1 1, 32, .inl fdz_29))] ++ ([(qj, .inr (2, [.ref jt, .ref je, .ref ju, .ref ja])), (ju, .inl (E.2.1 1, 32, .inl ft)), (je, .inl (E.2.1 4, 4, .inr (.inr (.inr (.inr fe))))), (ja, .inl (E.2.1 5, 2, .inr (.inr (.inr (.inr fa))))), (e0, .inr (0, [.int (nI e0cs), .int (nI e0rc), .ref e0a, .ref e0b, .ref e0c, .ref e0d])), (e0a, .inl (E.2.1 7, 4, .inr (.inr (.inr (.inr e0fi))))), (e0b, .inl (E.2.1 1, 4, .inl e0fb)), (e0c, .inl (E.2.1 1, 4, .inl e0fc)), (e0d, .inl (E.2.1 1, 16, .inl e0fd)), (e1, .inr (0, [.int (nI e1cs), .int (nI e1rc), .ref e1a, .ref e1b, .ref e1c, .ref e1d])), (e1a, .inl (E.2.1 7, 4, .inr (.inr (.inr (.inr e1fi))))), (e1b, .inl (E.2.1 1, 4, .inl e1fb)), (e1c, .inl (E.2.1 1, 4, .inl e1fc)), (e1d, .inl (E.2.1 1, 16, .inl e1fd)), (e2, .inr (0, [.int (nI e2cs), .int (nI e2rc), .ref e2a, .ref e2b, .ref e2c, .ref e2d])), (e2a, .inl (E.2.1 7, 4, .inr (.inr (.inr (.inr e2fi))))), (e2b, .inl (E.2.1 1, 4, .inl e2fb)), (e2c, .inl (E.2.1 1, 4, .inl e2fc)), (e2d, .inl (E.2.1 1, 16, .inl e2fd)), (e3, .inr (0, [.int (nI e3cs), .int (nI e3rc), .ref e3a, .ref e3b, .ref e3c, .ref e3d])), (e3a, .inl (E.2.1 7, 4, .inr (.inr (.inr (.inr e3fi))))), (e3b, .inl (E.2.1 1, 4, .inl e3fb)), (e3c, .inl (E.2.1 1, 4, .inl e3fc)), (e3d, .inl (E.2.1 1, 16, .inl e3fd)), (la0, .inr (3, [.ref la0m, .int la0p, .int la0w, .ref la0c, .ref la0f, .ref la0q])), (la0c, .inl (E.2.1 1, 24, .inl la0fc)), (la0f, .inl (E.2.1 1, 24, .inl la0ff)), (la0q, .inl (E.2.1 1, 4, .inl la0fq)), (la0m, .inr (4, [.int (nI la0n), .int (nI la0r), .ref la0x, .ref la0y])), (la0x, .inl (E.2.1 1, 24, .inl la0gx)), (la0y, .inl (E.2.1 1, 96, .inl la0gy)), (la1, .inr (3, [.ref la1m, .int la1p, .int la1w, .ref la1c, .ref la1f, .ref la1q])), (la1c, .inl (E.2.1 1, 24, .inl la1fc)), (la1f, .inl (E.2.1 1, 24, .inl la1ff)), (la1q, .inl (E.2.1 1, 4, .inl la1fq)), (la1m, .inr (4, [.int (nI la1n), .int (nI la1r), .ref la1x, .ref la1y])), (la1x, .inl (E.2.1 1, 24, .inl la1gx)), (la1y, .inl (E.2.1 1, 96, .inl la1gy)), (jt, .inl (E.2.1 7, 8, .inr (.inr (.inr (.inr ftoz_40)))))] ++ ([(sg_31, .inr (8, [.ref sx_34, .ref sy_35, .int (nI tm_17), .int (nI na_33), .ref sz_36, .int dp_41, .int nm_42])), (sx_34, .inl (E.2.1 1, nn_32, .inl so_43)), (sy_35, .inl (E.2.1 1, nn_32, .inl sr_44)), (sz_36, .inl (E.2.1 1, 2, .inl sf_45))] ++ (pre ++ ro)))))) ?_ rfl rfl rfl
    refine ww_perm (List.Perm.append_left _ (List.Perm.append_left _ (List.Perm.append_left _ (List.perm_append_comm_assoc _ _ _)))) ?_
    exact kont (nI tm_17) 0 (cz fb 0) (va_up tT jk_30 (some (nn_32, so_43, sr_44, sf_45, tm_17, dp_41, nm_42, na_33))) [(qs, .inr (5, [.ref qt, .ref po, .ref pa, .ref pf, .ref pd, .int ndz_18, .int tnz_19, .int anz_20, .int wrz_21, .int plz_22])), (qt, .inr (10, [.ref tb, .int 0, .int taz_23, .int tkz_24, .int tsz_25])), (tb, .inl (E.2.1 0, 160, .inl fb)), (po, .inl (E.2.1 1, 32, .inl foz_26)), (pa, .inl (E.2.1 1, 32, .inl faz_27)), (pf, .inl (E.2.1 1, 2, .inl afz_28)), (pd, .inl (E.2.1 1, 32, .inl fdz_29))] [(qj, .inr (2, [.ref jt, .ref je, .ref ju, .ref ja])), (ju, .inl (E.2.1 1, 32, .inl ft)), (je, .inl (E.2.1 4, 4, .inr (.inr (.inr (.inr fe))))), (ja, .inl (E.2.1 5, 2, .inr (.inr (.inr (.inr fa))))), (e0, .inr (0, [.int (nI e0cs), .int (nI e0rc), .ref e0a, .ref e0b, .ref e0c, .ref e0d])), (e0a, .inl (E.2.1 7, 4, .inr (.inr (.inr (.inr e0fi))))), (e0b, .inl (E.2.1 1, 4, .inl e0fb)), (e0c, .inl (E.2.1 1, 4, .inl e0fc)), (e0d, .inl (E.2.1 1, 16, .inl e0fd)), (e1, .inr (0, [.int (nI e1cs), .int (nI e1rc), .ref e1a, .ref e1b, .ref e1c, .ref e1d])), (e1a, .inl (E.2.1 7, 4, .inr (.inr (.inr (.inr e1fi))))), (e1b, .inl (E.2.1 1, 4, .inl e1fb)), (e1c, .inl (E.2.1 1, 4, .inl e1fc)), (e1d, .inl (E.2.1 1, 16, .inl e1fd)), (e2, .inr (0, [.int (nI e2cs), .int (nI e2rc), .ref e2a, .ref e2b, .ref e2c, .ref e2d])), (e2a, .inl (E.2.1 7, 4, .inr (.inr (.inr (.inr e2fi))))), (e2b, .inl (E.2.1 1, 4, .inl e2fb)), (e2c, .inl (E.2.1 1, 4, .inl e2fc)), (e2d, .inl (E.2.1 1, 16, .inl e2fd)), (e3, .inr (0, [.int (nI e3cs), .int (nI e3rc), .ref e3a, .ref e3b, .ref e3c, .ref e3d])), (e3a, .inl (E.2.1 7, 4, .inr (.inr (.inr (.inr e3fi))))), (e3b, .inl (E.2.1 1, 4, .inl e3fb)), (e3c, .inl (E.2.1 1, 4, .inl e3fc)), (e3d, .inl (E.2.1 1, 16, .inl e3fd)), (la0, .inr (3, [.ref la0m, .int la0p, .int la0w, .ref la0c, .ref la0f, .ref la0q])), (la0c, .inl (E.2.1 1, 24, .inl la0fc)), (la0f, .inl (E.2.1 1, 24, .inl la0ff)), (la0q, .inl (E.2.1 1, 4, .inl la0fq)), (la0m, .inr (4, [.int (nI la0n), .int (nI la0r), .ref la0x, .ref la0y])), (la0x, .inl (E.2.1 1, 24, .inl la0gx)), (la0y, .inl (E.2.1 1, 96, .inl la0gy)), (la1, .inr (3, [.ref la1m, .int la1p, .int la1w, .ref la1c, .ref la1f, .ref la1q])), (la1c, .inl (E.2.1 1, 24, .inl la1fc)), (la1f, .inl (E.2.1 1, 24, .inl la1ff)), (la1q, .inl (E.2.1 1, 4, .inl la1fq)), (la1m, .inr (4, [.int (nI la1n), .int (nI la1r), .ref la1x, .ref la1y])), (la1x, .inl (E.2.1 1, 24, .inl la1gx)), (la1y, .inl (E.2.1 1, 96, .inl la1gy)), (jt, .inl (E.2.1 7, 8, .inr (.inr (.inr (.inr ftoz_40)))))] ([(sg_31, .inr (8, [.ref sx_34, .ref sy_35, .int (nI tm_17), .int (nI na_33), .ref sz_36, .int dp_41, .int nm_42])), (sx_34, .inl (E.2.1 1, nn_32, .inl so_43)), (sy_35, .inl (E.2.1 1, nn_32, .inl sr_44)), (sz_36, .inl (E.2.1 1, 2, .inl sf_45))] ++ ro)  ⟨qt, po, pa, pf, pd, ndz_18, tnz_19, anz_20, wrz_21, plz_22, tb, taz_23, tkz_24, tsz_25, fb, foz_26, faz_27, afz_28, fdz_29, rfl, (by first | assumption | omega), rfl⟩ ⟨jt, je, ju, ja, ft, fe, e0, e1, e2, e3, fa, la0, la1, e0cs, e0rc, e0a, e0b, e0c, e0d, e0fi, e0fb, e0fc, e0fd, e1cs, e1rc, e1a, e1b, e1c, e1d, e1fi, e1fb, e1fc, e1fd, e2cs, e2rc, e2a, e2b, e2c, e2d, e2fi, e2fb, e2fc, e2fd, e3cs, e3rc, e3a, e3b, e3c, e3d, e3fi, e3fb, e3fc, e3fd, la0m, la0p, la0w, la0c, la0f, la0q, la0fc, la0ff, la0fq, la0n, la0r, la0x, la0y, la0gx, la0gy, la1m, la1p, la1w, la1c, la1f, la1q, la1fc, la1ff, la1fq, la1n, la1r, la1x, la1y, la1gx, la1gy, ftoz_40, e0T, e1T, e2T, e3T, rfl, k_fe_0, k_fe_1, k_fe_2, k_fe_3, k_fa_0, k_fa_1, (by first | assumption | omega), (by first | assumption | omega), (SYT.more he0fi), (by first | assumption | omega), (by first | assumption | omega), (SYT.more he1fi), (by first | assumption | omega), (by first | assumption | omega), (SYT.more he2fi), (by first | assumption | omega), (by first | assumption | omega), (SYT.more he3fi), (by first | assumption | omega), (by first | assumption | omega), (by first | assumption | omega), (by first | assumption | omega), (SYT.some (SYT.more hto) (show SYv E ([(sg_31, .inr (8, [.ref sx_34, .ref sy_35, .int (nI tm_17), .int (nI na_33), .ref sz_36, .int dp_41, .int nm_42])), (sx_34, .inl (E.2.1 1, nn_32, .inl so_43)), (sy_35, .inl (E.2.1 1, nn_32, .inl sr_44)), (sz_36, .inl (E.2.1 1, 2, .inl sf_45))] ++ ro) sg_31 (nn_32, so_43, sr_44, sf_45, tm_17, dp_41, nm_42, na_33) from ⟨0, 1, 2, 3, sx_34, sy_35, sz_36, rfl, rfl, rfl, rfl, h_49.1, h_50, h_49.2⟩) h_48), rfl, rfl, rfl, rfl, rfl, rfl⟩ (Or.inr ⟨_, rfl⟩) (Or.inr (⟨by rw [h_46, nI_toInt (by omega)]; omega, by rw [h_46, nI_toInt (by omega)]; omega, rfl, cz_e (Nat.zero_le _), Or.inr ⟨_, _, _, _, _, _, _, (nn_32, so_43, sr_44, sf_45, tm_17, dp_41, nm_42, na_33), h_46, h_47, h_51.1, rfl, rfl, rfl, rfl, ⟨h_49.1.1, h_49.1.2.1⟩, h_51.2.1, h_51.2.2.1, h_51.2.2.2, h_49.2⟩⟩))
theorem wc_X11_fault : Cond.code yX11_fault cX11_fault 1 (some .int) ∈ TB := tbm (tq3 (List.mem_of_getElem? (i := 198) (rfl))) (by decide +kernel)
theorem wi_X11_fault : Cond.instanceMethod yX11_fault ∈ TB := tbm (tq3 (List.mem_of_getElem? (i := 196) (by decide +kernel))) (by decide +kernel)
theorem ws_X11_fault : Cond.selects RX11 yX11_fault yX11_fault ∈ TB := tbm (tq3 (List.mem_of_getElem? (i := 197) (by decide +kernel))) (by decide +kernel)
theorem mi_X11_fault : MI yX11_fault cX11_fault 1 (some .int) 0 := ⟨wc_X11_fault, wn_X11, ⟨by decide +kernel, by decide +kernel, by decide +kernel⟩, wi_X11_fault, ws_X11_fault⟩
theorem wl_L_55 : Cond.methodLink RL 55 yX11_fault ∈ TB := tbm (tq3 (List.mem_of_getElem? (i := 195) (by decide +kernel))) (by decide +kernel)
theorem dL_law_530 : decode cL_law 530 = .ok (.invokevirtual 55, 3) := by decide +kernel
set_option maxRecDepth 100000 in
set_option maxHeartbeats 4000000 in
theorem lx_fault {X : XT} {E : EV} {ro wT pre : va_W} {lv : List (Nat × Value)} {rest : List Value} {kC nC : Nat} {hx h qp qs qj ly qh kk rd pg ss : Nat} {ac np kc pe : Nat} {kn : Int32} {tl : Nat} {ct : Nat → Int} {w_pars : va_W}  (C : CX X room_1 cL_law 4 RL ret E) (hW : Nat.ble (rest.map fun v => v.category).sum 8 = true) (hT : wT = pre ++ ro) (hk : kC + 0 ≤ 600000 ∧ nC + 0 ≤ 7302250) (hac : ac ≤ 8) (hnp : np < 8) (hkc : kc ≤ 4) (hpe : pe ≤ 4) (H_pars : ok_pars E ro qs tl ct w_pars) (kont : ∀ (rr : Int32) (w_parsZ : va_W), ok_pars E ro qs tl ct w_parsZ → (True) → WW X 4 E 533 lv (.int rr :: rest) ([(hx, .inr (11, [.ref h, .ref qp, .int (nI ac), .int (nI np), .ref qs, .ref qj, .ref ly, .ref qh, .ref kk, .int (nI kc), .ref rd, .ref pg, .int (nI pe), .int kn, .ref ss]))] ++ (w_parsZ ++ wT)) kC nC) : WW X 4 E 530 lv (.ref hx :: rest) ([(hx, .inr (11, [.ref h, .ref qp, .int (nI ac), .int (nI np), .ref qs, .ref qj, .ref ly, .ref qh, .ref kk, .int (nI kc), .ref rd, .ref pg, .int (nI pe), .int kn, .ref ss]))] ++ (w_pars ++ wT)) kC nC := by
  unfold ok_pars at H_pars
  refine ex8 H_pars ?_
  clear H_pars
  intro qt po pa pf pd nd tn an H_pars
  refine ex8 H_pars ?_
  clear H_pars
  intro wr pl tb ta tk ts fb fo H_pars
  refine ex3 H_pars ?_
  clear H_pars
  intro pfa af fd H_pars
  refine an2 H_pars ?_
  clear H_pars
  intro we_pars htl H_pars
  have hct := H_pars
  clear H_pars
  subst we_pars
  subst hct
  refine ww_eq (ws' := [(hx, .inr (11, [.ref h, .ref qp, .int (nI ac), .int (nI np), .ref qs, .ref qj, .ref ly, .ref qh, .ref kk, .int (nI kc), .ref rd, .ref pg, .int (nI pe), .int kn, .ref ss])), (qs, .inr (5, [.ref qt, .ref po, .ref pa, .ref pf, .ref pd, .int nd, .int tn, .int an, .int wr, .int pl])), (qt, .inr (10, [.ref tb, .int (nI tl), .int ta, .int tk, .int ts])), (tb, .inl (E.2.1 0, 160, .inl fb)), (po, .inl (E.2.1 1, 32, .inl fo)), (pa, .inl (E.2.1 1, 32, .inl pfa)), (pf, .inl (E.2.1 1, 2, .inl af)), (pd, .inl (E.2.1 1, 32, .inl fd))] ++ wT) ?_ rfl rfl rfl
  refine ww_ciT (k' := kC) (n' := nC) (wr := [(qt, .inr (10, [.ref tb, .int (nI tl), .int ta, .int tk, .int ts])), (tb, .inl (E.2.1 0, 160, .inl fb)), (po, .inl (E.2.1 1, 32, .inl fo)), (pa, .inl (E.2.1 1, 32, .inl pfa)), (pf, .inl (E.2.1 1, 2, .inl af)), (pd, .inl (E.2.1 1, 32, .inl fd))]) C (run_V (As := []) (rest := rest) C (x_fault X.2.1 E ro hx h qp ac np qs qj ly qh kk kc rd pg pe kn ss qt po pa pf pd nd tn an wr pl) mi_X11_fault wl_L_55 rfl 0 11 rfl rfl rfl rfl hW dL_law_530) (roT (pre := pre) [0, 1] rfl hT) [0, 1] [2, 3, 4, 5, 6, 7] rfl rfl rfl ⟨by omega, by omega, hk.1, hk.2⟩ (fun rr u hw => ?_)
  refine an1 hw ?_
  clear hw
  intro he_r hw
  have he_u := hw
  clear hw
  have he_r := he_r.symm
  subst he_r
  subst he_u
  refine ww_subT (w1 := [(hx, .inr (11, [.ref h, .ref qp, .int (nI ac), .int (nI np), .ref qs, .ref qj, .ref ly, .ref qh, .ref kk, .int (nI kc), .ref rd, .ref pg, .int (nI pe), .int kn, .ref ss])), (qs, .inr (5, [.ref qt, .ref po, .ref pa, .ref pf, .ref pd, .int nd, .int tn, .int an, .int wr, .int pl])), (qt, .inr (10, [.ref tb, .int (nI tl), .int ta, .int tk, .int ts])), (tb, .inl (E.2.1 0, 160, .inl fb)), (po, .inl (E.2.1 1, 32, .inl fo)), (pa, .inl (E.2.1 1, 32, .inl pfa)), (pf, .inl (E.2.1 1, 2, .inl af)), (pd, .inl (E.2.1 1, 32, .inl fd))]) [6, 7, 0, 1, 2, 3, 4, 5] rfl rfl ?_
  exact kont wr  [(qs, .inr (5, [.ref qt, .ref po, .ref pa, .ref pf, .ref pd, .int nd, .int tn, .int an, .int wr, .int pl])), (qt, .inr (10, [.ref tb, .int (nI tl), .int ta, .int tk, .int ts])), (tb, .inl (E.2.1 0, 160, .inl fb)), (po, .inl (E.2.1 1, 32, .inl fo)), (pa, .inl (E.2.1 1, 32, .inl pfa)), (pf, .inl (E.2.1 1, 2, .inl af)), (pd, .inl (E.2.1 1, 32, .inl fd))]  ⟨qt, po, pa, pf, pd, nd, tn, an, wr, pl, tb, ta, tk, ts, fb, fo, pfa, af, fd, rfl, (by first | assumption | omega), rfl⟩ (trivial)
theorem wc_X11_saying : Cond.code yX11_saying cX11_saying 3 (some .int) ∈ TB := tbm (tq3 (List.mem_of_getElem? (i := 202) (rfl))) (by decide +kernel)
theorem wi_X11_saying : Cond.instanceMethod yX11_saying ∈ TB := tbm (tq3 (List.mem_of_getElem? (i := 200) (by decide +kernel))) (by decide +kernel)
theorem ws_X11_saying : Cond.selects RX11 yX11_saying yX11_saying ∈ TB := tbm (tq3 (List.mem_of_getElem? (i := 201) (by decide +kernel))) (by decide +kernel)
theorem mi_X11_saying : MI yX11_saying cX11_saying 3 (some .int) 2 := ⟨wc_X11_saying, wn_X11, ⟨by decide +kernel, by decide +kernel, by decide +kernel⟩, wi_X11_saying, ws_X11_saying⟩
theorem wl_L_60 : Cond.methodLink RL 60 yX11_saying ∈ TB := tbm (tq3 (List.mem_of_getElem? (i := 199) (by decide +kernel))) (by decide +kernel)
theorem dL_law_553 : decode cL_law 553 = .ok (.invokevirtual 60, 3) := by decide +kernel
set_option maxRecDepth 100000 in
set_option maxHeartbeats 4000000 in
theorem lx_saying {X : XT} {E : EV} {ro wT pre : va_W} {lv : List (Nat × Value)} {rest : List Value} {kC nC : Nat} {hx h qp qs qj ly qh kk rd pg ss : Nat} {ac np kc pe : Nat} {kn : Int32} {tT : Nat → Option SVal} {ec : Nat → Nat} {er : Nat → Nat} {ed : Nat → Nat → Int32} {eT : Nat → Nat → Option SVal} {eb : Nat → Nat → Int32} {en : Nat → Nat → Int32} {w_judg : va_W} {v0 : Int32} {v1 : Int32}  (C : CX X room_1 cL_law 4 RL ret E) (hW : Nat.ble (rest.map fun v => v.category).sum 8 = true) (hT : wT = pre ++ ro) (hk : kC + 0 ≤ 600000 ∧ nC + 0 ≤ 7302250) (hac : ac ≤ 8) (hnp : np < 8) (hkc : kc ≤ 4) (hpe : pe ≤ 4) (H_judg : ok_judg E ro qj tT ec er ed eT eb en w_judg) (kont : ∀ (rr : Int32) (w_judgZ : va_W), ok_judg E ro qj tT ec er ed eT eb en w_judgZ → (True) → WW X 4 E 556 lv (.int rr :: rest) ([(hx, .inr (11, [.ref h, .ref qp, .int (nI ac), .int (nI np), .ref qs, .ref qj, .ref ly, .ref qh, .ref kk, .int (nI kc), .ref rd, .ref pg, .int (nI pe), .int kn, .ref ss]))] ++ (w_judgZ ++ wT)) kC nC) : WW X 4 E 553 lv (.int v1 :: .int v0 :: .ref hx :: rest) ([(hx, .inr (11, [.ref h, .ref qp, .int (nI ac), .int (nI np), .ref qs, .ref qj, .ref ly, .ref qh, .ref kk, .int (nI kc), .ref rd, .ref pg, .int (nI pe), .int kn, .ref ss]))] ++ (w_judg ++ wT)) kC nC := by
  unfold ok_judg at H_judg
  refine ex8 H_judg ?_
  clear H_judg
  intro jt je ju ja ft fe e0 e1 H_judg
  refine ex8 H_judg ?_
  clear H_judg
  intro e2 e3 fa la0 la1 e0cs e0rc e0a H_judg
  refine ex8 H_judg ?_
  clear H_judg
  intro e0b e0c e0d e0fi e0fb e0fc e0fd e1cs H_judg
  refine ex8 H_judg ?_
  clear H_judg
  intro e1rc e1a e1b e1c e1d e1fi e1fb e1fc H_judg
  refine ex8 H_judg ?_
  clear H_judg
  intro e1fd e2cs e2rc e2a e2b e2c e2d e2fi H_judg
  refine ex8 H_judg ?_
  clear H_judg
  intro e2fb e2fc e2fd e3cs e3rc e3a e3b e3c H_judg
  refine ex8 H_judg ?_
  clear H_judg
  intro e3d e3fi e3fb e3fc e3fd la0m la0p la0w H_judg
  refine ex8 H_judg ?_
  clear H_judg
  intro la0c la0f la0q la0fc la0ff la0fq la0n la0r H_judg
  refine ex8 H_judg ?_
  clear H_judg
  intro la0x la0y la0gx la0gy la1m la1p la1w la1c H_judg
  refine ex8 H_judg ?_
  clear H_judg
  intro la1f la1q la1fc la1ff la1fq la1n la1r la1x H_judg
  refine ex8 H_judg ?_
  clear H_judg
  intro la1y la1gx la1gy fto e0T e1T e2T e3T H_judg
  refine an8 H_judg ?_
  clear H_judg
  intro we_judg k_fe_0 k_fe_1 k_fe_2 k_fe_3 k_fa_0 k_fa_1 he0cs H_judg
  refine an8 H_judg ?_
  clear H_judg
  intro he0rc he0fi he1cs he1rc he1fi he2cs he2rc he2fi H_judg
  refine an8 H_judg ?_
  clear H_judg
  intro he3cs he3rc he3fi hla0n hla0r hla1n hla1r hto H_judg
  refine an5 H_judg ?_
  clear H_judg
  intro hec her hed heT heb H_judg
  have hen := H_judg
  clear H_judg
  subst we_judg
  subst hec
  subst her
  subst hed
  subst heT
  subst heb
  subst hen
  refine ww_eq (ws' := [(hx, .inr (11, [.ref h, .ref qp, .int (nI ac), .int (nI np), .ref qs, .ref qj, .ref ly, .ref qh, .ref kk, .int (nI kc), .ref rd, .ref pg, .int (nI pe), .int kn, .ref ss])), (qj, .inr (2, [.ref jt, .ref je, .ref ju, .ref ja])), (ju, .inl (E.2.1 1, 32, .inl ft)), (je, .inl (E.2.1 4, 4, .inr (.inr (.inr (.inr fe))))), (ja, .inl (E.2.1 5, 2, .inr (.inr (.inr (.inr fa))))), (e0, .inr (0, [.int (nI e0cs), .int (nI e0rc), .ref e0a, .ref e0b, .ref e0c, .ref e0d])), (e0a, .inl (E.2.1 7, 4, .inr (.inr (.inr (.inr e0fi))))), (e0b, .inl (E.2.1 1, 4, .inl e0fb)), (e0c, .inl (E.2.1 1, 4, .inl e0fc)), (e0d, .inl (E.2.1 1, 16, .inl e0fd)), (e1, .inr (0, [.int (nI e1cs), .int (nI e1rc), .ref e1a, .ref e1b, .ref e1c, .ref e1d])), (e1a, .inl (E.2.1 7, 4, .inr (.inr (.inr (.inr e1fi))))), (e1b, .inl (E.2.1 1, 4, .inl e1fb)), (e1c, .inl (E.2.1 1, 4, .inl e1fc)), (e1d, .inl (E.2.1 1, 16, .inl e1fd)), (e2, .inr (0, [.int (nI e2cs), .int (nI e2rc), .ref e2a, .ref e2b, .ref e2c, .ref e2d])), (e2a, .inl (E.2.1 7, 4, .inr (.inr (.inr (.inr e2fi))))), (e2b, .inl (E.2.1 1, 4, .inl e2fb)), (e2c, .inl (E.2.1 1, 4, .inl e2fc)), (e2d, .inl (E.2.1 1, 16, .inl e2fd)), (e3, .inr (0, [.int (nI e3cs), .int (nI e3rc), .ref e3a, .ref e3b, .ref e3c, .ref e3d])), (e3a, .inl (E.2.1 7, 4, .inr (.inr (.inr (.inr e3fi))))), (e3b, .inl (E.2.1 1, 4, .inl e3fb)), (e3c, .inl (E.2.1 1, 4, .inl e3fc)), (e3d, .inl (E.2.1 1, 16, .inl e3fd)), (la0, .inr (3, [.ref la0m, .int la0p, .int la0w, .ref la0c, .ref la0f, .ref la0q])), (la0c, .inl (E.2.1 1, 24, .inl la0fc)), (la0f, .inl (E.2.1 1, 24, .inl la0ff)), (la0q, .inl (E.2.1 1, 4, .inl la0fq)), (la0m, .inr (4, [.int (nI la0n), .int (nI la0r), .ref la0x, .ref la0y])), (la0x, .inl (E.2.1 1, 24, .inl la0gx)), (la0y, .inl (E.2.1 1, 96, .inl la0gy)), (la1, .inr (3, [.ref la1m, .int la1p, .int la1w, .ref la1c, .ref la1f, .ref la1q])), (la1c, .inl (E.2.1 1, 24, .inl la1fc)), (la1f, .inl (E.2.1 1, 24, .inl la1ff)), (la1q, .inl (E.2.1 1, 4, .inl la1fq)), (la1m, .inr (4, [.int (nI la1n), .int (nI la1r), .ref la1x, .ref la1y])), (la1x, .inl (E.2.1 1, 24, .inl la1gx)), (la1y, .inl (E.2.1 1, 96, .inl la1gy)), (jt, .inl (E.2.1 7, 8, .inr (.inr (.inr (.inr fto)))))] ++ wT) ?_ rfl rfl rfl
  refine ww_ciT (k' := kC) (n' := nC) (wr := [(ju, .inl (E.2.1 1, 32, .inl ft)), (je, .inl (E.2.1 4, 4, .inr (.inr (.inr (.inr fe))))), (ja, .inl (E.2.1 5, 2, .inr (.inr (.inr (.inr fa))))), (e0, .inr (0, [.int (nI e0cs), .int (nI e0rc), .ref e0a, .ref e0b, .ref e0c, .ref e0d])), (e0a, .inl (E.2.1 7, 4, .inr (.inr (.inr (.inr e0fi))))), (e0b, .inl (E.2.1 1, 4, .inl e0fb)), (e0c, .inl (E.2.1 1, 4, .inl e0fc)), (e0d, .inl (E.2.1 1, 16, .inl e0fd)), (e1, .inr (0, [.int (nI e1cs), .int (nI e1rc), .ref e1a, .ref e1b, .ref e1c, .ref e1d])), (e1a, .inl (E.2.1 7, 4, .inr (.inr (.inr (.inr e1fi))))), (e1b, .inl (E.2.1 1, 4, .inl e1fb)), (e1c, .inl (E.2.1 1, 4, .inl e1fc)), (e1d, .inl (E.2.1 1, 16, .inl e1fd)), (e2, .inr (0, [.int (nI e2cs), .int (nI e2rc), .ref e2a, .ref e2b, .ref e2c, .ref e2d])), (e2a, .inl (E.2.1 7, 4, .inr (.inr (.inr (.inr e2fi))))), (e2b, .inl (E.2.1 1, 4, .inl e2fb)), (e2c, .inl (E.2.1 1, 4, .inl e2fc)), (e2d, .inl (E.2.1 1, 16, .inl e2fd)), (e3, .inr (0, [.int (nI e3cs), .int (nI e3rc), .ref e3a, .ref e3b, .ref e3c, .ref e3d])), (e3a, .inl (E.2.1 7, 4, .inr (.inr (.inr (.inr e3fi))))), (e3b, .inl (E.2.1 1, 4, .inl e3fb)), (e3c, .inl (E.2.1 1, 4, .inl e3fc)), (e3d, .inl (E.2.1 1, 16, .inl e3fd)), (la0, .inr (3, [.ref la0m, .int la0p, .int la0w, .ref la0c, .ref la0f, .ref la0q])), (la0c, .inl (E.2.1 1, 24, .inl la0fc)), (la0f, .inl (E.2.1 1, 24, .inl la0ff)), (la0q, .inl (E.2.1 1, 4, .inl la0fq)), (la0m, .inr (4, [.int (nI la0n), .int (nI la0r), .ref la0x, .ref la0y])), (la0x, .inl (E.2.1 1, 24, .inl la0gx)), (la0y, .inl (E.2.1 1, 96, .inl la0gy)), (la1, .inr (3, [.ref la1m, .int la1p, .int la1w, .ref la1c, .ref la1f, .ref la1q])), (la1c, .inl (E.2.1 1, 24, .inl la1fc)), (la1f, .inl (E.2.1 1, 24, .inl la1ff)), (la1q, .inl (E.2.1 1, 4, .inl la1fq)), (la1m, .inr (4, [.int (nI la1n), .int (nI la1r), .ref la1x, .ref la1y])), (la1x, .inl (E.2.1 1, 24, .inl la1gx)), (la1y, .inl (E.2.1 1, 96, .inl la1gy))]) C (run_V (As := [.int v0, .int v1]) (rest := rest) C (x_saying X.2.1 E ro hx v0 v1 h qp ac np qs qj ly qh kk kc rd pg pe kn ss jt je ju ja fto tT (by first | assumption | omega) (by first | assumption | omega) (by first | assumption | omega) (by first | assumption | omega) hto) mi_X11_saying wl_L_60 rfl 0 11 rfl rfl rfl rfl hW dL_law_553) (roT (pre := pre) [0, 1, 39] rfl hT) [0, 1, 39] [2, 3, 4, 5, 6, 7, 8, 9, 10, 11, 12, 13, 14, 15, 16, 17, 18, 19, 20, 21, 22, 23, 24, 25, 26, 27, 28, 29, 30, 31, 32, 33, 34, 35, 36, 37, 38] rfl rfl rfl ⟨by omega, by omega, hk.1, hk.2⟩ (fun rr u hw => ?_)
  have he_u := hw
  clear hw
  subst he_u
  refine ww_subT (w1 := [(hx, .inr (11, [.ref h, .ref qp, .int (nI ac), .int (nI np), .ref qs, .ref qj, .ref ly, .ref qh, .ref kk, .int (nI kc), .ref rd, .ref pg, .int (nI pe), .int kn, .ref ss])), (qj, .inr (2, [.ref jt, .ref je, .ref ju, .ref ja])), (ju, .inl (E.2.1 1, 32, .inl ft)), (je, .inl (E.2.1 4, 4, .inr (.inr (.inr (.inr fe))))), (ja, .inl (E.2.1 5, 2, .inr (.inr (.inr (.inr fa))))), (e0, .inr (0, [.int (nI e0cs), .int (nI e0rc), .ref e0a, .ref e0b, .ref e0c, .ref e0d])), (e0a, .inl (E.2.1 7, 4, .inr (.inr (.inr (.inr e0fi))))), (e0b, .inl (E.2.1 1, 4, .inl e0fb)), (e0c, .inl (E.2.1 1, 4, .inl e0fc)), (e0d, .inl (E.2.1 1, 16, .inl e0fd)), (e1, .inr (0, [.int (nI e1cs), .int (nI e1rc), .ref e1a, .ref e1b, .ref e1c, .ref e1d])), (e1a, .inl (E.2.1 7, 4, .inr (.inr (.inr (.inr e1fi))))), (e1b, .inl (E.2.1 1, 4, .inl e1fb)), (e1c, .inl (E.2.1 1, 4, .inl e1fc)), (e1d, .inl (E.2.1 1, 16, .inl e1fd)), (e2, .inr (0, [.int (nI e2cs), .int (nI e2rc), .ref e2a, .ref e2b, .ref e2c, .ref e2d])), (e2a, .inl (E.2.1 7, 4, .inr (.inr (.inr (.inr e2fi))))), (e2b, .inl (E.2.1 1, 4, .inl e2fb)), (e2c, .inl (E.2.1 1, 4, .inl e2fc)), (e2d, .inl (E.2.1 1, 16, .inl e2fd)), (e3, .inr (0, [.int (nI e3cs), .int (nI e3rc), .ref e3a, .ref e3b, .ref e3c, .ref e3d])), (e3a, .inl (E.2.1 7, 4, .inr (.inr (.inr (.inr e3fi))))), (e3b, .inl (E.2.1 1, 4, .inl e3fb)), (e3c, .inl (E.2.1 1, 4, .inl e3fc)), (e3d, .inl (E.2.1 1, 16, .inl e3fd)), (la0, .inr (3, [.ref la0m, .int la0p, .int la0w, .ref la0c, .ref la0f, .ref la0q])), (la0c, .inl (E.2.1 1, 24, .inl la0fc)), (la0f, .inl (E.2.1 1, 24, .inl la0ff)), (la0q, .inl (E.2.1 1, 4, .inl la0fq)), (la0m, .inr (4, [.int (nI la0n), .int (nI la0r), .ref la0x, .ref la0y])), (la0x, .inl (E.2.1 1, 24, .inl la0gx)), (la0y, .inl (E.2.1 1, 96, .inl la0gy)), (la1, .inr (3, [.ref la1m, .int la1p, .int la1w, .ref la1c, .ref la1f, .ref la1q])), (la1c, .inl (E.2.1 1, 24, .inl la1fc)), (la1f, .inl (E.2.1 1, 24, .inl la1ff)), (la1q, .inl (E.2.1 1, 4, .inl la1fq)), (la1m, .inr (4, [.int (nI la1n), .int (nI la1r), .ref la1x, .ref la1y])), (la1x, .inl (E.2.1 1, 24, .inl la1gx)), (la1y, .inl (E.2.1 1, 96, .inl la1gy)), (jt, .inl (E.2.1 7, 8, .inr (.inr (.inr (.inr fto)))))]) [37, 38, 0, 1, 2, 3, 4, 5, 6, 7, 8, 9, 10, 11, 12, 13, 14, 15, 16, 17, 18, 19, 20, 21, 22, 23, 24, 25, 26, 27, 28, 29, 30, 31, 32, 33, 34, 35, 36, 39] rfl rfl ?_
  exact kont rr  [(qj, .inr (2, [.ref jt, .ref je, .ref ju, .ref ja])), (ju, .inl (E.2.1 1, 32, .inl ft)), (je, .inl (E.2.1 4, 4, .inr (.inr (.inr (.inr fe))))), (ja, .inl (E.2.1 5, 2, .inr (.inr (.inr (.inr fa))))), (e0, .inr (0, [.int (nI e0cs), .int (nI e0rc), .ref e0a, .ref e0b, .ref e0c, .ref e0d])), (e0a, .inl (E.2.1 7, 4, .inr (.inr (.inr (.inr e0fi))))), (e0b, .inl (E.2.1 1, 4, .inl e0fb)), (e0c, .inl (E.2.1 1, 4, .inl e0fc)), (e0d, .inl (E.2.1 1, 16, .inl e0fd)), (e1, .inr (0, [.int (nI e1cs), .int (nI e1rc), .ref e1a, .ref e1b, .ref e1c, .ref e1d])), (e1a, .inl (E.2.1 7, 4, .inr (.inr (.inr (.inr e1fi))))), (e1b, .inl (E.2.1 1, 4, .inl e1fb)), (e1c, .inl (E.2.1 1, 4, .inl e1fc)), (e1d, .inl (E.2.1 1, 16, .inl e1fd)), (e2, .inr (0, [.int (nI e2cs), .int (nI e2rc), .ref e2a, .ref e2b, .ref e2c, .ref e2d])), (e2a, .inl (E.2.1 7, 4, .inr (.inr (.inr (.inr e2fi))))), (e2b, .inl (E.2.1 1, 4, .inl e2fb)), (e2c, .inl (E.2.1 1, 4, .inl e2fc)), (e2d, .inl (E.2.1 1, 16, .inl e2fd)), (e3, .inr (0, [.int (nI e3cs), .int (nI e3rc), .ref e3a, .ref e3b, .ref e3c, .ref e3d])), (e3a, .inl (E.2.1 7, 4, .inr (.inr (.inr (.inr e3fi))))), (e3b, .inl (E.2.1 1, 4, .inl e3fb)), (e3c, .inl (E.2.1 1, 4, .inl e3fc)), (e3d, .inl (E.2.1 1, 16, .inl e3fd)), (la0, .inr (3, [.ref la0m, .int la0p, .int la0w, .ref la0c, .ref la0f, .ref la0q])), (la0c, .inl (E.2.1 1, 24, .inl la0fc)), (la0f, .inl (E.2.1 1, 24, .inl la0ff)), (la0q, .inl (E.2.1 1, 4, .inl la0fq)), (la0m, .inr (4, [.int (nI la0n), .int (nI la0r), .ref la0x, .ref la0y])), (la0x, .inl (E.2.1 1, 24, .inl la0gx)), (la0y, .inl (E.2.1 1, 96, .inl la0gy)), (la1, .inr (3, [.ref la1m, .int la1p, .int la1w, .ref la1c, .ref la1f, .ref la1q])), (la1c, .inl (E.2.1 1, 24, .inl la1fc)), (la1f, .inl (E.2.1 1, 24, .inl la1ff)), (la1q, .inl (E.2.1 1, 4, .inl la1fq)), (la1m, .inr (4, [.int (nI la1n), .int (nI la1r), .ref la1x, .ref la1y])), (la1x, .inl (E.2.1 1, 24, .inl la1gx)), (la1y, .inl (E.2.1 1, 96, .inl la1gy)), (jt, .inl (E.2.1 7, 8, .inr (.inr (.inr (.inr fto)))))]  ⟨jt, je, ju, ja, ft, fe, e0, e1, e2, e3, fa, la0, la1, e0cs, e0rc, e0a, e0b, e0c, e0d, e0fi, e0fb, e0fc, e0fd, e1cs, e1rc, e1a, e1b, e1c, e1d, e1fi, e1fb, e1fc, e1fd, e2cs, e2rc, e2a, e2b, e2c, e2d, e2fi, e2fb, e2fc, e2fd, e3cs, e3rc, e3a, e3b, e3c, e3d, e3fi, e3fb, e3fc, e3fd, la0m, la0p, la0w, la0c, la0f, la0q, la0fc, la0ff, la0fq, la0n, la0r, la0x, la0y, la0gx, la0gy, la1m, la1p, la1w, la1c, la1f, la1q, la1fc, la1ff, la1fq, la1n, la1r, la1x, la1y, la1gx, la1gy, fto, e0T, e1T, e2T, e3T, rfl, k_fe_0, k_fe_1, k_fe_2, k_fe_3, k_fa_0, k_fa_1, (by first | assumption | omega), (by first | assumption | omega), he0fi, (by first | assumption | omega), (by first | assumption | omega), he1fi, (by first | assumption | omega), (by first | assumption | omega), he2fi, (by first | assumption | omega), (by first | assumption | omega), he3fi, (by first | assumption | omega), (by first | assumption | omega), (by first | assumption | omega), (by first | assumption | omega), hto, rfl, rfl, rfl, rfl, rfl, rfl⟩ (trivial)
theorem wc_X11_truth : Cond.code yX11_truth cX11_truth 2 (some .int) ∈ TB := tbm (tq3 (List.mem_of_getElem? (i := 210) (rfl))) (by decide +kernel)
theorem wi_X11_truth : Cond.instanceMethod yX11_truth ∈ TB := tbm (tq3 (List.mem_of_getElem? (i := 208) (by decide +kernel))) (by decide +kernel)
theorem ws_X11_truth : Cond.selects RX11 yX11_truth yX11_truth ∈ TB := tbm (tq3 (List.mem_of_getElem? (i := 209) (by decide +kernel))) (by decide +kernel)
theorem mi_X11_truth : MI yX11_truth cX11_truth 2 (some .int) 1 := ⟨wc_X11_truth, wn_X11, ⟨by decide +kernel, by decide +kernel, by decide +kernel⟩, wi_X11_truth, ws_X11_truth⟩
theorem wl_L_64 : Cond.methodLink RL 64 yX11_truth ∈ TB := tbm (tq3 (List.mem_of_getElem? (i := 207) (by decide +kernel))) (by decide +kernel)
theorem dL_law_581 : decode cL_law 581 = .ok (.invokevirtual 64, 3) := by decide +kernel
set_option maxRecDepth 100000 in
set_option maxHeartbeats 4000000 in
theorem lx_truth {X : XT} {E : EV} {ro wT pre : va_W} {lv : List (Nat × Value)} {rest : List Value} {kC nC : Nat} {hx h qp qs qj ly qh kk rd pg ss : Nat} {ac np kc pe : Nat} {kn : Int32} {mN : AM} {tT : Nat → Option SVal} {ec : Nat → Nat} {er : Nat → Nat} {ed : Nat → Nat → Int32} {eT : Nat → Nat → Option SVal} {eb : Nat → Nat → Int32} {en : Nat → Nat → Int32} {w_now : va_W} {w_judg : va_W} {v0 : Int32}  (C : CX X room_1 cL_law 4 RL ret E) (hW : Nat.ble (rest.map fun v => v.category).sum 8 = true) (hT : wT = pre ++ ro) (hk : kC + 0 ≤ 600000 ∧ nC + 0 ≤ 7302250) (hac : ac ≤ 8) (hnp : np < 8) (hkc : kc ≤ 4) (hpe : pe ≤ 4) (H_now : ok_now E ro h mN w_now) (H_judg : ok_judg E ro qj tT ec er ed eT eb en w_judg) (kont : ∀ (rr : Int32) (w_nowZ : va_W) (w_judgZ : va_W), ok_now E ro h mN w_nowZ → ok_judg E ro qj tT ec er ed eT eb en w_judgZ → (rr = ansTruth mN (ev6 ec er eT eb en ed) tT v0) → WW X 4 E 584 lv (.int rr :: rest) ([(hx, .inr (11, [.ref h, .ref qp, .int (nI ac), .int (nI np), .ref qs, .ref qj, .ref ly, .ref qh, .ref kk, .int (nI kc), .ref rd, .ref pg, .int (nI pe), .int kn, .ref ss]))] ++ (w_nowZ ++ (w_judgZ ++ wT))) kC nC) : WW X 4 E 581 lv (.int v0 :: .ref hx :: rest) ([(hx, .inr (11, [.ref h, .ref qp, .int (nI ac), .int (nI np), .ref qs, .ref qj, .ref ly, .ref qh, .ref kk, .int (nI kc), .ref rd, .ref pg, .int (nI pe), .int kn, .ref ss]))] ++ (w_now ++ (w_judg ++ wT))) kC nC := by
  unfold ok_now at H_now
  refine ex6 H_now ?_
  clear H_now
  intro n r a b f gg H_now
  refine an4 H_now ?_
  clear H_now
  intro we_now hn hr hwfm H_now
  have hmN := H_now
  clear H_now
  subst we_now
  subst hmN
  unfold ok_judg at H_judg
  refine ex8 H_judg ?_
  clear H_judg
  intro jt je ju ja ft fe e0 e1 H_judg
  refine ex8 H_judg ?_
  clear H_judg
  intro e2 e3 fa la0 la1 e0cs e0rc e0a H_judg
  refine ex8 H_judg ?_
  clear H_judg
  intro e0b e0c e0d e0fi e0fb e0fc e0fd e1cs H_judg
  refine ex8 H_judg ?_
  clear H_judg
  intro e1rc e1a e1b e1c e1d e1fi e1fb e1fc H_judg
  refine ex8 H_judg ?_
  clear H_judg
  intro e1fd e2cs e2rc e2a e2b e2c e2d e2fi H_judg
  refine ex8 H_judg ?_
  clear H_judg
  intro e2fb e2fc e2fd e3cs e3rc e3a e3b e3c H_judg
  refine ex8 H_judg ?_
  clear H_judg
  intro e3d e3fi e3fb e3fc e3fd la0m la0p la0w H_judg
  refine ex8 H_judg ?_
  clear H_judg
  intro la0c la0f la0q la0fc la0ff la0fq la0n la0r H_judg
  refine ex8 H_judg ?_
  clear H_judg
  intro la0x la0y la0gx la0gy la1m la1p la1w la1c H_judg
  refine ex8 H_judg ?_
  clear H_judg
  intro la1f la1q la1fc la1ff la1fq la1n la1r la1x H_judg
  refine ex8 H_judg ?_
  clear H_judg
  intro la1y la1gx la1gy fto e0T e1T e2T e3T H_judg
  refine an8 H_judg ?_
  clear H_judg
  intro we_judg k_fe_0 k_fe_1 k_fe_2 k_fe_3 k_fa_0 k_fa_1 he0cs H_judg
  refine an8 H_judg ?_
  clear H_judg
  intro he0rc he0fi he1cs he1rc he1fi he2cs he2rc he2fi H_judg
  refine an8 H_judg ?_
  clear H_judg
  intro he3cs he3rc he3fi hla0n hla0r hla1n hla1r hto H_judg
  refine an5 H_judg ?_
  clear H_judg
  intro hec her hed heT heb H_judg
  have hen := H_judg
  clear H_judg
  subst we_judg
  subst hec
  subst her
  subst hed
  subst heT
  subst heb
  subst hen
  refine ww_eq (ws' := [(hx, .inr (11, [.ref h, .ref qp, .int (nI ac), .int (nI np), .ref qs, .ref qj, .ref ly, .ref qh, .ref kk, .int (nI kc), .ref rd, .ref pg, .int (nI pe), .int kn, .ref ss])), (h, .inr (4, [.int (nI n), .int (nI r), .ref a, .ref b])), (a, .inl (E.2.1 1, 24, .inl f)), (b, .inl (E.2.1 1, 96, .inl gg)), (qj, .inr (2, [.ref jt, .ref je, .ref ju, .ref ja])), (ju, .inl (E.2.1 1, 32, .inl ft)), (je, .inl (E.2.1 4, 4, .inr (.inr (.inr (.inr fe))))), (ja, .inl (E.2.1 5, 2, .inr (.inr (.inr (.inr fa))))), (e0, .inr (0, [.int (nI e0cs), .int (nI e0rc), .ref e0a, .ref e0b, .ref e0c, .ref e0d])), (e0a, .inl (E.2.1 7, 4, .inr (.inr (.inr (.inr e0fi))))), (e0b, .inl (E.2.1 1, 4, .inl e0fb)), (e0c, .inl (E.2.1 1, 4, .inl e0fc)), (e0d, .inl (E.2.1 1, 16, .inl e0fd)), (e1, .inr (0, [.int (nI e1cs), .int (nI e1rc), .ref e1a, .ref e1b, .ref e1c, .ref e1d])), (e1a, .inl (E.2.1 7, 4, .inr (.inr (.inr (.inr e1fi))))), (e1b, .inl (E.2.1 1, 4, .inl e1fb)), (e1c, .inl (E.2.1 1, 4, .inl e1fc)), (e1d, .inl (E.2.1 1, 16, .inl e1fd)), (e2, .inr (0, [.int (nI e2cs), .int (nI e2rc), .ref e2a, .ref e2b, .ref e2c, .ref e2d])), (e2a, .inl (E.2.1 7, 4, .inr (.inr (.inr (.inr e2fi))))), (e2b, .inl (E.2.1 1, 4, .inl e2fb)), (e2c, .inl (E.2.1 1, 4, .inl e2fc)), (e2d, .inl (E.2.1 1, 16, .inl e2fd)), (e3, .inr (0, [.int (nI e3cs), .int (nI e3rc), .ref e3a, .ref e3b, .ref e3c, .ref e3d])), (e3a, .inl (E.2.1 7, 4, .inr (.inr (.inr (.inr e3fi))))), (e3b, .inl (E.2.1 1, 4, .inl e3fb)), (e3c, .inl (E.2.1 1, 4, .inl e3fc)), (e3d, .inl (E.2.1 1, 16, .inl e3fd)), (la0, .inr (3, [.ref la0m, .int la0p, .int la0w, .ref la0c, .ref la0f, .ref la0q])), (la0c, .inl (E.2.1 1, 24, .inl la0fc)), (la0f, .inl (E.2.1 1, 24, .inl la0ff)), (la0q, .inl (E.2.1 1, 4, .inl la0fq)), (la0m, .inr (4, [.int (nI la0n), .int (nI la0r), .ref la0x, .ref la0y])), (la0x, .inl (E.2.1 1, 24, .inl la0gx)), (la0y, .inl (E.2.1 1, 96, .inl la0gy)), (la1, .inr (3, [.ref la1m, .int la1p, .int la1w, .ref la1c, .ref la1f, .ref la1q])), (la1c, .inl (E.2.1 1, 24, .inl la1fc)), (la1f, .inl (E.2.1 1, 24, .inl la1ff)), (la1q, .inl (E.2.1 1, 4, .inl la1fq)), (la1m, .inr (4, [.int (nI la1n), .int (nI la1r), .ref la1x, .ref la1y])), (la1x, .inl (E.2.1 1, 24, .inl la1gx)), (la1y, .inl (E.2.1 1, 96, .inl la1gy)), (jt, .inl (E.2.1 7, 8, .inr (.inr (.inr (.inr fto)))))] ++ wT) ?_ rfl rfl rfl
  refine ww_ciT (k' := kC) (n' := nC) (wr := []) C (run_V (As := [.int v0]) (rest := rest) C (x_truth X.2.1 E ro hx v0 h qp ac np qs qj ly qh kk kc rd pg pe kn ss n r a b f gg jt je ju ja ft fe e0 e1 e2 e3 fa la0 la1 e0cs e0rc e0a e0b e0c e0d e0fi e0fb e0fc e0fd e1cs e1rc e1a e1b e1c e1d e1fi e1fb e1fc e1fd e2cs e2rc e2a e2b e2c e2d e2fi e2fb e2fc e2fd e3cs e3rc e3a e3b e3c e3d e3fi e3fb e3fc e3fd la0m la0p la0w la0c la0f la0q la0fc la0ff la0fq la0n la0r la0x la0y la0gx la0gy la1m la1p la1w la1c la1f la1q la1fc la1ff la1fq la1n la1r la1x la1y la1gx la1gy fto e0T e1T e2T e3T tT k_fe_0 k_fe_1 k_fe_2 k_fe_3 k_fa_0 k_fa_1 (by first | assumption | omega) (by first | assumption | omega) (by first | assumption | omega) (by first | assumption | omega) (by first | assumption | omega) (by first | assumption | omega) (by first | assumption | omega) (by first | assumption | omega) (by first | assumption | omega) he0fi (by first | assumption | omega) (by first | assumption | omega) he1fi (by first | assumption | omega) (by first | assumption | omega) he2fi (by first | assumption | omega) (by first | assumption | omega) he3fi (by first | assumption | omega) (by first | assumption | omega) (by first | assumption | omega) (by first | assumption | omega) hto) mi_X11_truth wl_L_64 rfl 0 11 rfl rfl rfl rfl hW dL_law_581) (roT (pre := pre) [0, 1, 2, 3, 4, 5, 6, 7, 8, 9, 10, 11, 12, 13, 14, 15, 16, 17, 18, 19, 20, 21, 22, 23, 24, 25, 26, 27, 28, 29, 30, 31, 32, 33, 34, 35, 36, 37, 38, 39, 40, 41, 42] rfl hT) [0, 1, 2, 3, 4, 5, 6, 7, 8, 9, 10, 11, 12, 13, 14, 15, 16, 17, 18, 19, 20, 21, 22, 23, 24, 25, 26, 27, 28, 29, 30, 31, 32, 33, 34, 35, 36, 37, 38, 39, 40, 41, 42] [] rfl rfl rfl ⟨by omega, by omega, hk.1, hk.2⟩ (fun rr u hw => ?_)
  refine ex8 hw ?_
  clear hw
  intro ft2_1 la0zp_2 la0zw_3 la0zn_4 la0zr_5 la0zfc_6 la0zff_7 la0zfq_8 hw
  refine ex8 hw ?_
  clear hw
  intro la0zgx_9 la0zgy_10 la1zp_11 la1zw_12 la1zn_13 la1zr_14 la1zfc_15 la1zff_16 hw
  refine ex3 hw ?_
  clear hw
  intro la1zfq_17 la1zgx_18 la1zgy_19 hw
  refine an5 hw ?_
  clear hw
  intro he_u h_20 h_21 h_22 h_23 hw
  have h_24 := hw
  clear hw
  subst he_u
  refine ww_subT (w1 := [(hx, .inr (11, [.ref h, .ref qp, .int (nI ac), .int (nI np), .ref qs, .ref qj, .ref ly, .ref qh, .ref kk, .int (nI kc), .ref rd, .ref pg, .int (nI pe), .int kn, .ref ss])), (h, .inr (4, [.int (nI n), .int (nI r), .ref a, .ref b])), (a, .inl (E.2.1 1, 24, .inl f)), (b, .inl (E.2.1 1, 96, .inl gg)), (qj, .inr (2, [.ref jt, .ref je, .ref ju, .ref ja])), (ju, .inl (E.2.1 1, 32, .inl ft2_1)), (je, .inl (E.2.1 4, 4, .inr (.inr (.inr (.inr fe))))), (ja, .inl (E.2.1 5, 2, .inr (.inr (.inr (.inr fa))))), (e0, .inr (0, [.int (nI e0cs), .int (nI e0rc), .ref e0a, .ref e0b, .ref e0c, .ref e0d])), (e0a, .inl (E.2.1 7, 4, .inr (.inr (.inr (.inr e0fi))))), (e0b, .inl (E.2.1 1, 4, .inl e0fb)), (e0c, .inl (E.2.1 1, 4, .inl e0fc)), (e0d, .inl (E.2.1 1, 16, .inl e0fd)), (e1, .inr (0, [.int (nI e1cs), .int (nI e1rc), .ref e1a, .ref e1b, .ref e1c, .ref e1d])), (e1a, .inl (E.2.1 7, 4, .inr (.inr (.inr (.inr e1fi))))), (e1b, .inl (E.2.1 1, 4, .inl e1fb)), (e1c, .inl (E.2.1 1, 4, .inl e1fc)), (e1d, .inl (E.2.1 1, 16, .inl e1fd)), (e2, .inr (0, [.int (nI e2cs), .int (nI e2rc), .ref e2a, .ref e2b, .ref e2c, .ref e2d])), (e2a, .inl (E.2.1 7, 4, .inr (.inr (.inr (.inr e2fi))))), (e2b, .inl (E.2.1 1, 4, .inl e2fb)), (e2c, .inl (E.2.1 1, 4, .inl e2fc)), (e2d, .inl (E.2.1 1, 16, .inl e2fd)), (e3, .inr (0, [.int (nI e3cs), .int (nI e3rc), .ref e3a, .ref e3b, .ref e3c, .ref e3d])), (e3a, .inl (E.2.1 7, 4, .inr (.inr (.inr (.inr e3fi))))), (e3b, .inl (E.2.1 1, 4, .inl e3fb)), (e3c, .inl (E.2.1 1, 4, .inl e3fc)), (e3d, .inl (E.2.1 1, 16, .inl e3fd)), (la0, .inr (3, [.ref la0m, .int la0zp_2, .int la0zw_3, .ref la0c, .ref la0f, .ref la0q])), (la0c, .inl (E.2.1 1, 24, .inl la0zfc_6)), (la0f, .inl (E.2.1 1, 24, .inl la0zff_7)), (la0q, .inl (E.2.1 1, 4, .inl la0zfq_8)), (la0m, .inr (4, [.int (nI la0zn_4), .int (nI la0zr_5), .ref la0x, .ref la0y])), (la0x, .inl (E.2.1 1, 24, .inl la0zgx_9)), (la0y, .inl (E.2.1 1, 96, .inl la0zgy_10)), (la1, .inr (3, [.ref la1m, .int la1zp_11, .int la1zw_12, .ref la1c, .ref la1f, .ref la1q])), (la1c, .inl (E.2.1 1, 24, .inl la1zfc_15)), (la1f, .inl (E.2.1 1, 24, .inl la1zff_16)), (la1q, .inl (E.2.1 1, 4, .inl la1zfq_17)), (la1m, .inr (4, [.int (nI la1zn_13), .int (nI la1zr_14), .ref la1x, .ref la1y])), (la1x, .inl (E.2.1 1, 24, .inl la1zgx_18)), (la1y, .inl (E.2.1 1, 96, .inl la1zgy_19)), (jt, .inl (E.2.1 7, 8, .inr (.inr (.inr (.inr fto)))))]) [0, 1, 2, 3, 4, 5, 6, 7, 8, 9, 10, 11, 12, 13, 14, 15, 16, 17, 18, 19, 20, 21, 22, 23, 24, 25, 26, 27, 28, 29, 30, 31, 32, 33, 34, 35, 36, 37, 38, 39, 40, 41, 42] rfl rfl ?_
  exact kont rr  [(h, .inr (4, [.int (nI n), .int (nI r), .ref a, .ref b])), (a, .inl (E.2.1 1, 24, .inl f)), (b, .inl (E.2.1 1, 96, .inl gg))] [(qj, .inr (2, [.ref jt, .ref je, .ref ju, .ref ja])), (ju, .inl (E.2.1 1, 32, .inl ft2_1)), (je, .inl (E.2.1 4, 4, .inr (.inr (.inr (.inr fe))))), (ja, .inl (E.2.1 5, 2, .inr (.inr (.inr (.inr fa))))), (e0, .inr (0, [.int (nI e0cs), .int (nI e0rc), .ref e0a, .ref e0b, .ref e0c, .ref e0d])), (e0a, .inl (E.2.1 7, 4, .inr (.inr (.inr (.inr e0fi))))), (e0b, .inl (E.2.1 1, 4, .inl e0fb)), (e0c, .inl (E.2.1 1, 4, .inl e0fc)), (e0d, .inl (E.2.1 1, 16, .inl e0fd)), (e1, .inr (0, [.int (nI e1cs), .int (nI e1rc), .ref e1a, .ref e1b, .ref e1c, .ref e1d])), (e1a, .inl (E.2.1 7, 4, .inr (.inr (.inr (.inr e1fi))))), (e1b, .inl (E.2.1 1, 4, .inl e1fb)), (e1c, .inl (E.2.1 1, 4, .inl e1fc)), (e1d, .inl (E.2.1 1, 16, .inl e1fd)), (e2, .inr (0, [.int (nI e2cs), .int (nI e2rc), .ref e2a, .ref e2b, .ref e2c, .ref e2d])), (e2a, .inl (E.2.1 7, 4, .inr (.inr (.inr (.inr e2fi))))), (e2b, .inl (E.2.1 1, 4, .inl e2fb)), (e2c, .inl (E.2.1 1, 4, .inl e2fc)), (e2d, .inl (E.2.1 1, 16, .inl e2fd)), (e3, .inr (0, [.int (nI e3cs), .int (nI e3rc), .ref e3a, .ref e3b, .ref e3c, .ref e3d])), (e3a, .inl (E.2.1 7, 4, .inr (.inr (.inr (.inr e3fi))))), (e3b, .inl (E.2.1 1, 4, .inl e3fb)), (e3c, .inl (E.2.1 1, 4, .inl e3fc)), (e3d, .inl (E.2.1 1, 16, .inl e3fd)), (la0, .inr (3, [.ref la0m, .int la0zp_2, .int la0zw_3, .ref la0c, .ref la0f, .ref la0q])), (la0c, .inl (E.2.1 1, 24, .inl la0zfc_6)), (la0f, .inl (E.2.1 1, 24, .inl la0zff_7)), (la0q, .inl (E.2.1 1, 4, .inl la0zfq_8)), (la0m, .inr (4, [.int (nI la0zn_4), .int (nI la0zr_5), .ref la0x, .ref la0y])), (la0x, .inl (E.2.1 1, 24, .inl la0zgx_9)), (la0y, .inl (E.2.1 1, 96, .inl la0zgy_10)), (la1, .inr (3, [.ref la1m, .int la1zp_11, .int la1zw_12, .ref la1c, .ref la1f, .ref la1q])), (la1c, .inl (E.2.1 1, 24, .inl la1zfc_15)), (la1f, .inl (E.2.1 1, 24, .inl la1zff_16)), (la1q, .inl (E.2.1 1, 4, .inl la1zfq_17)), (la1m, .inr (4, [.int (nI la1zn_13), .int (nI la1zr_14), .ref la1x, .ref la1y])), (la1x, .inl (E.2.1 1, 24, .inl la1zgx_18)), (la1y, .inl (E.2.1 1, 96, .inl la1zgy_19)), (jt, .inl (E.2.1 7, 8, .inr (.inr (.inr (.inr fto)))))]  ⟨n, r, a, b, f, gg, rfl, (by first | assumption | omega), (by first | assumption | omega), (by first | assumption | omega), rfl⟩ ⟨jt, je, ju, ja, ft2_1, fe, e0, e1, e2, e3, fa, la0, la1, e0cs, e0rc, e0a, e0b, e0c, e0d, e0fi, e0fb, e0fc, e0fd, e1cs, e1rc, e1a, e1b, e1c, e1d, e1fi, e1fb, e1fc, e1fd, e2cs, e2rc, e2a, e2b, e2c, e2d, e2fi, e2fb, e2fc, e2fd, e3cs, e3rc, e3a, e3b, e3c, e3d, e3fi, e3fb, e3fc, e3fd, la0m, la0zp_2, la0zw_3, la0c, la0f, la0q, la0zfc_6, la0zff_7, la0zfq_8, la0zn_4, la0zr_5, la0x, la0y, la0zgx_9, la0zgy_10, la1m, la1zp_11, la1zw_12, la1c, la1f, la1q, la1zfc_15, la1zff_16, la1zfq_17, la1zn_13, la1zr_14, la1x, la1y, la1zgx_18, la1zgy_19, fto, e0T, e1T, e2T, e3T, rfl, k_fe_0, k_fe_1, k_fe_2, k_fe_3, k_fa_0, k_fa_1, (by first | assumption | omega), (by first | assumption | omega), he0fi, (by first | assumption | omega), (by first | assumption | omega), he1fi, (by first | assumption | omega), (by first | assumption | omega), he2fi, (by first | assumption | omega), (by first | assumption | omega), he3fi, (by first | assumption | omega), (by first | assumption | omega), (by first | assumption | omega), (by first | assumption | omega), hto, rfl, rfl, rfl, rfl, rfl, rfl⟩ (h_24)
theorem wc_X11_holds : Cond.code yX11_holds cX11_holds 2 (some .int) ∈ TB := tbm (tq4 (List.mem_of_getElem? (i := 50) (rfl))) (by decide +kernel)
theorem wi_X11_holds : Cond.instanceMethod yX11_holds ∈ TB := tbm (tq4 (List.mem_of_getElem? (i := 48) (by decide +kernel))) (by decide +kernel)
theorem ws_X11_holds : Cond.selects RX11 yX11_holds yX11_holds ∈ TB := tbm (tq4 (List.mem_of_getElem? (i := 49) (by decide +kernel))) (by decide +kernel)
theorem mi_X11_holds : MI yX11_holds cX11_holds 2 (some .int) 1 := ⟨wc_X11_holds, wn_X11, ⟨by decide +kernel, by decide +kernel, by decide +kernel⟩, wi_X11_holds, ws_X11_holds⟩
theorem wl_L_68 : Cond.methodLink RL 68 yX11_holds ∈ TB := tbm (tq4 (List.mem_of_getElem? (i := 47) (by decide +kernel))) (by decide +kernel)
theorem dL_law_604 : decode cL_law 604 = .ok (.invokevirtual 68, 3) := by decide +kernel
set_option maxRecDepth 100000 in
set_option maxHeartbeats 4000000 in
theorem lx_holds {X : XT} {E : EV} {ro wT pre : va_W} {lv : List (Nat × Value)} {rest : List Value} {kC nC : Nat} {hx h qp qs qj ly qh kk rd pg ss : Nat} {ac np kc pe : Nat} {kn : Int32} {mN : AM} {tT : Nat → Option SVal} {ec : Nat → Nat} {er : Nat → Nat} {ed : Nat → Nat → Int32} {eT : Nat → Nat → Option SVal} {eb : Nat → Nat → Int32} {en : Nat → Nat → Int32} {w_now : va_W} {w_judg : va_W} {v0 : Int32}  (C : CX X room_1 cL_law 4 RL ret E) (hW : Nat.ble (rest.map fun v => v.category).sum 8 = true) (hT : wT = pre ++ ro) (hk : kC + 0 ≤ 600000 ∧ nC + 0 ≤ 7302250) (hac : ac ≤ 8) (hnp : np < 8) (hkc : kc ≤ 4) (hpe : pe ≤ 4) (H_now : ok_now E ro h mN w_now) (H_judg : ok_judg E ro qj tT ec er ed eT eb en w_judg) (kont : ∀ (rr : Int32) (w_nowZ : va_W) (w_judgZ : va_W), ok_now E ro h mN w_nowZ → ok_judg E ro qj tT ec er ed eT eb en w_judgZ → (rr = ansHolds mN (ev6 ec er eT eb en ed) tT v0) → WW X 4 E 607 lv (.int rr :: rest) ([(hx, .inr (11, [.ref h, .ref qp, .int (nI ac), .int (nI np), .ref qs, .ref qj, .ref ly, .ref qh, .ref kk, .int (nI kc), .ref rd, .ref pg, .int (nI pe), .int kn, .ref ss]))] ++ (w_nowZ ++ (w_judgZ ++ wT))) kC nC) : WW X 4 E 604 lv (.int v0 :: .ref hx :: rest) ([(hx, .inr (11, [.ref h, .ref qp, .int (nI ac), .int (nI np), .ref qs, .ref qj, .ref ly, .ref qh, .ref kk, .int (nI kc), .ref rd, .ref pg, .int (nI pe), .int kn, .ref ss]))] ++ (w_now ++ (w_judg ++ wT))) kC nC := by
  unfold ok_now at H_now
  refine ex6 H_now ?_
  clear H_now
  intro n r a b f gg H_now
  refine an4 H_now ?_
  clear H_now
  intro we_now hn hr hwfm H_now
  have hmN := H_now
  clear H_now
  subst we_now
  subst hmN
  unfold ok_judg at H_judg
  refine ex8 H_judg ?_
  clear H_judg
  intro jt je ju ja ft fe e0 e1 H_judg
  refine ex8 H_judg ?_
  clear H_judg
  intro e2 e3 fa la0 la1 e0cs e0rc e0a H_judg
  refine ex8 H_judg ?_
  clear H_judg
  intro e0b e0c e0d e0fi e0fb e0fc e0fd e1cs H_judg
  refine ex8 H_judg ?_
  clear H_judg
  intro e1rc e1a e1b e1c e1d e1fi e1fb e1fc H_judg
  refine ex8 H_judg ?_
  clear H_judg
  intro e1fd e2cs e2rc e2a e2b e2c e2d e2fi H_judg
  refine ex8 H_judg ?_
  clear H_judg
  intro e2fb e2fc e2fd e3cs e3rc e3a e3b e3c H_judg
  refine ex8 H_judg ?_
  clear H_judg
  intro e3d e3fi e3fb e3fc e3fd la0m la0p la0w H_judg
  refine ex8 H_judg ?_
  clear H_judg
  intro la0c la0f la0q la0fc la0ff la0fq la0n la0r H_judg
  refine ex8 H_judg ?_
  clear H_judg
  intro la0x la0y la0gx la0gy la1m la1p la1w la1c H_judg
  refine ex8 H_judg ?_
  clear H_judg
  intro la1f la1q la1fc la1ff la1fq la1n la1r la1x H_judg
  refine ex8 H_judg ?_
  clear H_judg
  intro la1y la1gx la1gy fto e0T e1T e2T e3T H_judg
  refine an8 H_judg ?_
  clear H_judg
  intro we_judg k_fe_0 k_fe_1 k_fe_2 k_fe_3 k_fa_0 k_fa_1 he0cs H_judg
  refine an8 H_judg ?_
  clear H_judg
  intro he0rc he0fi he1cs he1rc he1fi he2cs he2rc he2fi H_judg
  refine an8 H_judg ?_
  clear H_judg
  intro he3cs he3rc he3fi hla0n hla0r hla1n hla1r hto H_judg
  refine an5 H_judg ?_
  clear H_judg
  intro hec her hed heT heb H_judg
  have hen := H_judg
  clear H_judg
  subst we_judg
  subst hec
  subst her
  subst hed
  subst heT
  subst heb
  subst hen
  refine ww_eq (ws' := [(hx, .inr (11, [.ref h, .ref qp, .int (nI ac), .int (nI np), .ref qs, .ref qj, .ref ly, .ref qh, .ref kk, .int (nI kc), .ref rd, .ref pg, .int (nI pe), .int kn, .ref ss])), (h, .inr (4, [.int (nI n), .int (nI r), .ref a, .ref b])), (a, .inl (E.2.1 1, 24, .inl f)), (b, .inl (E.2.1 1, 96, .inl gg)), (qj, .inr (2, [.ref jt, .ref je, .ref ju, .ref ja])), (ju, .inl (E.2.1 1, 32, .inl ft)), (je, .inl (E.2.1 4, 4, .inr (.inr (.inr (.inr fe))))), (ja, .inl (E.2.1 5, 2, .inr (.inr (.inr (.inr fa))))), (e0, .inr (0, [.int (nI e0cs), .int (nI e0rc), .ref e0a, .ref e0b, .ref e0c, .ref e0d])), (e0a, .inl (E.2.1 7, 4, .inr (.inr (.inr (.inr e0fi))))), (e0b, .inl (E.2.1 1, 4, .inl e0fb)), (e0c, .inl (E.2.1 1, 4, .inl e0fc)), (e0d, .inl (E.2.1 1, 16, .inl e0fd)), (e1, .inr (0, [.int (nI e1cs), .int (nI e1rc), .ref e1a, .ref e1b, .ref e1c, .ref e1d])), (e1a, .inl (E.2.1 7, 4, .inr (.inr (.inr (.inr e1fi))))), (e1b, .inl (E.2.1 1, 4, .inl e1fb)), (e1c, .inl (E.2.1 1, 4, .inl e1fc)), (e1d, .inl (E.2.1 1, 16, .inl e1fd)), (e2, .inr (0, [.int (nI e2cs), .int (nI e2rc), .ref e2a, .ref e2b, .ref e2c, .ref e2d])), (e2a, .inl (E.2.1 7, 4, .inr (.inr (.inr (.inr e2fi))))), (e2b, .inl (E.2.1 1, 4, .inl e2fb)), (e2c, .inl (E.2.1 1, 4, .inl e2fc)), (e2d, .inl (E.2.1 1, 16, .inl e2fd)), (e3, .inr (0, [.int (nI e3cs), .int (nI e3rc), .ref e3a, .ref e3b, .ref e3c, .ref e3d])), (e3a, .inl (E.2.1 7, 4, .inr (.inr (.inr (.inr e3fi))))), (e3b, .inl (E.2.1 1, 4, .inl e3fb)), (e3c, .inl (E.2.1 1, 4, .inl e3fc)), (e3d, .inl (E.2.1 1, 16, .inl e3fd)), (la0, .inr (3, [.ref la0m, .int la0p, .int la0w, .ref la0c, .ref la0f, .ref la0q])), (la0c, .inl (E.2.1 1, 24, .inl la0fc)), (la0f, .inl (E.2.1 1, 24, .inl la0ff)), (la0q, .inl (E.2.1 1, 4, .inl la0fq)), (la0m, .inr (4, [.int (nI la0n), .int (nI la0r), .ref la0x, .ref la0y])), (la0x, .inl (E.2.1 1, 24, .inl la0gx)), (la0y, .inl (E.2.1 1, 96, .inl la0gy)), (la1, .inr (3, [.ref la1m, .int la1p, .int la1w, .ref la1c, .ref la1f, .ref la1q])), (la1c, .inl (E.2.1 1, 24, .inl la1fc)), (la1f, .inl (E.2.1 1, 24, .inl la1ff)), (la1q, .inl (E.2.1 1, 4, .inl la1fq)), (la1m, .inr (4, [.int (nI la1n), .int (nI la1r), .ref la1x, .ref la1y])), (la1x, .inl (E.2.1 1, 24, .inl la1gx)), (la1y, .inl (E.2.1 1, 96, .inl la1gy)), (jt, .inl (E.2.1 7, 8, .inr (.inr (.inr (.inr fto)))))] ++ wT) ?_ rfl rfl rfl
  refine ww_ciT (k' := kC) (n' := nC) (wr := []) C (run_V (As := [.int v0]) (rest := rest) C (x_holds X.2.1 E ro hx v0 h qp ac np qs qj ly qh kk kc rd pg pe kn ss n r a b f gg jt je ju ja ft fe e0 e1 e2 e3 fa la0 la1 e0cs e0rc e0a e0b e0c e0d e0fi e0fb e0fc e0fd e1cs e1rc e1a e1b e1c e1d e1fi e1fb e1fc e1fd e2cs e2rc e2a e2b e2c e2d e2fi e2fb e2fc e2fd e3cs e3rc e3a e3b e3c e3d e3fi e3fb e3fc e3fd la0m la0p la0w la0c la0f la0q la0fc la0ff la0fq la0n la0r la0x la0y la0gx la0gy la1m la1p la1w la1c la1f la1q la1fc la1ff la1fq la1n la1r la1x la1y la1gx la1gy fto e0T e1T e2T e3T tT k_fe_0 k_fe_1 k_fe_2 k_fe_3 k_fa_0 k_fa_1 (by first | assumption | omega) (by first | assumption | omega) (by first | assumption | omega) (by first | assumption | omega) (by first | assumption | omega) (by first | assumption | omega) (by first | assumption | omega) (by first | assumption | omega) (by first | assumption | omega) he0fi (by first | assumption | omega) (by first | assumption | omega) he1fi (by first | assumption | omega) (by first | assumption | omega) he2fi (by first | assumption | omega) (by first | assumption | omega) he3fi (by first | assumption | omega) (by first | assumption | omega) (by first | assumption | omega) (by first | assumption | omega) hto) mi_X11_holds wl_L_68 rfl 0 11 rfl rfl rfl rfl hW dL_law_604) (roT (pre := pre) [0, 1, 2, 3, 4, 5, 6, 7, 8, 9, 10, 11, 12, 13, 14, 15, 16, 17, 18, 19, 20, 21, 22, 23, 24, 25, 26, 27, 28, 29, 30, 31, 32, 33, 34, 35, 36, 37, 38, 39, 40, 41, 42] rfl hT) [0, 1, 2, 3, 4, 5, 6, 7, 8, 9, 10, 11, 12, 13, 14, 15, 16, 17, 18, 19, 20, 21, 22, 23, 24, 25, 26, 27, 28, 29, 30, 31, 32, 33, 34, 35, 36, 37, 38, 39, 40, 41, 42] [] rfl rfl rfl ⟨by omega, by omega, hk.1, hk.2⟩ (fun rr u hw => ?_)
  refine ex8 hw ?_
  clear hw
  intro ft2_1 la0zp_2 la0zw_3 la0zn_4 la0zr_5 la0zfc_6 la0zff_7 la0zfq_8 hw
  refine ex8 hw ?_
  clear hw
  intro la0zgx_9 la0zgy_10 la1zp_11 la1zw_12 la1zn_13 la1zr_14 la1zfc_15 la1zff_16 hw
  refine ex3 hw ?_
  clear hw
  intro la1zfq_17 la1zgx_18 la1zgy_19 hw
  refine an5 hw ?_
  clear hw
  intro he_u h_20 h_21 h_22 h_23 hw
  have h_24 := hw
  clear hw
  subst he_u
  refine ww_subT (w1 := [(hx, .inr (11, [.ref h, .ref qp, .int (nI ac), .int (nI np), .ref qs, .ref qj, .ref ly, .ref qh, .ref kk, .int (nI kc), .ref rd, .ref pg, .int (nI pe), .int kn, .ref ss])), (h, .inr (4, [.int (nI n), .int (nI r), .ref a, .ref b])), (a, .inl (E.2.1 1, 24, .inl f)), (b, .inl (E.2.1 1, 96, .inl gg)), (qj, .inr (2, [.ref jt, .ref je, .ref ju, .ref ja])), (ju, .inl (E.2.1 1, 32, .inl ft2_1)), (je, .inl (E.2.1 4, 4, .inr (.inr (.inr (.inr fe))))), (ja, .inl (E.2.1 5, 2, .inr (.inr (.inr (.inr fa))))), (e0, .inr (0, [.int (nI e0cs), .int (nI e0rc), .ref e0a, .ref e0b, .ref e0c, .ref e0d])), (e0a, .inl (E.2.1 7, 4, .inr (.inr (.inr (.inr e0fi))))), (e0b, .inl (E.2.1 1, 4, .inl e0fb)), (e0c, .inl (E.2.1 1, 4, .inl e0fc)), (e0d, .inl (E.2.1 1, 16, .inl e0fd)), (e1, .inr (0, [.int (nI e1cs), .int (nI e1rc), .ref e1a, .ref e1b, .ref e1c, .ref e1d])), (e1a, .inl (E.2.1 7, 4, .inr (.inr (.inr (.inr e1fi))))), (e1b, .inl (E.2.1 1, 4, .inl e1fb)), (e1c, .inl (E.2.1 1, 4, .inl e1fc)), (e1d, .inl (E.2.1 1, 16, .inl e1fd)), (e2, .inr (0, [.int (nI e2cs), .int (nI e2rc), .ref e2a, .ref e2b, .ref e2c, .ref e2d])), (e2a, .inl (E.2.1 7, 4, .inr (.inr (.inr (.inr e2fi))))), (e2b, .inl (E.2.1 1, 4, .inl e2fb)), (e2c, .inl (E.2.1 1, 4, .inl e2fc)), (e2d, .inl (E.2.1 1, 16, .inl e2fd)), (e3, .inr (0, [.int (nI e3cs), .int (nI e3rc), .ref e3a, .ref e3b, .ref e3c, .ref e3d])), (e3a, .inl (E.2.1 7, 4, .inr (.inr (.inr (.inr e3fi))))), (e3b, .inl (E.2.1 1, 4, .inl e3fb)), (e3c, .inl (E.2.1 1, 4, .inl e3fc)), (e3d, .inl (E.2.1 1, 16, .inl e3fd)), (la0, .inr (3, [.ref la0m, .int la0zp_2, .int la0zw_3, .ref la0c, .ref la0f, .ref la0q])), (la0c, .inl (E.2.1 1, 24, .inl la0zfc_6)), (la0f, .inl (E.2.1 1, 24, .inl la0zff_7)), (la0q, .inl (E.2.1 1, 4, .inl la0zfq_8)), (la0m, .inr (4, [.int (nI la0zn_4), .int (nI la0zr_5), .ref la0x, .ref la0y])), (la0x, .inl (E.2.1 1, 24, .inl la0zgx_9)), (la0y, .inl (E.2.1 1, 96, .inl la0zgy_10)), (la1, .inr (3, [.ref la1m, .int la1zp_11, .int la1zw_12, .ref la1c, .ref la1f, .ref la1q])), (la1c, .inl (E.2.1 1, 24, .inl la1zfc_15)), (la1f, .inl (E.2.1 1, 24, .inl la1zff_16)), (la1q, .inl (E.2.1 1, 4, .inl la1zfq_17)), (la1m, .inr (4, [.int (nI la1zn_13), .int (nI la1zr_14), .ref la1x, .ref la1y])), (la1x, .inl (E.2.1 1, 24, .inl la1zgx_18)), (la1y, .inl (E.2.1 1, 96, .inl la1zgy_19)), (jt, .inl (E.2.1 7, 8, .inr (.inr (.inr (.inr fto)))))]) [0, 1, 2, 3, 4, 5, 6, 7, 8, 9, 10, 11, 12, 13, 14, 15, 16, 17, 18, 19, 20, 21, 22, 23, 24, 25, 26, 27, 28, 29, 30, 31, 32, 33, 34, 35, 36, 37, 38, 39, 40, 41, 42] rfl rfl ?_
  exact kont rr  [(h, .inr (4, [.int (nI n), .int (nI r), .ref a, .ref b])), (a, .inl (E.2.1 1, 24, .inl f)), (b, .inl (E.2.1 1, 96, .inl gg))] [(qj, .inr (2, [.ref jt, .ref je, .ref ju, .ref ja])), (ju, .inl (E.2.1 1, 32, .inl ft2_1)), (je, .inl (E.2.1 4, 4, .inr (.inr (.inr (.inr fe))))), (ja, .inl (E.2.1 5, 2, .inr (.inr (.inr (.inr fa))))), (e0, .inr (0, [.int (nI e0cs), .int (nI e0rc), .ref e0a, .ref e0b, .ref e0c, .ref e0d])), (e0a, .inl (E.2.1 7, 4, .inr (.inr (.inr (.inr e0fi))))), (e0b, .inl (E.2.1 1, 4, .inl e0fb)), (e0c, .inl (E.2.1 1, 4, .inl e0fc)), (e0d, .inl (E.2.1 1, 16, .inl e0fd)), (e1, .inr (0, [.int (nI e1cs), .int (nI e1rc), .ref e1a, .ref e1b, .ref e1c, .ref e1d])), (e1a, .inl (E.2.1 7, 4, .inr (.inr (.inr (.inr e1fi))))), (e1b, .inl (E.2.1 1, 4, .inl e1fb)), (e1c, .inl (E.2.1 1, 4, .inl e1fc)), (e1d, .inl (E.2.1 1, 16, .inl e1fd)), (e2, .inr (0, [.int (nI e2cs), .int (nI e2rc), .ref e2a, .ref e2b, .ref e2c, .ref e2d])), (e2a, .inl (E.2.1 7, 4, .inr (.inr (.inr (.inr e2fi))))), (e2b, .inl (E.2.1 1, 4, .inl e2fb)), (e2c, .inl (E.2.1 1, 4, .inl e2fc)), (e2d, .inl (E.2.1 1, 16, .inl e2fd)), (e3, .inr (0, [.int (nI e3cs), .int (nI e3rc), .ref e3a, .ref e3b, .ref e3c, .ref e3d])), (e3a, .inl (E.2.1 7, 4, .inr (.inr (.inr (.inr e3fi))))), (e3b, .inl (E.2.1 1, 4, .inl e3fb)), (e3c, .inl (E.2.1 1, 4, .inl e3fc)), (e3d, .inl (E.2.1 1, 16, .inl e3fd)), (la0, .inr (3, [.ref la0m, .int la0zp_2, .int la0zw_3, .ref la0c, .ref la0f, .ref la0q])), (la0c, .inl (E.2.1 1, 24, .inl la0zfc_6)), (la0f, .inl (E.2.1 1, 24, .inl la0zff_7)), (la0q, .inl (E.2.1 1, 4, .inl la0zfq_8)), (la0m, .inr (4, [.int (nI la0zn_4), .int (nI la0zr_5), .ref la0x, .ref la0y])), (la0x, .inl (E.2.1 1, 24, .inl la0zgx_9)), (la0y, .inl (E.2.1 1, 96, .inl la0zgy_10)), (la1, .inr (3, [.ref la1m, .int la1zp_11, .int la1zw_12, .ref la1c, .ref la1f, .ref la1q])), (la1c, .inl (E.2.1 1, 24, .inl la1zfc_15)), (la1f, .inl (E.2.1 1, 24, .inl la1zff_16)), (la1q, .inl (E.2.1 1, 4, .inl la1zfq_17)), (la1m, .inr (4, [.int (nI la1zn_13), .int (nI la1zr_14), .ref la1x, .ref la1y])), (la1x, .inl (E.2.1 1, 24, .inl la1zgx_18)), (la1y, .inl (E.2.1 1, 96, .inl la1zgy_19)), (jt, .inl (E.2.1 7, 8, .inr (.inr (.inr (.inr fto)))))]  ⟨n, r, a, b, f, gg, rfl, (by first | assumption | omega), (by first | assumption | omega), (by first | assumption | omega), rfl⟩ ⟨jt, je, ju, ja, ft2_1, fe, e0, e1, e2, e3, fa, la0, la1, e0cs, e0rc, e0a, e0b, e0c, e0d, e0fi, e0fb, e0fc, e0fd, e1cs, e1rc, e1a, e1b, e1c, e1d, e1fi, e1fb, e1fc, e1fd, e2cs, e2rc, e2a, e2b, e2c, e2d, e2fi, e2fb, e2fc, e2fd, e3cs, e3rc, e3a, e3b, e3c, e3d, e3fi, e3fb, e3fc, e3fd, la0m, la0zp_2, la0zw_3, la0c, la0f, la0q, la0zfc_6, la0zff_7, la0zfq_8, la0zn_4, la0zr_5, la0x, la0y, la0zgx_9, la0zgy_10, la1m, la1zp_11, la1zw_12, la1c, la1f, la1q, la1zfc_15, la1zff_16, la1zfq_17, la1zn_13, la1zr_14, la1x, la1y, la1zgx_18, la1zgy_19, fto, e0T, e1T, e2T, e3T, rfl, k_fe_0, k_fe_1, k_fe_2, k_fe_3, k_fa_0, k_fa_1, (by first | assumption | omega), (by first | assumption | omega), he0fi, (by first | assumption | omega), (by first | assumption | omega), he1fi, (by first | assumption | omega), (by first | assumption | omega), he2fi, (by first | assumption | omega), (by first | assumption | omega), he3fi, (by first | assumption | omega), (by first | assumption | omega), (by first | assumption | omega), (by first | assumption | omega), hto, rfl, rfl, rfl, rfl, rfl, rfl⟩ (h_24)
theorem wc_X11_event : Cond.code yX11_event cX11_event 3 (some .int) ∈ TB := tbm (tq4 (List.mem_of_getElem? (i := 54) (rfl))) (by decide +kernel)
theorem wi_X11_event : Cond.instanceMethod yX11_event ∈ TB := tbm (tq4 (List.mem_of_getElem? (i := 52) (by decide +kernel))) (by decide +kernel)
theorem ws_X11_event : Cond.selects RX11 yX11_event yX11_event ∈ TB := tbm (tq4 (List.mem_of_getElem? (i := 53) (by decide +kernel))) (by decide +kernel)
theorem mi_X11_event : MI yX11_event cX11_event 3 (some .int) 2 := ⟨wc_X11_event, wn_X11, ⟨by decide +kernel, by decide +kernel, by decide +kernel⟩, wi_X11_event, ws_X11_event⟩
theorem wl_L_72 : Cond.methodLink RL 72 yX11_event ∈ TB := tbm (tq4 (List.mem_of_getElem? (i := 51) (by decide +kernel))) (by decide +kernel)
theorem dL_law_632 : decode cL_law 632 = .ok (.invokevirtual 72, 3) := by decide +kernel
set_option maxRecDepth 100000 in
set_option maxHeartbeats 4000000 in
theorem lx_event {X : XT} {E : EV} {ro wT pre : va_W} {lv : List (Nat × Value)} {rest : List Value} {kC nC : Nat} {hx h qp qs qj ly qh kk rd pg ss : Nat} {ac np kc pe : Nat} {kn : Int32} {tT : Nat → Option SVal} {ec : Nat → Nat} {er : Nat → Nat} {ed : Nat → Nat → Int32} {eT : Nat → Nat → Option SVal} {eb : Nat → Nat → Int32} {en : Nat → Nat → Int32} {w_judg : va_W} {v0 : Int32} {v1 : Int32}  (C : CX X room_1 cL_law 4 RL ret E) (hW : Nat.ble (rest.map fun v => v.category).sum 8 = true) (hT : wT = pre ++ ro) (hk : kC + 0 ≤ 600000 ∧ nC + 0 ≤ 7302250) (hac : ac ≤ 8) (hnp : np < 8) (hkc : kc ≤ 4) (hpe : pe ≤ 4) (H_judg : ok_judg E ro qj tT ec er ed eT eb en w_judg) (kont : ∀ (rr : Int32) (ecZ : Nat → Nat) (erZ : Nat → Nat) (edZ : Nat → Nat → Int32) (eTZ : Nat → Nat → Option SVal) (ebZ : Nat → Nat → Int32) (enZ : Nat → Nat → Int32) (w_judgZ : va_W), ok_judg E ro qj tT ecZ erZ edZ eTZ ebZ enZ w_judgZ → (((v0.toInt < 0 ∨ 3 < v0.toInt ∨ v1.toInt < 1 ∨ 4 < v1.toInt) ∧ rr = -1 ∧ ecZ = ec ∧ erZ = er ∧ edZ = ed ∧ eTZ = eT ∧ ebZ = eb ∧ enZ = en) ∨ ∃ k_ n_ : Nat, v0 = nI k_ ∧ v1 = nI n_ ∧ k_ ≤ 3 ∧ (1 ≤ n_ ∧ n_ ≤ 4) ∧ (∀ i, i < 4 → ecZ i = if i = k_ then n_ else ec i) ∧ (∀ i, i < 4 → erZ i = if i = k_ then 0 else er i) ∧ (∀ i, i < 4 → i ≠ k_ → edZ i = ed i) ∧ Z0x 16 (edZ k_) ∧ rr = 1 ∧ (∀ i, i < 4 → i ≠ k_ → eTZ i = eT i) ∧ (∀ i, i < 4 → i ≠ k_ → ebZ i = eb i) ∧ (∀ i, i < 4 → i ≠ k_ → enZ i = en i) ∧ (∀ z, z < 4 → ebZ k_ z = 0 ∧ enZ k_ z = 0) ∧ ∀ z, z < 4 → eTZ k_ z = none) → WW X 4 E 635 lv (.int rr :: rest) ([(hx, .inr (11, [.ref h, .ref qp, .int (nI ac), .int (nI np), .ref qs, .ref qj, .ref ly, .ref qh, .ref kk, .int (nI kc), .ref rd, .ref pg, .int (nI pe), .int kn, .ref ss]))] ++ (w_judgZ ++ wT)) kC nC) : WW X 4 E 632 lv (.int v1 :: .int v0 :: .ref hx :: rest) ([(hx, .inr (11, [.ref h, .ref qp, .int (nI ac), .int (nI np), .ref qs, .ref qj, .ref ly, .ref qh, .ref kk, .int (nI kc), .ref rd, .ref pg, .int (nI pe), .int kn, .ref ss]))] ++ (w_judg ++ wT)) kC nC := by
  unfold ok_judg at H_judg
  refine ex8 H_judg ?_
  clear H_judg
  intro jt je ju ja ft fe e0 e1 H_judg
  refine ex8 H_judg ?_
  clear H_judg
  intro e2 e3 fa la0 la1 e0cs e0rc e0a H_judg
  refine ex8 H_judg ?_
  clear H_judg
  intro e0b e0c e0d e0fi e0fb e0fc e0fd e1cs H_judg
  refine ex8 H_judg ?_
  clear H_judg
  intro e1rc e1a e1b e1c e1d e1fi e1fb e1fc H_judg
  refine ex8 H_judg ?_
  clear H_judg
  intro e1fd e2cs e2rc e2a e2b e2c e2d e2fi H_judg
  refine ex8 H_judg ?_
  clear H_judg
  intro e2fb e2fc e2fd e3cs e3rc e3a e3b e3c H_judg
  refine ex8 H_judg ?_
  clear H_judg
  intro e3d e3fi e3fb e3fc e3fd la0m la0p la0w H_judg
  refine ex8 H_judg ?_
  clear H_judg
  intro la0c la0f la0q la0fc la0ff la0fq la0n la0r H_judg
  refine ex8 H_judg ?_
  clear H_judg
  intro la0x la0y la0gx la0gy la1m la1p la1w la1c H_judg
  refine ex8 H_judg ?_
  clear H_judg
  intro la1f la1q la1fc la1ff la1fq la1n la1r la1x H_judg
  refine ex8 H_judg ?_
  clear H_judg
  intro la1y la1gx la1gy fto e0T e1T e2T e3T H_judg
  refine an8 H_judg ?_
  clear H_judg
  intro we_judg k_fe_0 k_fe_1 k_fe_2 k_fe_3 k_fa_0 k_fa_1 he0cs H_judg
  refine an8 H_judg ?_
  clear H_judg
  intro he0rc he0fi he1cs he1rc he1fi he2cs he2rc he2fi H_judg
  refine an8 H_judg ?_
  clear H_judg
  intro he3cs he3rc he3fi hla0n hla0r hla1n hla1r hto H_judg
  refine an5 H_judg ?_
  clear H_judg
  intro hec her hed heT heb H_judg
  have hen := H_judg
  clear H_judg
  subst we_judg
  subst hec
  subst her
  subst hed
  subst heT
  subst heb
  subst hen
  refine ww_eq (ws' := [(hx, .inr (11, [.ref h, .ref qp, .int (nI ac), .int (nI np), .ref qs, .ref qj, .ref ly, .ref qh, .ref kk, .int (nI kc), .ref rd, .ref pg, .int (nI pe), .int kn, .ref ss])), (qj, .inr (2, [.ref jt, .ref je, .ref ju, .ref ja])), (ju, .inl (E.2.1 1, 32, .inl ft)), (je, .inl (E.2.1 4, 4, .inr (.inr (.inr (.inr fe))))), (ja, .inl (E.2.1 5, 2, .inr (.inr (.inr (.inr fa))))), (e0, .inr (0, [.int (nI e0cs), .int (nI e0rc), .ref e0a, .ref e0b, .ref e0c, .ref e0d])), (e0a, .inl (E.2.1 7, 4, .inr (.inr (.inr (.inr e0fi))))), (e0b, .inl (E.2.1 1, 4, .inl e0fb)), (e0c, .inl (E.2.1 1, 4, .inl e0fc)), (e0d, .inl (E.2.1 1, 16, .inl e0fd)), (e1, .inr (0, [.int (nI e1cs), .int (nI e1rc), .ref e1a, .ref e1b, .ref e1c, .ref e1d])), (e1a, .inl (E.2.1 7, 4, .inr (.inr (.inr (.inr e1fi))))), (e1b, .inl (E.2.1 1, 4, .inl e1fb)), (e1c, .inl (E.2.1 1, 4, .inl e1fc)), (e1d, .inl (E.2.1 1, 16, .inl e1fd)), (e2, .inr (0, [.int (nI e2cs), .int (nI e2rc), .ref e2a, .ref e2b, .ref e2c, .ref e2d])), (e2a, .inl (E.2.1 7, 4, .inr (.inr (.inr (.inr e2fi))))), (e2b, .inl (E.2.1 1, 4, .inl e2fb)), (e2c, .inl (E.2.1 1, 4, .inl e2fc)), (e2d, .inl (E.2.1 1, 16, .inl e2fd)), (e3, .inr (0, [.int (nI e3cs), .int (nI e3rc), .ref e3a, .ref e3b, .ref e3c, .ref e3d])), (e3a, .inl (E.2.1 7, 4, .inr (.inr (.inr (.inr e3fi))))), (e3b, .inl (E.2.1 1, 4, .inl e3fb)), (e3c, .inl (E.2.1 1, 4, .inl e3fc)), (e3d, .inl (E.2.1 1, 16, .inl e3fd)), (la0, .inr (3, [.ref la0m, .int la0p, .int la0w, .ref la0c, .ref la0f, .ref la0q])), (la0c, .inl (E.2.1 1, 24, .inl la0fc)), (la0f, .inl (E.2.1 1, 24, .inl la0ff)), (la0q, .inl (E.2.1 1, 4, .inl la0fq)), (la0m, .inr (4, [.int (nI la0n), .int (nI la0r), .ref la0x, .ref la0y])), (la0x, .inl (E.2.1 1, 24, .inl la0gx)), (la0y, .inl (E.2.1 1, 96, .inl la0gy)), (la1, .inr (3, [.ref la1m, .int la1p, .int la1w, .ref la1c, .ref la1f, .ref la1q])), (la1c, .inl (E.2.1 1, 24, .inl la1fc)), (la1f, .inl (E.2.1 1, 24, .inl la1ff)), (la1q, .inl (E.2.1 1, 4, .inl la1fq)), (la1m, .inr (4, [.int (nI la1n), .int (nI la1r), .ref la1x, .ref la1y])), (la1x, .inl (E.2.1 1, 24, .inl la1gx)), (la1y, .inl (E.2.1 1, 96, .inl la1gy)), (jt, .inl (E.2.1 7, 8, .inr (.inr (.inr (.inr fto)))))] ++ wT) ?_ rfl rfl rfl
  refine ww_ciT (k' := kC) (n' := nC) (wr := [(ju, .inl (E.2.1 1, 32, .inl ft)), (ja, .inl (E.2.1 5, 2, .inr (.inr (.inr (.inr fa))))), (la0, .inr (3, [.ref la0m, .int la0p, .int la0w, .ref la0c, .ref la0f, .ref la0q])), (la0c, .inl (E.2.1 1, 24, .inl la0fc)), (la0f, .inl (E.2.1 1, 24, .inl la0ff)), (la0q, .inl (E.2.1 1, 4, .inl la0fq)), (la0m, .inr (4, [.int (nI la0n), .int (nI la0r), .ref la0x, .ref la0y])), (la0x, .inl (E.2.1 1, 24, .inl la0gx)), (la0y, .inl (E.2.1 1, 96, .inl la0gy)), (la1, .inr (3, [.ref la1m, .int la1p, .int la1w, .ref la1c, .ref la1f, .ref la1q])), (la1c, .inl (E.2.1 1, 24, .inl la1fc)), (la1f, .inl (E.2.1 1, 24, .inl la1ff)), (la1q, .inl (E.2.1 1, 4, .inl la1fq)), (la1m, .inr (4, [.int (nI la1n), .int (nI la1r), .ref la1x, .ref la1y])), (la1x, .inl (E.2.1 1, 24, .inl la1gx)), (la1y, .inl (E.2.1 1, 96, .inl la1gy)), (jt, .inl (E.2.1 7, 8, .inr (.inr (.inr (.inr fto)))))]) C (run_V (As := [.int v0, .int v1]) (rest := rest) C (x_event X.2.1 E ro hx v0 v1 h qp ac np qs qj ly qh kk kc rd pg pe kn ss jt je ju ja fe e0 e1 e2 e3 e0cs e0rc e0a e0b e0c e0d e0fi e0fb e0fc e0fd e1cs e1rc e1a e1b e1c e1d e1fi e1fb e1fc e1fd e2cs e2rc e2a e2b e2c e2d e2fi e2fb e2fc e2fd e3cs e3rc e3a e3b e3c e3d e3fi e3fb e3fc e3fd e0T e1T e2T e3T k_fe_0 k_fe_1 k_fe_2 k_fe_3 (by first | assumption | omega) (by first | assumption | omega) (by first | assumption | omega) (by first | assumption | omega) (by first | assumption | omega) (by first | assumption | omega) he0fi (by first | assumption | omega) (by first | assumption | omega) he1fi (by first | assumption | omega) (by first | assumption | omega) he2fi (by first | assumption | omega) (by first | assumption | omega) he3fi) mi_X11_event wl_L_72 rfl 0 11 rfl rfl rfl rfl hW dL_law_632) (roT (pre := pre) [0, 1, 3, 5, 6, 7, 8, 9, 10, 11, 12, 13, 14, 15, 16, 17, 18, 19, 20, 21, 22, 23, 24] rfl hT) [0, 1, 3, 5, 6, 7, 8, 9, 10, 11, 12, 13, 14, 15, 16, 17, 18, 19, 20, 21, 22, 23, 24] [2, 4, 25, 26, 27, 28, 29, 30, 31, 32, 33, 34, 35, 36, 37, 38, 39] rfl rfl rfl ⟨by omega, by omega, hk.1, hk.2⟩ (fun rr u hw => ?_)
  rcases hw with hw | hw
  · refine an2 hw ?_
    clear hw
    intro he_r he_u hw
    have h_1 := hw
    clear hw
    have he_r := he_r.symm
    subst he_r
    subst he_u
    refine ww_subT (w1 := [(hx, .inr (11, [.ref h, .ref qp, .int (nI ac), .int (nI np), .ref qs, .ref qj, .ref ly, .ref qh, .ref kk, .int (nI kc), .ref rd, .ref pg, .int (nI pe), .int kn, .ref ss])), (qj, .inr (2, [.ref jt, .ref je, .ref ju, .ref ja])), (ju, .inl (E.2.1 1, 32, .inl ft)), (je, .inl (E.2.1 4, 4, .inr (.inr (.inr (.inr fe))))), (ja, .inl (E.2.1 5, 2, .inr (.inr (.inr (.inr fa))))), (e0, .inr (0, [.int (nI e0cs), .int (nI e0rc), .ref e0a, .ref e0b, .ref e0c, .ref e0d])), (e0a, .inl (E.2.1 7, 4, .inr (.inr (.inr (.inr e0fi))))), (e0b, .inl (E.2.1 1, 4, .inl e0fb)), (e0c, .inl (E.2.1 1, 4, .inl e0fc)), (e0d, .inl (E.2.1 1, 16, .inl e0fd)), (e1, .inr (0, [.int (nI e1cs), .int (nI e1rc), .ref e1a, .ref e1b, .ref e1c, .ref e1d])), (e1a, .inl (E.2.1 7, 4, .inr (.inr (.inr (.inr e1fi))))), (e1b, .inl (E.2.1 1, 4, .inl e1fb)), (e1c, .inl (E.2.1 1, 4, .inl e1fc)), (e1d, .inl (E.2.1 1, 16, .inl e1fd)), (e2, .inr (0, [.int (nI e2cs), .int (nI e2rc), .ref e2a, .ref e2b, .ref e2c, .ref e2d])), (e2a, .inl (E.2.1 7, 4, .inr (.inr (.inr (.inr e2fi))))), (e2b, .inl (E.2.1 1, 4, .inl e2fb)), (e2c, .inl (E.2.1 1, 4, .inl e2fc)), (e2d, .inl (E.2.1 1, 16, .inl e2fd)), (e3, .inr (0, [.int (nI e3cs), .int (nI e3rc), .ref e3a, .ref e3b, .ref e3c, .ref e3d])), (e3a, .inl (E.2.1 7, 4, .inr (.inr (.inr (.inr e3fi))))), (e3b, .inl (E.2.1 1, 4, .inl e3fb)), (e3c, .inl (E.2.1 1, 4, .inl e3fc)), (e3d, .inl (E.2.1 1, 16, .inl e3fd)), (la0, .inr (3, [.ref la0m, .int la0p, .int la0w, .ref la0c, .ref la0f, .ref la0q])), (la0c, .inl (E.2.1 1, 24, .inl la0fc)), (la0f, .inl (E.2.1 1, 24, .inl la0ff)), (la0q, .inl (E.2.1 1, 4, .inl la0fq)), (la0m, .inr (4, [.int (nI la0n), .int (nI la0r), .ref la0x, .ref la0y])), (la0x, .inl (E.2.1 1, 24, .inl la0gx)), (la0y, .inl (E.2.1 1, 96, .inl la0gy)), (la1, .inr (3, [.ref la1m, .int la1p, .int la1w, .ref la1c, .ref la1f, .ref la1q])), (la1c, .inl (E.2.1 1, 24, .inl la1fc)), (la1f, .inl (E.2.1 1, 24, .inl la1ff)), (la1q, .inl (E.2.1 1, 4, .inl la1fq)), (la1m, .inr (4, [.int (nI la1n), .int (nI la1r), .ref la1x, .ref la1y])), (la1x, .inl (E.2.1 1, 24, .inl la1gx)), (la1y, .inl (E.2.1 1, 96, .inl la1gy)), (jt, .inl (E.2.1 7, 8, .inr (.inr (.inr (.inr fto)))))]) [17, 18, 0, 19, 1, 20, 21, 22, 23, 24, 25, 26, 27, 28, 29, 30, 31, 32, 33, 34, 35, 36, 37, 38, 39, 2, 3, 4, 5, 6, 7, 8, 9, 10, 11, 12, 13, 14, 15, 16] rfl rfl ?_
    exact kont (-1) (pick4 e0cs e1cs e2cs e3cs) (pick4 e0rc e1rc e2rc e3rc) (pick4 e0fd e1fd e2fd e3fd) (pick4 e0T e1T e2T e3T) (pick4 e0fb e1fb e2fb e3fb) (pick4 e0fc e1fc e2fc e3fc) [(qj, .inr (2, [.ref jt, .ref je, .ref ju, .ref ja])), (ju, .inl (E.2.1 1, 32, .inl ft)), (je, .inl (E.2.1 4, 4, .inr (.inr (.inr (.inr fe))))), (ja, .inl (E.2.1 5, 2, .inr (.inr (.inr (.inr fa))))), (e0, .inr (0, [.int (nI e0cs), .int (nI e0rc), .ref e0a, .ref e0b, .ref e0c, .ref e0d])), (e0a, .inl (E.2.1 7, 4, .inr (.inr (.inr (.inr e0fi))))), (e0b, .inl (E.2.1 1, 4, .inl e0fb)), (e0c, .inl (E.2.1 1, 4, .inl e0fc)), (e0d, .inl (E.2.1 1, 16, .inl e0fd)), (e1, .inr (0, [.int (nI e1cs), .int (nI e1rc), .ref e1a, .ref e1b, .ref e1c, .ref e1d])), (e1a, .inl (E.2.1 7, 4, .inr (.inr (.inr (.inr e1fi))))), (e1b, .inl (E.2.1 1, 4, .inl e1fb)), (e1c, .inl (E.2.1 1, 4, .inl e1fc)), (e1d, .inl (E.2.1 1, 16, .inl e1fd)), (e2, .inr (0, [.int (nI e2cs), .int (nI e2rc), .ref e2a, .ref e2b, .ref e2c, .ref e2d])), (e2a, .inl (E.2.1 7, 4, .inr (.inr (.inr (.inr e2fi))))), (e2b, .inl (E.2.1 1, 4, .inl e2fb)), (e2c, .inl (E.2.1 1, 4, .inl e2fc)), (e2d, .inl (E.2.1 1, 16, .inl e2fd)), (e3, .inr (0, [.int (nI e3cs), .int (nI e3rc), .ref e3a, .ref e3b, .ref e3c, .ref e3d])), (e3a, .inl (E.2.1 7, 4, .inr (.inr (.inr (.inr e3fi))))), (e3b, .inl (E.2.1 1, 4, .inl e3fb)), (e3c, .inl (E.2.1 1, 4, .inl e3fc)), (e3d, .inl (E.2.1 1, 16, .inl e3fd)), (la0, .inr (3, [.ref la0m, .int la0p, .int la0w, .ref la0c, .ref la0f, .ref la0q])), (la0c, .inl (E.2.1 1, 24, .inl la0fc)), (la0f, .inl (E.2.1 1, 24, .inl la0ff)), (la0q, .inl (E.2.1 1, 4, .inl la0fq)), (la0m, .inr (4, [.int (nI la0n), .int (nI la0r), .ref la0x, .ref la0y])), (la0x, .inl (E.2.1 1, 24, .inl la0gx)), (la0y, .inl (E.2.1 1, 96, .inl la0gy)), (la1, .inr (3, [.ref la1m, .int la1p, .int la1w, .ref la1c, .ref la1f, .ref la1q])), (la1c, .inl (E.2.1 1, 24, .inl la1fc)), (la1f, .inl (E.2.1 1, 24, .inl la1ff)), (la1q, .inl (E.2.1 1, 4, .inl la1fq)), (la1m, .inr (4, [.int (nI la1n), .int (nI la1r), .ref la1x, .ref la1y])), (la1x, .inl (E.2.1 1, 24, .inl la1gx)), (la1y, .inl (E.2.1 1, 96, .inl la1gy)), (jt, .inl (E.2.1 7, 8, .inr (.inr (.inr (.inr fto)))))]  ⟨jt, je, ju, ja, ft, fe, e0, e1, e2, e3, fa, la0, la1, e0cs, e0rc, e0a, e0b, e0c, e0d, e0fi, e0fb, e0fc, e0fd, e1cs, e1rc, e1a, e1b, e1c, e1d, e1fi, e1fb, e1fc, e1fd, e2cs, e2rc, e2a, e2b, e2c, e2d, e2fi, e2fb, e2fc, e2fd, e3cs, e3rc, e3a, e3b, e3c, e3d, e3fi, e3fb, e3fc, e3fd, la0m, la0p, la0w, la0c, la0f, la0q, la0fc, la0ff, la0fq, la0n, la0r, la0x, la0y, la0gx, la0gy, la1m, la1p, la1w, la1c, la1f, la1q, la1fc, la1ff, la1fq, la1n, la1r, la1x, la1y, la1gx, la1gy, fto, e0T, e1T, e2T, e3T, rfl, k_fe_0, k_fe_1, k_fe_2, k_fe_3, k_fa_0, k_fa_1, (by first | assumption | omega), (by first | assumption | omega), he0fi, (by first | assumption | omega), (by first | assumption | omega), he1fi, (by first | assumption | omega), (by first | assumption | omega), he2fi, (by first | assumption | omega), (by first | assumption | omega), he3fi, (by first | assumption | omega), (by first | assumption | omega), (by first | assumption | omega), (by first | assumption | omega), hto, rfl, rfl, rfl, rfl, rfl, rfl⟩ (Or.inl ⟨h_1, rfl, rfl, rfl, rfl, rfl, rfl, rfl⟩)
  · refine ex8 hw ?_
    clear hw
    intro k__2 n__3 e0csz_4 e0rcz_5 e0fiz_6 e0fbz_7 e0fcz_8 e0fdz_9 hw
    refine ex8 hw ?_
    clear hw
    intro e0Tz_10 e1csz_11 e1rcz_12 e1fiz_13 e1fbz_14 e1fcz_15 e1fdz_16 e1Tz_17 hw
    refine ex8 hw ?_
    clear hw
    intro e2csz_18 e2rcz_19 e2fiz_20 e2fbz_21 e2fcz_22 e2fdz_23 e2Tz_24 e3csz_25 hw
    refine ex6 hw ?_
    clear hw
    intro e3rcz_26 e3fiz_27 e3fbz_28 e3fcz_29 e3fdz_30 e3Tz_31 hw
    refine an8 hw ?_
    clear hw
    intro he_r he_u h_32 h_33 h_34 h_35 h_36 h_37 hw
    refine an8 hw ?_
    clear hw
    intro h_38 h_39 h_40 h_41 h_42 h_43 h_44 h_45 hw
    refine an8 hw ?_
    clear hw
    intro h_46 h_47 h_48 h_49 h_50 h_51 h_52 h_53 hw
    refine an2 hw ?_
    clear hw
    intro h_54 h_55 hw
    have h_56 := hw
    clear hw
    have he_r := he_r.symm
    subst he_r
    subst he_u
    refine ww_subT (w1 := [(hx, .inr (11, [.ref h, .ref qp, .int (nI ac), .int (nI np), .ref qs, .ref qj, .ref ly, .ref qh, .ref kk, .int (nI kc), .ref rd, .ref pg, .int (nI pe), .int kn, .ref ss])), (qj, .inr (2, [.ref jt, .ref je, .ref ju, .ref ja])), (ju, .inl (E.2.1 1, 32, .inl ft)), (je, .inl (E.2.1 4, 4, .inr (.inr (.inr (.inr fe))))), (ja, .inl (E.2.1 5, 2, .inr (.inr (.inr (.inr fa))))), (e0, .inr (0, [.int (nI e0csz_4), .int (nI e0rcz_5), .ref e0a, .ref e0b, .ref e0c, .ref e0d])), (e0a, .inl (E.2.1 7, 4, .inr (.inr (.inr (.inr e0fiz_6))))), (e0b, .inl (E.2.1 1, 4, .inl e0fbz_7)), (e0c, .inl (E.2.1 1, 4, .inl e0fcz_8)), (e0d, .inl (E.2.1 1, 16, .inl e0fdz_9)), (e1, .inr (0, [.int (nI e1csz_11), .int (nI e1rcz_12), .ref e1a, .ref e1b, .ref e1c, .ref e1d])), (e1a, .inl (E.2.1 7, 4, .inr (.inr (.inr (.inr e1fiz_13))))), (e1b, .inl (E.2.1 1, 4, .inl e1fbz_14)), (e1c, .inl (E.2.1 1, 4, .inl e1fcz_15)), (e1d, .inl (E.2.1 1, 16, .inl e1fdz_16)), (e2, .inr (0, [.int (nI e2csz_18), .int (nI e2rcz_19), .ref e2a, .ref e2b, .ref e2c, .ref e2d])), (e2a, .inl (E.2.1 7, 4, .inr (.inr (.inr (.inr e2fiz_20))))), (e2b, .inl (E.2.1 1, 4, .inl e2fbz_21)), (e2c, .inl (E.2.1 1, 4, .inl e2fcz_22)), (e2d, .inl (E.2.1 1, 16, .inl e2fdz_23)), (e3, .inr (0, [.int (nI e3csz_25), .int (nI e3rcz_26), .ref e3a, .ref e3b, .ref e3c, .ref e3d])), (e3a, .inl (E.2.1 7, 4, .inr (.inr (.inr (.inr e3fiz_27))))), (e3b, .inl (E.2.1 1, 4, .inl e3fbz_28)), (e3c, .inl (E.2.1 1, 4, .inl e3fcz_29)), (e3d, .inl (E.2.1 1, 16, .inl e3fdz_30)), (la0, .inr (3, [.ref la0m, .int la0p, .int la0w, .ref la0c, .ref la0f, .ref la0q])), (la0c, .inl (E.2.1 1, 24, .inl la0fc)), (la0f, .inl (E.2.1 1, 24, .inl la0ff)), (la0q, .inl (E.2.1 1, 4, .inl la0fq)), (la0m, .inr (4, [.int (nI la0n), .int (nI la0r), .ref la0x, .ref la0y])), (la0x, .inl (E.2.1 1, 24, .inl la0gx)), (la0y, .inl (E.2.1 1, 96, .inl la0gy)), (la1, .inr (3, [.ref la1m, .int la1p, .int la1w, .ref la1c, .ref la1f, .ref la1q])), (la1c, .inl (E.2.1 1, 24, .inl la1fc)), (la1f, .inl (E.2.1 1, 24, .inl la1ff)), (la1q, .inl (E.2.1 1, 4, .inl la1fq)), (la1m, .inr (4, [.int (nI la1n), .int (nI la1r), .ref la1x, .ref la1y])), (la1x, .inl (E.2.1 1, 24, .inl la1gx)), (la1y, .inl (E.2.1 1, 96, .inl la1gy)), (jt, .inl (E.2.1 7, 8, .inr (.inr (.inr (.inr fto)))))]) [17, 18, 0, 19, 1, 20, 21, 22, 23, 24, 25, 26, 27, 28, 29, 30, 31, 32, 33, 34, 35, 36, 37, 38, 39, 2, 3, 4, 5, 6, 7, 8, 9, 10, 11, 12, 13, 14, 15, 16] rfl rfl ?_
    exact kont (1) (pick4 e0csz_4 e1csz_11 e2csz_18 e3csz_25) (pick4 e0rcz_5 e1rcz_12 e2rcz_19 e3rcz_26) (pick4 e0fdz_9 e1fdz_16 e2fdz_23 e3fdz_30) (pick4 e0Tz_10 e1Tz_17 e2Tz_24 e3Tz_31) (pick4 e0fbz_7 e1fbz_14 e2fbz_21 e3fbz_28) (pick4 e0fcz_8 e1fcz_15 e2fcz_22 e3fcz_29) [(qj, .inr (2, [.ref jt, .ref je, .ref ju, .ref ja])), (ju, .inl (E.2.1 1, 32, .inl ft)), (je, .inl (E.2.1 4, 4, .inr (.inr (.inr (.inr fe))))), (ja, .inl (E.2.1 5, 2, .inr (.inr (.inr (.inr fa))))), (e0, .inr (0, [.int (nI e0csz_4), .int (nI e0rcz_5), .ref e0a, .ref e0b, .ref e0c, .ref e0d])), (e0a, .inl (E.2.1 7, 4, .inr (.inr (.inr (.inr e0fiz_6))))), (e0b, .inl (E.2.1 1, 4, .inl e0fbz_7)), (e0c, .inl (E.2.1 1, 4, .inl e0fcz_8)), (e0d, .inl (E.2.1 1, 16, .inl e0fdz_9)), (e1, .inr (0, [.int (nI e1csz_11), .int (nI e1rcz_12), .ref e1a, .ref e1b, .ref e1c, .ref e1d])), (e1a, .inl (E.2.1 7, 4, .inr (.inr (.inr (.inr e1fiz_13))))), (e1b, .inl (E.2.1 1, 4, .inl e1fbz_14)), (e1c, .inl (E.2.1 1, 4, .inl e1fcz_15)), (e1d, .inl (E.2.1 1, 16, .inl e1fdz_16)), (e2, .inr (0, [.int (nI e2csz_18), .int (nI e2rcz_19), .ref e2a, .ref e2b, .ref e2c, .ref e2d])), (e2a, .inl (E.2.1 7, 4, .inr (.inr (.inr (.inr e2fiz_20))))), (e2b, .inl (E.2.1 1, 4, .inl e2fbz_21)), (e2c, .inl (E.2.1 1, 4, .inl e2fcz_22)), (e2d, .inl (E.2.1 1, 16, .inl e2fdz_23)), (e3, .inr (0, [.int (nI e3csz_25), .int (nI e3rcz_26), .ref e3a, .ref e3b, .ref e3c, .ref e3d])), (e3a, .inl (E.2.1 7, 4, .inr (.inr (.inr (.inr e3fiz_27))))), (e3b, .inl (E.2.1 1, 4, .inl e3fbz_28)), (e3c, .inl (E.2.1 1, 4, .inl e3fcz_29)), (e3d, .inl (E.2.1 1, 16, .inl e3fdz_30)), (la0, .inr (3, [.ref la0m, .int la0p, .int la0w, .ref la0c, .ref la0f, .ref la0q])), (la0c, .inl (E.2.1 1, 24, .inl la0fc)), (la0f, .inl (E.2.1 1, 24, .inl la0ff)), (la0q, .inl (E.2.1 1, 4, .inl la0fq)), (la0m, .inr (4, [.int (nI la0n), .int (nI la0r), .ref la0x, .ref la0y])), (la0x, .inl (E.2.1 1, 24, .inl la0gx)), (la0y, .inl (E.2.1 1, 96, .inl la0gy)), (la1, .inr (3, [.ref la1m, .int la1p, .int la1w, .ref la1c, .ref la1f, .ref la1q])), (la1c, .inl (E.2.1 1, 24, .inl la1fc)), (la1f, .inl (E.2.1 1, 24, .inl la1ff)), (la1q, .inl (E.2.1 1, 4, .inl la1fq)), (la1m, .inr (4, [.int (nI la1n), .int (nI la1r), .ref la1x, .ref la1y])), (la1x, .inl (E.2.1 1, 24, .inl la1gx)), (la1y, .inl (E.2.1 1, 96, .inl la1gy)), (jt, .inl (E.2.1 7, 8, .inr (.inr (.inr (.inr fto)))))]  ⟨jt, je, ju, ja, ft, fe, e0, e1, e2, e3, fa, la0, la1, e0csz_4, e0rcz_5, e0a, e0b, e0c, e0d, e0fiz_6, e0fbz_7, e0fcz_8, e0fdz_9, e1csz_11, e1rcz_12, e1a, e1b, e1c, e1d, e1fiz_13, e1fbz_14, e1fcz_15, e1fdz_16, e2csz_18, e2rcz_19, e2a, e2b, e2c, e2d, e2fiz_20, e2fbz_21, e2fcz_22, e2fdz_23, e3csz_25, e3rcz_26, e3a, e3b, e3c, e3d, e3fiz_27, e3fbz_28, e3fcz_29, e3fdz_30, la0m, la0p, la0w, la0c, la0f, la0q, la0fc, la0ff, la0fq, la0n, la0r, la0x, la0y, la0gx, la0gy, la1m, la1p, la1w, la1c, la1f, la1q, la1fc, la1ff, la1fq, la1n, la1r, la1x, la1y, la1gx, la1gy, fto, e0Tz_10, e1Tz_17, e2Tz_24, e3Tz_31, rfl, k_fe_0, k_fe_1, k_fe_2, k_fe_3, k_fa_0, k_fa_1, (by first | assumption | omega), (by first | assumption | omega), h_34, (by first | assumption | omega), (by first | assumption | omega), h_37, (by first | assumption | omega), (by first | assumption | omega), h_40, (by first | assumption | omega), (by first | assumption | omega), h_43, (by first | assumption | omega), (by first | assumption | omega), (by first | assumption | omega), (by first | assumption | omega), hto, rfl, rfl, rfl, rfl, rfl, rfl⟩ (Or.inr (⟨_, _, h_44, h_45, h_46, h_47, h_48, h_49, h_53, h_56, rfl, h_50, h_51, h_52, h_54, h_55⟩))
