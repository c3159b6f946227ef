section
theorem wc_X11_when : Cond.code yX11_when cX11_when 6 (some .int) ∈ TB := tbm (tq4 (List.mem_of_getElem? (i := 62) (rfl))) (by decide +kernel)
theorem wi_X11_when : Cond.instanceMethod yX11_when ∈ TB := tbm (tq4 (List.mem_of_getElem? (i := 60) (by decide +kernel))) (by decide +kernel)
theorem ws_X11_when : Cond.selects RX11 yX11_when yX11_when ∈ TB := tbm (tq4 (List.mem_of_getElem? (i := 61) (by decide +kernel))) (by decide +kernel)
theorem mi_X11_when : MI yX11_when cX11_when 6 (some .int) 5 := ⟨wc_X11_when, wn_X11, ⟨by decide +kernel, by decide +kernel, by decide +kernel⟩, wi_X11_when, ws_X11_when⟩
theorem wl_L_76 : Cond.methodLink RL 76 yX11_when ∈ TB := tbm (tq4 (List.mem_of_getElem? (i := 59) (by decide +kernel))) (by decide +kernel)
theorem dL_law_680 : decode cL_law 680 = .ok (.invokevirtual 76, 3) := dl_182 (by decide +kernel)
set_option maxRecDepth 100000 in
set_option maxHeartbeats 4000000 in
theorem lx_when {X : XT} {E : EV} {ro wT pre : va_W} {lv : List (Nat × Value)} {rest : List Value} {kC nC : Nat} {hx h qp qs qj ly qh kk rd pg ss : Nat} {ac np kc pe : Nat} {kn : Int32} {tT : Nat → Option SVal} {ec : Nat → Nat} {er : Nat → Nat} {ed : Nat → Nat → Int32} {eT : Nat → Nat → Option SVal} {eb : Nat → Nat → Int32} {en : Nat → Nat → Int32} {w_judg : va_W} {v0 : Int32} {v1 : Int32} {v2 : Int32} {v3 : Int32} {v4 : Int32}  (C : CX X room_1 cL_law 4 RL ret E) (hW : Nat.ble (rest.map fun v => v.category).sum 8 = true) (hT : wT = pre ++ ro) (hk : kC + 0 ≤ 600000 ∧ nC + 0 ≤ 7302250) (hac : ac ≤ 8) (hnp : np < 8) (hkc : kc ≤ 4) (hpe : pe ≤ 4) (H_judg : ok_judg E ro qj tT ec er ed eT eb en w_judg) (kont : ∀ (rr : Int32) (eTZ : Nat → Nat → Option SVal) (ebZ : Nat → Nat → Int32) (enZ : Nat → Nat → Int32) (w_judgZ : va_W), ok_judg E ro qj tT ec er ed eTZ ebZ enZ w_judgZ → (((¬ CSE ec v0 v1 ∨ (v2 ≠ -4 ∧ ¬ PLN (sNs tT) v2) ∨ v3.toInt < 0 ∨ 15 < v3.toInt ∨ v4.toInt < 0 ∨ 15 < v4.toInt) ∧ rr = -1 ∧ eTZ = eT ∧ ebZ = eb ∧ enZ = en) ∨ ∃ k_ i_ : Nat, (CSE ec v0 v1 ∧ (v2 = -4 ∨ PLN (sNs tT) v2) ∧ 0 ≤ v3.toInt ∧ v3.toInt ≤ 15 ∧ 0 ≤ v4.toInt ∧ v4.toInt ≤ 15) ∧ rr = 1 ∧ v0 = nI k_ ∧ v1 = nI i_ ∧ k_ ≤ 3 ∧ i_ ≤ 3 ∧ (∀ i, i < 4 → i ≠ k_ → eTZ i = eT i) ∧ (∀ i, i < 4 → i ≠ k_ → ebZ i = eb i) ∧ (∀ i, i < 4 → i ≠ k_ → enZ i = en i) ∧ ((v2 = -4 ∧ eTZ k_ = va_up (eT k_) i_ none) ∨ ∃ s_ : Nat, v2 = nI s_ ∧ s_ ≤ 7 ∧ (tT s_).isSome = true ∧ eTZ k_ = va_up (eT k_) i_ (tT s_)) ∧ upd (eb k_) i_ v3 = ebZ k_ ∧ upd (en k_) i_ v4 = enZ k_) → WW X 4 E 683 lv (.int rr :: rest) ([(hx, .inr (11, [.ref h, .ref qp, .int (nI ac), .int (nI np), .ref qs, .ref qj, .ref ly, .ref qh, .ref kk, .int (nI kc), .ref rd, .ref pg, .int (nI pe), .int kn, .ref ss]))] ++ (w_judgZ ++ wT)) kC nC) : WW X 4 E 680 lv (.int v4 :: .int v3 :: .int v2 :: .int v1 :: .int v0 :: .ref hx :: rest) ([(hx, .inr (11, [.ref h, .ref qp, .int (nI ac), .int (nI np), .ref qs, .ref qj, .ref ly, .ref qh, .ref kk, .int (nI kc), .ref rd, .ref pg, .int (nI pe), .int kn, .ref ss]))] ++ (w_judg ++ wT)) kC nC := by
  unfold ok_judg at H_judg
  refine ex8 H_judg ?_
  clear H_judg
  intro jt je ju ja ft fe e0 e1 H_judg
  refine ex8 H_judg ?_
  clear H_judg
  intro e2 e3 fa la0 la1 e0cs e0rc e0a H_judg
  refine ex8 H_judg ?_
  clear H_judg
  intro e0b e0c e0d e0fi e0fb e0fc e0fd e1cs H_judg
  refine ex8 H_judg ?_
  clear H_judg
  intro e1rc e1a e1b e1c e1d e1fi e1fb e1fc H_judg
  refine ex8 H_judg ?_
  clear H_judg
  intro e1fd e2cs e2rc e2a e2b e2c e2d e2fi H_judg
  refine ex8 H_judg ?_
  clear H_judg
  intro e2fb e2fc e2fd e3cs e3rc e3a e3b e3c H_judg
  refine ex8 H_judg ?_
  clear H_judg
  intro e3d e3fi e3fb e3fc e3fd la0m la0p la0w H_judg
  refine ex8 H_judg ?_
  clear H_judg
  intro la0c la0f la0q la0fc la0ff la0fq la0n la0r H_judg
  refine ex8 H_judg ?_
  clear H_judg
  intro la0x la0y la0gx la0gy la1m la1p la1w la1c H_judg
  refine ex8 H_judg ?_
  clear H_judg
  intro la1f la1q la1fc la1ff la1fq la1n la1r la1x H_judg
  refine ex8 H_judg ?_
  clear H_judg
  intro la1y la1gx la1gy fto e0T e1T e2T e3T H_judg
  refine an8 H_judg ?_
  clear H_judg
  intro we_judg k_fe_0 k_fe_1 k_fe_2 k_fe_3 k_fa_0 k_fa_1 he0cs H_judg
  refine an8 H_judg ?_
  clear H_judg
  intro he0rc he0fi he1cs he1rc he1fi he2cs he2rc he2fi H_judg
  refine an8 H_judg ?_
  clear H_judg
  intro he3cs he3rc he3fi hla0n hla0r hla1n hla1r hto H_judg
  refine an5 H_judg ?_
  clear H_judg
  intro hec her hed heT heb H_judg
  have hen := H_judg
  clear H_judg
  subst we_judg
  subst hec
  subst her
  subst hed
  subst heT
  subst heb
  subst hen
  refine ww_eq (ws' := [(hx, .inr (11, [.ref h, .ref qp, .int (nI ac), .int (nI np), .ref qs, .ref qj, .ref ly, .ref qh, .ref kk, .int (nI kc), .ref rd, .ref pg, .int (nI pe), .int kn, .ref ss])), (qj, .inr (2, [.ref jt, .ref je, .ref ju, .ref ja])), (ju, .inl (E.2.1 1, 32, .inl ft)), (je, .inl (E.2.1 4, 4, .inr (.inr (.inr (.inr fe))))), (ja, .inl (E.2.1 5, 2, .inr (.inr (.inr (.inr fa))))), (e0, .inr (0, [.int (nI e0cs), .int (nI e0rc), .ref e0a, .ref e0b, .ref e0c, .ref e0d])), (e0a, .inl (E.2.1 7, 4, .inr (.inr (.inr (.inr e0fi))))), (e0b, .inl (E.2.1 1, 4, .inl e0fb)), (e0c, .inl (E.2.1 1, 4, .inl e0fc)), (e0d, .inl (E.2.1 1, 16, .inl e0fd)), (e1, .inr (0, [.int (nI e1cs), .int (nI e1rc), .ref e1a, .ref e1b, .ref e1c, .ref e1d])), (e1a, .inl (E.2.1 7, 4, .inr (.inr (.inr (.inr e1fi))))), (e1b, .inl (E.2.1 1, 4, .inl e1fb)), (e1c, .inl (E.2.1 1, 4, .inl e1fc)), (e1d, .inl (E.2.1 1, 16, .inl e1fd)), (e2, .inr (0, [.int (nI e2cs), .int (nI e2rc), .ref e2a, .ref e2b, .ref e2c, .ref e2d])), (e2a, .inl (E.2.1 7, 4, .inr (.inr (.inr (.inr e2fi))))), (e2b, .inl (E.2.1 1, 4, .inl e2fb)), (e2c, .inl (E.2.1 1, 4, .inl e2fc)), (e2d, .inl (E.2.1 1, 16, .inl e2fd)), (e3, .inr (0, [.int (nI e3cs), .int (nI e3rc), .ref e3a, .ref e3b, .ref e3c, .ref e3d])), (e3a, .inl (E.2.1 7, 4, .inr (.inr (.inr (.inr e3fi))))), (e3b, .inl (E.2.1 1, 4, .inl e3fb)), (e3c, .inl (E.2.1 1, 4, .inl e3fc)), (e3d, .inl (E.2.1 1, 16, .inl e3fd)), (la0, .inr (3, [.ref la0m, .int la0p, .int la0w, .ref la0c, .ref la0f, .ref la0q])), (la0c, .inl (E.2.1 1, 24, .inl la0fc)), (la0f, .inl (E.2.1 1, 24, .inl la0ff)), (la0q, .inl (E.2.1 1, 4, .inl la0fq)), (la0m, .inr (4, [.int (nI la0n), .int (nI la0r), .ref la0x, .ref la0y])), (la0x, .inl (E.2.1 1, 24, .inl la0gx)), (la0y, .inl (E.2.1 1, 96, .inl la0gy)), (la1, .inr (3, [.ref la1m, .int la1p, .int la1w, .ref la1c, .ref la1f, .ref la1q])), (la1c, .inl (E.2.1 1, 24, .inl la1fc)), (la1f, .inl (E.2.1 1, 24, .inl la1ff)), (la1q, .inl (E.2.1 1, 4, .inl la1fq)), (la1m, .inr (4, [.int (nI la1n), .int (nI la1r), .ref la1x, .ref la1y])), (la1x, .inl (E.2.1 1, 24, .inl la1gx)), (la1y, .inl (E.2.1 1, 96, .inl la1gy)), (jt, .inl (E.2.1 7, 8, .inr (.inr (.inr (.inr fto)))))] ++ wT) ?_ rfl rfl rfl
  refine ww_ciT (k' := kC) (n' := nC) (wr := [(ju, .inl (E.2.1 1, 32, .inl ft)), (ja, .inl (E.2.1 5, 2, .inr (.inr (.inr (.inr fa))))), (la0, .inr (3, [.ref la0m, .int la0p, .int la0w, .ref la0c, .ref la0f, .ref la0q])), (la0c, .inl (E.2.1 1, 24, .inl la0fc)), (la0f, .inl (E.2.1 1, 24, .inl la0ff)), (la0q, .inl (E.2.1 1, 4, .inl la0fq)), (la0m, .inr (4, [.int (nI la0n), .int (nI la0r), .ref la0x, .ref la0y])), (la0x, .inl (E.2.1 1, 24, .inl la0gx)), (la0y, .inl (E.2.1 1, 96, .inl la0gy)), (la1, .inr (3, [.ref la1m, .int la1p, .int la1w, .ref la1c, .ref la1f, .ref la1q])), (la1c, .inl (E.2.1 1, 24, .inl la1fc)), (la1f, .inl (E.2.1 1, 24, .inl la1ff)), (la1q, .inl (E.2.1 1, 4, .inl la1fq)), (la1m, .inr (4, [.int (nI la1n), .int (nI la1r), .ref la1x, .ref la1y])), (la1x, .inl (E.2.1 1, 24, .inl la1gx)), (la1y, .inl (E.2.1 1, 96, .inl la1gy))]) C (run_V (As := [.int v0, .int v1, .int v2, .int v3, .int v4]) (rest := rest) C (x_when X.2.1 E ro hx v0 v1 v2 v3 v4 h qp ac np qs qj ly qh kk kc rd pg pe kn ss jt je ju ja fe e0 e1 e2 e3 fto e0cs e0rc e0a e0b e0c e0d e0fi e0fb e0fc e0fd e1cs e1rc e1a e1b e1c e1d e1fi e1fb e1fc e1fd e2cs e2rc e2a e2b e2c e2d e2fi e2fb e2fc e2fd e3cs e3rc e3a e3b e3c e3d e3fi e3fb e3fc e3fd tT e0T e1T e2T e3T k_fe_0 k_fe_1 k_fe_2 k_fe_3 (by first | assumption | omega) (by first | assumption | omega) (by first | assumption | omega) (by first | assumption | omega) hto (by first | assumption | omega) (by first | assumption | omega) he0fi (by first | assumption | omega) (by first | assumption | omega) he1fi (by first | assumption | omega) (by first | assumption | omega) he2fi (by first | assumption | omega) (by first | assumption | omega) he3fi) mi_X11_when wl_L_76 rfl 0 11 rfl rfl rfl rfl hW dL_law_680) (roT (pre := pre) [0, 1, 3, 39, 5, 6, 7, 8, 9, 10, 11, 12, 13, 14, 15, 16, 17, 18, 19, 20, 21, 22, 23, 24] rfl hT) [0, 1, 3, 39, 5, 6, 7, 8, 9, 10, 11, 12, 13, 14, 15, 16, 17, 18, 19, 20, 21, 22, 23, 24] [2, 4, 25, 26, 27, 28, 29, 30, 31, 32, 33, 34, 35, 36, 37, 38] (gqk (by eq_refl)) (gqk (by eq_refl)) (plk (by decide +kernel)) ⟨by omega, by omega, hk.1, hk.2⟩ (fun rr u hw => ?_)
  rcases hw with hw | hw
  · refine an2 hw ?_
    clear hw
    intro he_r he_u hw
    have h_1 := hw
    clear hw
    have he_r := he_r.symm
    subst he_r
    subst he_u
    refine ww_subT (w1 := [(hx, .inr (11, [.ref h, .ref qp, .int (nI ac), .int (nI np), .ref qs, .ref qj, .ref ly, .ref qh, .ref kk, .int (nI kc), .ref rd, .ref pg, .int (nI pe), .int kn, .ref ss])), (qj, .inr (2, [.ref jt, .ref je, .ref ju, .ref ja])), (ju, .inl (E.2.1 1, 32, .inl ft)), (je, .inl (E.2.1 4, 4, .inr (.inr (.inr (.inr fe))))), (ja, .inl (E.2.1 5, 2, .inr (.inr (.inr (.inr fa))))), (e0, .inr (0, [.int (nI e0cs), .int (nI e0rc), .ref e0a, .ref e0b, .ref e0c, .ref e0d])), (e0a, .inl (E.2.1 7, 4, .inr (.inr (.inr (.inr e0fi))))), (e0b, .inl (E.2.1 1, 4, .inl e0fb)), (e0c, .inl (E.2.1 1, 4, .inl e0fc)), (e0d, .inl (E.2.1 1, 16, .inl e0fd)), (e1, .inr (0, [.int (nI e1cs), .int (nI e1rc), .ref e1a, .ref e1b, .ref e1c, .ref e1d])), (e1a, .inl (E.2.1 7, 4, .inr (.inr (.inr (.inr e1fi))))), (e1b, .inl (E.2.1 1, 4, .inl e1fb)), (e1c, .inl (E.2.1 1, 4, .inl e1fc)), (e1d, .inl (E.2.1 1, 16, .inl e1fd)), (e2, .inr (0, [.int (nI e2cs), .int (nI e2rc), .ref e2a, .ref e2b, .ref e2c, .ref e2d])), (e2a, .inl (E.2.1 7, 4, .inr (.inr (.inr (.inr e2fi))))), (e2b, .inl (E.2.1 1, 4, .inl e2fb)), (e2c, .inl (E.2.1 1, 4, .inl e2fc)), (e2d, .inl (E.2.1 1, 16, .inl e2fd)), (e3, .inr (0, [.int (nI e3cs), .int (nI e3rc), .ref e3a, .ref e3b, .ref e3c, .ref e3d])), (e3a, .inl (E.2.1 7, 4, .inr (.inr (.inr (.inr e3fi))))), (e3b, .inl (E.2.1 1, 4, .inl e3fb)), (e3c, .inl (E.2.1 1, 4, .inl e3fc)), (e3d, .inl (E.2.1 1, 16, .inl e3fd)), (la0, .inr (3, [.ref la0m, .int la0p, .int la0w, .ref la0c, .ref la0f, .ref la0q])), (la0c, .inl (E.2.1 1, 24, .inl la0fc)), (la0f, .inl (E.2.1 1, 24, .inl la0ff)), (la0q, .inl (E.2.1 1, 4, .inl la0fq)), (la0m, .inr (4, [.int (nI la0n), .int (nI la0r), .ref la0x, .ref la0y])), (la0x, .inl (E.2.1 1, 24, .inl la0gx)), (la0y, .inl (E.2.1 1, 96, .inl la0gy)), (la1, .inr (3, [.ref la1m, .int la1p, .int la1w, .ref la1c, .ref la1f, .ref la1q])), (la1c, .inl (E.2.1 1, 24, .inl la1fc)), (la1f, .inl (E.2.1 1, 24, .inl la1ff)), (la1q, .inl (E.2.1 1, 4, .inl la1fq)), (la1m, .inr (4, [.int (nI la1n), .int (nI la1r), .ref la1x, .ref la1y])), (la1x, .inl (E.2.1 1, 24, .inl la1gx)), (la1y, .inl (E.2.1 1, 96, .inl la1gy)), (jt, .inl (E.2.1 7, 8, .inr (.inr (.inr (.inr fto)))))]) [16, 17, 0, 18, 1, 20, 21, 22, 23, 24, 25, 26, 27, 28, 29, 30, 31, 32, 33, 34, 35, 36, 37, 38, 39, 2, 3, 4, 5, 6, 7, 8, 9, 10, 11, 12, 13, 14, 15, 19] (ndk (by decide +kernel)) (gqk (by eq_refl)) ?_
    exact kont (-1) (pick4 e0T e1T e2T e3T) (pick4 e0fb e1fb e2fb e3fb) (pick4 e0fc e1fc e2fc e3fc) [(qj, .inr (2, [.ref jt, .ref je, .ref ju, .ref ja])), (ju, .inl (E.2.1 1, 32, .inl ft)), (je, .inl (E.2.1 4, 4, .inr (.inr (.inr (.inr fe))))), (ja, .inl (E.2.1 5, 2, .inr (.inr (.inr (.inr fa))))), (e0, .inr (0, [.int (nI e0cs), .int (nI e0rc), .ref e0a, .ref e0b, .ref e0c, .ref e0d])), (e0a, .inl (E.2.1 7, 4, .inr (.inr (.inr (.inr e0fi))))), (e0b, .inl (E.2.1 1, 4, .inl e0fb)), (e0c, .inl (E.2.1 1, 4, .inl e0fc)), (e0d, .inl (E.2.1 1, 16, .inl e0fd)), (e1, .inr (0, [.int (nI e1cs), .int (nI e1rc), .ref e1a, .ref e1b, .ref e1c, .ref e1d])), (e1a, .inl (E.2.1 7, 4, .inr (.inr (.inr (.inr e1fi))))), (e1b, .inl (E.2.1 1, 4, .inl e1fb)), (e1c, .inl (E.2.1 1, 4, .inl e1fc)), (e1d, .inl (E.2.1 1, 16, .inl e1fd)), (e2, .inr (0, [.int (nI e2cs), .int (nI e2rc), .ref e2a, .ref e2b, .ref e2c, .ref e2d])), (e2a, .inl (E.2.1 7, 4, .inr (.inr (.inr (.inr e2fi))))), (e2b, .inl (E.2.1 1, 4, .inl e2fb)), (e2c, .inl (E.2.1 1, 4, .inl e2fc)), (e2d, .inl (E.2.1 1, 16, .inl e2fd)), (e3, .inr (0, [.int (nI e3cs), .int (nI e3rc), .ref e3a, .ref e3b, .ref e3c, .ref e3d])), (e3a, .inl (E.2.1 7, 4, .inr (.inr (.inr (.inr e3fi))))), (e3b, .inl (E.2.1 1, 4, .inl e3fb)), (e3c, .inl (E.2.1 1, 4, .inl e3fc)), (e3d, .inl (E.2.1 1, 16, .inl e3fd)), (la0, .inr (3, [.ref la0m, .int la0p, .int la0w, .ref la0c, .ref la0f, .ref la0q])), (la0c, .inl (E.2.1 1, 24, .inl la0fc)), (la0f, .inl (E.2.1 1, 24, .inl la0ff)), (la0q, .inl (E.2.1 1, 4, .inl la0fq)), (la0m, .inr (4, [.int (nI la0n), .int (nI la0r), .ref la0x, .ref la0y])), (la0x, .inl (E.2.1 1, 24, .inl la0gx)), (la0y, .inl (E.2.1 1, 96, .inl la0gy)), (la1, .inr (3, [.ref la1m, .int la1p, .int la1w, .ref la1c, .ref la1f, .ref la1q])), (la1c, .inl (E.2.1 1, 24, .inl la1fc)), (la1f, .inl (E.2.1 1, 24, .inl la1ff)), (la1q, .inl (E.2.1 1, 4, .inl la1fq)), (la1m, .inr (4, [.int (nI la1n), .int (nI la1r), .ref la1x, .ref la1y])), (la1x, .inl (E.2.1 1, 24, .inl la1gx)), (la1y, .inl (E.2.1 1, 96, .inl la1gy)), (jt, .inl (E.2.1 7, 8, .inr (.inr (.inr (.inr fto)))))]  ⟨jt, je, ju, ja, ft, fe, e0, e1, e2, e3, fa, la0, la1, e0cs, e0rc, e0a, e0b, e0c, e0d, e0fi, e0fb, e0fc, e0fd, e1cs, e1rc, e1a, e1b, e1c, e1d, e1fi, e1fb, e1fc, e1fd, e2cs, e2rc, e2a, e2b, e2c, e2d, e2fi, e2fb, e2fc, e2fd, e3cs, e3rc, e3a, e3b, e3c, e3d, e3fi, e3fb, e3fc, e3fd, la0m, la0p, la0w, la0c, la0f, la0q, la0fc, la0ff, la0fq, la0n, la0r, la0x, la0y, la0gx, la0gy, la1m, la1p, la1w, la1c, la1f, la1q, la1fc, la1ff, la1fq, la1n, la1r, la1x, la1y, la1gx, la1gy, fto, e0T, e1T, e2T, e3T, rfl, k_fe_0, k_fe_1, k_fe_2, k_fe_3, k_fa_0, k_fa_1, (by first | assumption | omega), (by first | assumption | omega), he0fi, (by first | assumption | omega), (by first | assumption | omega), he1fi, (by first | assumption | omega), (by first | assumption | omega), he2fi, (by first | assumption | omega), (by first | assumption | omega), he3fi, (by first | assumption | omega), (by first | assumption | omega), (by first | assumption | omega), (by first | assumption | omega), hto, rfl, rfl, rfl, rfl, rfl, rfl⟩ (Or.inl ⟨h_1, rfl, rfl, rfl, rfl⟩)
  · refine ex8 hw ?_
    clear hw
    intro k__2 i__3 e0fiz_4 e0fbz_5 e0fcz_6 e0Tz_7 e1fiz_8 e1fbz_9 hw
    refine ex8 hw ?_
    clear hw
    intro e1fcz_10 e1Tz_11 e2fiz_12 e2fbz_13 e2fcz_14 e2Tz_15 e3fiz_16 e3fbz_17 hw
    refine ex2 hw ?_
    clear hw
    intro e3fcz_18 e3Tz_19 hw
    refine an8 hw ?_
    clear hw
    intro he_r he_u h_20 h_21 h_22 h_23 h_24 h_25 hw
    refine an8 hw ?_
    clear hw
    intro h_26 h_27 h_28 h_29 h_30 h_31 h_32 h_33 hw
    refine an5 hw ?_
    clear hw
    intro h_34 h_35 h_36 h_37 h_38 hw
    have h_39 := hw
    clear hw
    have he_r := he_r.symm
    subst he_r
    subst he_u
    refine ww_subT (w1 := [(hx, .inr (11, [.ref h, .ref qp, .int (nI ac), .int (nI np), .ref qs, .ref qj, .ref ly, .ref qh, .ref kk, .int (nI kc), .ref rd, .ref pg, .int (nI pe), .int kn, .ref ss])), (qj, .inr (2, [.ref jt, .ref je, .ref ju, .ref ja])), (ju, .inl (E.2.1 1, 32, .inl ft)), (je, .inl (E.2.1 4, 4, .inr (.inr (.inr (.inr fe))))), (ja, .inl (E.2.1 5, 2, .inr (.inr (.inr (.inr fa))))), (e0, .inr (0, [.int (nI e0cs), .int (nI e0rc), .ref e0a, .ref e0b, .ref e0c, .ref e0d])), (e0a, .inl (E.2.1 7, 4, .inr (.inr (.inr (.inr e0fiz_4))))), (e0b, .inl (E.2.1 1, 4, .inl e0fbz_5)), (e0c, .inl (E.2.1 1, 4, .inl e0fcz_6)), (e0d, .inl (E.2.1 1, 16, .inl e0fd)), (e1, .inr (0, [.int (nI e1cs), .int (nI e1rc), .ref e1a, .ref e1b, .ref e1c, .ref e1d])), (e1a, .inl (E.2.1 7, 4, .inr (.inr (.inr (.inr e1fiz_8))))), (e1b, .inl (E.2.1 1, 4, .inl e1fbz_9)), (e1c, .inl (E.2.1 1, 4, .inl e1fcz_10)), (e1d, .inl (E.2.1 1, 16, .inl e1fd)), (e2, .inr (0, [.int (nI e2cs), .int (nI e2rc), .ref e2a, .ref e2b, .ref e2c, .ref e2d])), (e2a, .inl (E.2.1 7, 4, .inr (.inr (.inr (.inr e2fiz_12))))), (e2b, .inl (E.2.1 1, 4, .inl e2fbz_13)), (e2c, .inl (E.2.1 1, 4, .inl e2fcz_14)), (e2d, .inl (E.2.1 1, 16, .inl e2fd)), (e3, .inr (0, [.int (nI e3cs), .int (nI e3rc), .ref e3a, .ref e3b, .ref e3c, .ref e3d])), (e3a, .inl (E.2.1 7, 4, .inr (.inr (.inr (.inr e3fiz_16))))), (e3b, .inl (E.2.1 1, 4, .inl e3fbz_17)), (e3c, .inl (E.2.1 1, 4, .inl e3fcz_18)), (e3d, .inl (E.2.1 1, 16, .inl e3fd)), (la0, .inr (3, [.ref la0m, .int la0p, .int la0w, .ref la0c, .ref la0f, .ref la0q])), (la0c, .inl (E.2.1 1, 24, .inl la0fc)), (la0f, .inl (E.2.1 1, 24, .inl la0ff)), (la0q, .inl (E.2.1 1, 4, .inl la0fq)), (la0m, .inr (4, [.int (nI la0n), .int (nI la0r), .ref la0x, .ref la0y])), (la0x, .inl (E.2.1 1, 24, .inl la0gx)), (la0y, .inl (E.2.1 1, 96, .inl la0gy)), (la1, .inr (3, [.ref la1m, .int la1p, .int la1w, .ref la1c, .ref la1f, .ref la1q])), (la1c, .inl (E.2.1 1, 24, .inl la1fc)), (la1f, .inl (E.2.1 1, 24, .inl la1ff)), (la1q, .inl (E.2.1 1, 4, .inl la1fq)), (la1m, .inr (4, [.int (nI la1n), .int (nI la1r), .ref la1x, .ref la1y])), (la1x, .inl (E.2.1 1, 24, .inl la1gx)), (la1y, .inl (E.2.1 1, 96, .inl la1gy)), (jt, .inl (E.2.1 7, 8, .inr (.inr (.inr (.inr fto)))))]) [16, 17, 0, 18, 1, 20, 21, 22, 23, 24, 25, 26, 27, 28, 29, 30, 31, 32, 33, 34, 35, 36, 37, 38, 39, 2, 3, 4, 5, 6, 7, 8, 9, 10, 11, 12, 13, 14, 15, 19] (ndk (by decide +kernel)) (gqk (by eq_refl)) ?_
    exact kont (1) (pick4 e0Tz_7 e1Tz_11 e2Tz_15 e3Tz_19) (pick4 e0fbz_5 e1fbz_9 e2fbz_13 e3fbz_17) (pick4 e0fcz_6 e1fcz_10 e2fcz_14 e3fcz_18) [(qj, .inr (2, [.ref jt, .ref je, .ref ju, .ref ja])), (ju, .inl (E.2.1 1, 32, .inl ft)), (je, .inl (E.2.1 4, 4, .inr (.inr (.inr (.inr fe))))), (ja, .inl (E.2.1 5, 2, .inr (.inr (.inr (.inr fa))))), (e0, .inr (0, [.int (nI e0cs), .int (nI e0rc), .ref e0a, .ref e0b, .ref e0c, .ref e0d])), (e0a, .inl (E.2.1 7, 4, .inr (.inr (.inr (.inr e0fiz_4))))), (e0b, .inl (E.2.1 1, 4, .inl e0fbz_5)), (e0c, .inl (E.2.1 1, 4, .inl e0fcz_6)), (e0d, .inl (E.2.1 1, 16, .inl e0fd)), (e1, .inr (0, [.int (nI e1cs), .int (nI e1rc), .ref e1a, .ref e1b, .ref e1c, .ref e1d])), (e1a, .inl (E.2.1 7, 4, .inr (.inr (.inr (.inr e1fiz_8))))), (e1b, .inl (E.2.1 1, 4, .inl e1fbz_9)), (e1c, .inl (E.2.1 1, 4, .inl e1fcz_10)), (e1d, .inl (E.2.1 1, 16, .inl e1fd)), (e2, .inr (0, [.int (nI e2cs), .int (nI e2rc), .ref e2a, .ref e2b, .ref e2c, .ref e2d])), (e2a, .inl (E.2.1 7, 4, .inr (.inr (.inr (.inr e2fiz_12))))), (e2b, .inl (E.2.1 1, 4, .inl e2fbz_13)), (e2c, .inl (E.2.1 1, 4, .inl e2fcz_14)), (e2d, .inl (E.2.1 1, 16, .inl e2fd)), (e3, .inr (0, [.int (nI e3cs), .int (nI e3rc), .ref e3a, .ref e3b, .ref e3c, .ref e3d])), (e3a, .inl (E.2.1 7, 4, .inr (.inr (.inr (.inr e3fiz_16))))), (e3b, .inl (E.2.1 1, 4, .inl e3fbz_17)), (e3c, .inl (E.2.1 1, 4, .inl e3fcz_18)), (e3d, .inl (E.2.1 1, 16, .inl e3fd)), (la0, .inr (3, [.ref la0m, .int la0p, .int la0w, .ref la0c, .ref la0f, .ref la0q])), (la0c, .inl (E.2.1 1, 24, .inl la0fc)), (la0f, .inl (E.2.1 1, 24, .inl la0ff)), (la0q, .inl (E.2.1 1, 4, .inl la0fq)), (la0m, .inr (4, [.int (nI la0n), .int (nI la0r), .ref la0x, .ref la0y])), (la0x, .inl (E.2.1 1, 24, .inl la0gx)), (la0y, .inl (E.2.1 1, 96, .inl la0gy)), (la1, .inr (3, [.ref la1m, .int la1p, .int la1w, .ref la1c, .ref la1f, .ref la1q])), (la1c, .inl (E.2.1 1, 24, .inl la1fc)), (la1f, .inl (E.2.1 1, 24, .inl la1ff)), (la1q, .inl (E.2.1 1, 4, .inl la1fq)), (la1m, .inr (4, [.int (nI la1n), .int (nI la1r), .ref la1x, .ref la1y])), (la1x, .inl (E.2.1 1, 24, .inl la1gx)), (la1y, .inl (E.2.1 1, 96, .inl la1gy)), (jt, .inl (E.2.1 7, 8, .inr (.inr (.inr (.inr fto)))))]  ⟨jt, je, ju, ja, ft, fe, e0, e1, e2, e3, fa, la0, la1, e0cs, e0rc, e0a, e0b, e0c, e0d, e0fiz_4, e0fbz_5, e0fcz_6, e0fd, e1cs, e1rc, e1a, e1b, e1c, e1d, e1fiz_8, e1fbz_9, e1fcz_10, e1fd, e2cs, e2rc, e2a, e2b, e2c, e2d, e2fiz_12, e2fbz_13, e2fcz_14, e2fd, e3cs, e3rc, e3a, e3b, e3c, e3d, e3fiz_16, e3fbz_17, e3fcz_18, e3fd, la0m, la0p, la0w, la0c, la0f, la0q, la0fc, la0ff, la0fq, la0n, la0r, la0x, la0y, la0gx, la0gy, la1m, la1p, la1w, la1c, la1f, la1q, la1fc, la1ff, la1fq, la1n, la1r, la1x, la1y, la1gx, la1gy, fto, e0Tz_7, e1Tz_11, e2Tz_15, e3Tz_19, rfl, k_fe_0, k_fe_1, k_fe_2, k_fe_3, k_fa_0, k_fa_1, (by first | assumption | omega), (by first | assumption | omega), h_20, (by first | assumption | omega), (by first | assumption | omega), h_21, (by first | assumption | omega), (by first | assumption | omega), h_22, (by first | assumption | omega), (by first | assumption | omega), h_23, (by first | assumption | omega), (by first | assumption | omega), (by first | assumption | omega), (by first | assumption | omega), hto, rfl, rfl, rfl, rfl, rfl, rfl⟩ (Or.inr (⟨_, _, ⟨h_24, h_25, h_26, h_27, h_28, h_29⟩, rfl, h_30, h_31, h_32, h_33, h_34, h_35, h_36, h_37, h_38, h_39⟩))
theorem wc_X11_hears : Cond.code yX11_hears cX11_hears 6 (some .int) ∈ TB := tbm (tq4 (List.mem_of_getElem? (i := 78) (rfl))) (by decide +kernel)
theorem wi_X11_hears : Cond.instanceMethod yX11_hears ∈ TB := tbm (tq4 (List.mem_of_getElem? (i := 76) (by decide +kernel))) (by decide +kernel)
theorem ws_X11_hears : Cond.selects RX11 yX11_hears yX11_hears ∈ TB := tbm (tq4 (List.mem_of_getElem? (i := 77) (by decide +kernel))) (by decide +kernel)
theorem mi_X11_hears : MI yX11_hears cX11_hears 6 (some .int) 5 := ⟨wc_X11_hears, wn_X11, ⟨by decide +kernel, by decide +kernel, by decide +kernel⟩, wi_X11_hears, ws_X11_hears⟩
theorem wl_L_81 : Cond.methodLink RL 81 yX11_hears ∈ TB := tbm (tq4 (List.mem_of_getElem? (i := 75) (by decide +kernel))) (by decide +kernel)
theorem dL_law_751 : decode cL_law 751 = .ok (.invokevirtual 81, 3) := dl_182 (by decide +kernel)
set_option maxRecDepth 100000 in
set_option maxHeartbeats 4000000 in
theorem lx_hears {X : XT} {E : EV} {ro wT pre : va_W} {lv : List (Nat × Value)} {rest : List Value} {kC nC : Nat} {hx h qp qs qj ly qh kk rd pg ss : Nat} {ac np kc pe : Nat} {kn : Int32} {tT : Nat → Option SVal} {ec : Nat → Nat} {er : Nat → Nat} {ed : Nat → Nat → Int32} {eT : Nat → Nat → Option SVal} {eb : Nat → Nat → Int32} {en : Nat → Nat → Int32} {w_judg : va_W} {v0 : Int32} {v1 : Int32} {v2 : Int32} {v3 : Int32} {v4 : Int32}  (C : CX X room_1 cL_law 4 RL ret E) (hW : Nat.ble (rest.map fun v => v.category).sum 8 = true) (hT : wT = pre ++ ro) (hk : kC + 0 ≤ 600000 ∧ nC + 0 ≤ 7302250) (hac : ac ≤ 8) (hnp : np < 8) (hkc : kc ≤ 4) (hpe : pe ≤ 4) (H_judg : ok_judg E ro qj tT ec er ed eT eb en w_judg) (kont : ∀ (rr : Int32) (edZ : Nat → Nat → Int32) (w_judgZ : va_W), ok_judg E ro qj tT ec er edZ eT eb en w_judgZ → (((¬ CSE ec v0 v2 ∨ ¬ CSE ec v0 v3 ∨ v1.toInt < 0 ∨ 3 < v1.toInt) ∧ rr = -1 ∧ edZ = ed) ∨ ∃ k_ n_ i_ : Nat, CSE ec v0 v2 ∧ CSE ec v0 v3 ∧ v0 = nI k_ ∧ v1 = nI n_ ∧ v2 = nI i_ ∧ k_ ≤ 3 ∧ n_ ≤ 3 ∧ i_ ≤ 3 ∧ (∀ i, i < 4 → i ≠ k_ → edZ i = ed i) ∧ upd (ed k_) (n_ * 4 + i_) (hbt (ed k_ (n_ * 4 + i_)) v3 v4) = edZ k_ ∧ rr = ed k_ (n_ * 4 + i_) >>> (v3 &&& 31) &&& 1) → WW X 4 E 754 lv (.int rr :: rest) ([(hx, .inr (11, [.ref h, .ref qp, .int (nI ac), .int (nI np), .ref qs, .ref qj, .ref ly, .ref qh, .ref kk, .int (nI kc), .ref rd, .ref pg, .int (nI pe), .int kn, .ref ss]))] ++ (w_judgZ ++ wT)) kC nC) : WW X 4 E 751 lv (.int v4 :: .int v3 :: .int v2 :: .int v1 :: .int v0 :: .ref hx :: rest) ([(hx, .inr (11, [.ref h, .ref qp, .int (nI ac), .int (nI np), .ref qs, .ref qj, .ref ly, .ref qh, .ref kk, .int (nI kc), .ref rd, .ref pg, .int (nI pe), .int kn, .ref ss]))] ++ (w_judg ++ wT)) kC nC := by
  unfold ok_judg at H_judg
  refine ex8 H_judg ?_
  clear H_judg
  intro jt je ju ja ft fe e0 e1 H_judg
  refine ex8 H_judg ?_
  clear H_judg
  intro e2 e3 fa la0 la1 e0cs e0rc e0a H_judg
  refine ex8 H_judg ?_
  clear H_judg
  intro e0b e0c e0d e0fi e0fb e0fc e0fd e1cs H_judg
  refine ex8 H_judg ?_
  clear H_judg
  intro e1rc e1a e1b e1c e1d e1fi e1fb e1fc H_judg
  refine ex8 H_judg ?_
  clear H_judg
  intro e1fd e2cs e2rc e2a e2b e2c e2d e2fi H_judg
  refine ex8 H_judg ?_
  clear H_judg
  intro e2fb e2fc e2fd e3cs e3rc e3a e3b e3c H_judg
  refine ex8 H_judg ?_
  clear H_judg
  intro e3d e3fi e3fb e3fc e3fd la0m la0p la0w H_judg
  refine ex8 H_judg ?_
  clear H_judg
  intro la0c la0f la0q la0fc la0ff la0fq la0n la0r H_judg
  refine ex8 H_judg ?_
  clear H_judg
  intro la0x la0y la0gx la0gy la1m la1p la1w la1c H_judg
  refine ex8 H_judg ?_
  clear H_judg
  intro la1f la1q la1fc la1ff la1fq la1n la1r la1x H_judg
  refine ex8 H_judg ?_
  clear H_judg
  intro la1y la1gx la1gy fto e0T e1T e2T e3T H_judg
  refine an8 H_judg ?_
  clear H_judg
  intro we_judg k_fe_0 k_fe_1 k_fe_2 k_fe_3 k_fa_0 k_fa_1 he0cs H_judg
  refine an8 H_judg ?_
  clear H_judg
  intro he0rc he0fi he1cs he1rc he1fi he2cs he2rc he2fi H_judg
  refine an8 H_judg ?_
  clear H_judg
  intro he3cs he3rc he3fi hla0n hla0r hla1n hla1r hto H_judg
  refine an5 H_judg ?_
  clear H_judg
  intro hec her hed heT heb H_judg
  have hen := H_judg
  clear H_judg
  subst we_judg
  subst hec
  subst her
  subst hed
  subst heT
  subst heb
  subst hen
  refine ww_eq (ws' := [(hx, .inr (11, [.ref h, .ref qp, .int (nI ac), .int (nI np), .ref qs, .ref qj, .ref ly, .ref qh, .ref kk, .int (nI kc), .ref rd, .ref pg, .int (nI pe), .int kn, .ref ss])), (qj, .inr (2, [.ref jt, .ref je, .ref ju, .ref ja])), (ju, .inl (E.2.1 1, 32, .inl ft)), (je, .inl (E.2.1 4, 4, .inr (.inr (.inr (.inr fe))))), (ja, .inl (E.2.1 5, 2, .inr (.inr (.inr (.inr fa))))), (e0, .inr (0, [.int (nI e0cs), .int (nI e0rc), .ref e0a, .ref e0b, .ref e0c, .ref e0d])), (e0a, .inl (E.2.1 7, 4, .inr (.inr (.inr (.inr e0fi))))), (e0b, .inl (E.2.1 1, 4, .inl e0fb)), (e0c, .inl (E.2.1 1, 4, .inl e0fc)), (e0d, .inl (E.2.1 1, 16, .inl e0fd)), (e1, .inr (0, [.int (nI e1cs), .int (nI e1rc), .ref e1a, .ref e1b, .ref e1c, .ref e1d])), (e1a, .inl (E.2.1 7, 4, .inr (.inr (.inr (.inr e1fi))))), (e1b, .inl (E.2.1 1, 4, .inl e1fb)), (e1c, .inl (E.2.1 1, 4, .inl e1fc)), (e1d, .inl (E.2.1 1, 16, .inl e1fd)), (e2, .inr (0, [.int (nI e2cs), .int (nI e2rc), .ref e2a, .ref e2b, .ref e2c, .ref e2d])), (e2a, .inl (E.2.1 7, 4, .inr (.inr (.inr (.inr e2fi))))), (e2b, .inl (E.2.1 1, 4, .inl e2fb)), (e2c, .inl (E.2.1 1, 4, .inl e2fc)), (e2d, .inl (E.2.1 1, 16, .inl e2fd)), (e3, .inr (0, [.int (nI e3cs), .int (nI e3rc), .ref e3a, .ref e3b, .ref e3c, .ref e3d])), (e3a, .inl (E.2.1 7, 4, .inr (.inr (.inr (.inr e3fi))))), (e3b, .inl (E.2.1 1, 4, .inl e3fb)), (e3c, .inl (E.2.1 1, 4, .inl e3fc)), (e3d, .inl (E.2.1 1, 16, .inl e3fd)), (la0, .inr (3, [.ref la0m, .int la0p, .int la0w, .ref la0c, .ref la0f, .ref la0q])), (la0c, .inl (E.2.1 1, 24, .inl la0fc)), (la0f, .inl (E.2.1 1, 24, .inl la0ff)), (la0q, .inl (E.2.1 1, 4, .inl la0fq)), (la0m, .inr (4, [.int (nI la0n), .int (nI la0r), .ref la0x, .ref la0y])), (la0x, .inl (E.2.1 1, 24, .inl la0gx)), (la0y, .inl (E.2.1 1, 96, .inl la0gy)), (la1, .inr (3, [.ref la1m, .int la1p, .int la1w, .ref la1c, .ref la1f, .ref la1q])), (la1c, .inl (E.2.1 1, 24, .inl la1fc)), (la1f, .inl (E.2.1 1, 24, .inl la1ff)), (la1q, .inl (E.2.1 1, 4, .inl la1fq)), (la1m, .inr (4, [.int (nI la1n), .int (nI la1r), .ref la1x, .ref la1y])), (la1x, .inl (E.2.1 1, 24, .inl la1gx)), (la1y, .inl (E.2.1 1, 96, .inl la1gy)), (jt, .inl (E.2.1 7, 8, .inr (.inr (.inr (.inr fto)))))] ++ wT) ?_ rfl rfl rfl
  refine ww_ciT (k' := kC) (n' := nC) (wr := [(ju, .inl (E.2.1 1, 32, .inl ft)), (ja, .inl (E.2.1 5, 2, .inr (.inr (.inr (.inr fa))))), (la0, .inr (3, [.ref la0m, .int la0p, .int la0w, .ref la0c, .ref la0f, .ref la0q])), (la0c, .inl (E.2.1 1, 24, .inl la0fc)), (la0f, .inl (E.2.1 1, 24, .inl la0ff)), (la0q, .inl (E.2.1 1, 4, .inl la0fq)), (la0m, .inr (4, [.int (nI la0n), .int (nI la0r), .ref la0x, .ref la0y])), (la0x, .inl (E.2.1 1, 24, .inl la0gx)), (la0y, .inl (E.2.1 1, 96, .inl la0gy)), (la1, .inr (3, [.ref la1m, .int la1p, .int la1w, .ref la1c, .ref la1f, .ref la1q])), (la1c, .inl (E.2.1 1, 24, .inl la1fc)), (la1f, .inl (E.2.1 1, 24, .inl la1ff)), (la1q, .inl (E.2.1 1, 4, .inl la1fq)), (la1m, .inr (4, [.int (nI la1n), .int (nI la1r), .ref la1x, .ref la1y])), (la1x, .inl (E.2.1 1, 24, .inl la1gx)), (la1y, .inl (E.2.1 1, 96, .inl la1gy)), (jt, .inl (E.2.1 7, 8, .inr (.inr (.inr (.inr fto)))))]) C (run_V (As := [.int v0, .int v1, .int v2, .int v3, .int v4]) (rest := rest) C (x_hears X.2.1 E ro hx v0 v1 v2 v3 v4 h qp ac np qs qj ly qh kk kc rd pg pe kn ss jt je ju ja fe e0 e1 e2 e3 e0cs e0rc e0a e0b e0c e0d e0fi e0fb e0fc e0fd e1cs e1rc e1a e1b e1c e1d e1fi e1fb e1fc e1fd e2cs e2rc e2a e2b e2c e2d e2fi e2fb e2fc e2fd e3cs e3rc e3a e3b e3c e3d e3fi e3fb e3fc e3fd e0T e1T e2T e3T k_fe_0 k_fe_1 k_fe_2 k_fe_3 (by first | assumption | omega) (by first | assumption | omega) (by first | assumption | omega) (by first | assumption | omega) (by first | assumption | omega) (by first | assumption | omega) he0fi (by first | assumption | omega) (by first | assumption | omega) he1fi (by first | assumption | omega) (by first | assumption | omega) he2fi (by first | assumption | omega) (by first | assumption | omega) he3fi) mi_X11_hears wl_L_81 rfl 0 11 rfl rfl rfl rfl hW dL_law_751) (roT (pre := pre) [0, 1, 3, 5, 6, 7, 8, 9, 10, 11, 12, 13, 14, 15, 16, 17, 18, 19, 20, 21, 22, 23, 24] rfl hT) [0, 1, 3, 5, 6, 7, 8, 9, 10, 11, 12, 13, 14, 15, 16, 17, 18, 19, 20, 21, 22, 23, 24] [2, 4, 25, 26, 27, 28, 29, 30, 31, 32, 33, 34, 35, 36, 37, 38, 39] (gqk (by eq_refl)) (gqk (by eq_refl)) (plk (by decide +kernel)) ⟨by omega, by omega, hk.1, hk.2⟩ (fun rr u hw => ?_)
  rcases hw with hw | hw
  · refine an2 hw ?_
    clear hw
    intro he_r he_u hw
    have h_1 := hw
    clear hw
    have he_r := he_r.symm
    subst he_r
    subst he_u
    refine ww_subT (w1 := [(hx, .inr (11, [.ref h, .ref qp, .int (nI ac), .int (nI np), .ref qs, .ref qj, .ref ly, .ref qh, .ref kk, .int (nI kc), .ref rd, .ref pg, .int (nI pe), .int kn, .ref ss])), (qj, .inr (2, [.ref jt, .ref je, .ref ju, .ref ja])), (ju, .inl (E.2.1 1, 32, .inl ft)), (je, .inl (E.2.1 4, 4, .inr (.inr (.inr (.inr fe))))), (ja, .inl (E.2.1 5, 2, .inr (.inr (.inr (.inr fa))))), (e0, .inr (0, [.int (nI e0cs), .int (nI e0rc), .ref e0a, .ref e0b, .ref e0c, .ref e0d])), (e0a, .inl (E.2.1 7, 4, .inr (.inr (.inr (.inr e0fi))))), (e0b, .inl (E.2.1 1, 4, .inl e0fb)), (e0c, .inl (E.2.1 1, 4, .inl e0fc)), (e0d, .inl (E.2.1 1, 16, .inl e0fd)), (e1, .inr (0, [.int (nI e1cs), .int (nI e1rc), .ref e1a, .ref e1b, .ref e1c, .ref e1d])), (e1a, .inl (E.2.1 7, 4, .inr (.inr (.inr (.inr e1fi))))), (e1b, .inl (E.2.1 1, 4, .inl e1fb)), (e1c, .inl (E.2.1 1, 4, .inl e1fc)), (e1d, .inl (E.2.1 1, 16, .inl e1fd)), (e2, .inr (0, [.int (nI e2cs), .int (nI e2rc), .ref e2a, .ref e2b, .ref e2c, .ref e2d])), (e2a, .inl (E.2.1 7, 4, .inr (.inr (.inr (.inr e2fi))))), (e2b, .inl (E.2.1 1, 4, .inl e2fb)), (e2c, .inl (E.2.1 1, 4, .inl e2fc)), (e2d, .inl (E.2.1 1, 16, .inl e2fd)), (e3, .inr (0, [.int (nI e3cs), .int (nI e3rc), .ref e3a, .ref e3b, .ref e3c, .ref e3d])), (e3a, .inl (E.2.1 7, 4, .inr (.inr (.inr (.inr e3fi))))), (e3b, .inl (E.2.1 1, 4, .inl e3fb)), (e3c, .inl (E.2.1 1, 4, .inl e3fc)), (e3d, .inl (E.2.1 1, 16, .inl e3fd)), (la0, .inr (3, [.ref la0m, .int la0p, .int la0w, .ref la0c, .ref la0f, .ref la0q])), (la0c, .inl (E.2.1 1, 24, .inl la0fc)), (la0f, .inl (E.2.1 1, 24, .inl la0ff)), (la0q, .inl (E.2.1 1, 4, .inl la0fq)), (la0m, .inr (4, [.int (nI la0n), .int (nI la0r), .ref la0x, .ref la0y])), (la0x, .inl (E.2.1 1, 24, .inl la0gx)), (la0y, .inl (E.2.1 1, 96, .inl la0gy)), (la1, .inr (3, [.ref la1m, .int la1p, .int la1w, .ref la1c, .ref la1f, .ref la1q])), (la1c, .inl (E.2.1 1, 24, .inl la1fc)), (la1f, .inl (E.2.1 1, 24, .inl la1ff)), (la1q, .inl (E.2.1 1, 4, .inl la1fq)), (la1m, .inr (4, [.int (nI la1n), .int (nI la1r), .ref la1x, .ref la1y])), (la1x, .inl (E.2.1 1, 24, .inl la1gx)), (la1y, .inl (E.2.1 1, 96, .inl la1gy)), (jt, .inl (E.2.1 7, 8, .inr (.inr (.inr (.inr fto)))))]) [17, 18, 0, 19, 1, 20, 21, 22, 23, 24, 25, 26, 27, 28, 29, 30, 31, 32, 33, 34, 35, 36, 37, 38, 39, 2, 3, 4, 5, 6, 7, 8, 9, 10, 11, 12, 13, 14, 15, 16] (ndk (by decide +kernel)) (gqk (by eq_refl)) ?_
    exact kont (-1) (pick4 e0fd e1fd e2fd e3fd) [(qj, .inr (2, [.ref jt, .ref je, .ref ju, .ref ja])), (ju, .inl (E.2.1 1, 32, .inl ft)), (je, .inl (E.2.1 4, 4, .inr (.inr (.inr (.inr fe))))), (ja, .inl (E.2.1 5, 2, .inr (.inr (.inr (.inr fa))))), (e0, .inr (0, [.int (nI e0cs), .int (nI e0rc), .ref e0a, .ref e0b, .ref e0c, .ref e0d])), (e0a, .inl (E.2.1 7, 4, .inr (.inr (.inr (.inr e0fi))))), (e0b, .inl (E.2.1 1, 4, .inl e0fb)), (e0c, .inl (E.2.1 1, 4, .inl e0fc)), (e0d, .inl (E.2.1 1, 16, .inl e0fd)), (e1, .inr (0, [.int (nI e1cs), .int (nI e1rc), .ref e1a, .ref e1b, .ref e1c, .ref e1d])), (e1a, .inl (E.2.1 7, 4, .inr (.inr (.inr (.inr e1fi))))), (e1b, .inl (E.2.1 1, 4, .inl e1fb)), (e1c, .inl (E.2.1 1, 4, .inl e1fc)), (e1d, .inl (E.2.1 1, 16, .inl e1fd)), (e2, .inr (0, [.int (nI e2cs), .int (nI e2rc), .ref e2a, .ref e2b, .ref e2c, .ref e2d])), (e2a, .inl (E.2.1 7, 4, .inr (.inr (.inr (.inr e2fi))))), (e2b, .inl (E.2.1 1, 4, .inl e2fb)), (e2c, .inl (E.2.1 1, 4, .inl e2fc)), (e2d, .inl (E.2.1 1, 16, .inl e2fd)), (e3, .inr (0, [.int (nI e3cs), .int (nI e3rc), .ref e3a, .ref e3b, .ref e3c, .ref e3d])), (e3a, .inl (E.2.1 7, 4, .inr (.inr (.inr (.inr e3fi))))), (e3b, .inl (E.2.1 1, 4, .inl e3fb)), (e3c, .inl (E.2.1 1, 4, .inl e3fc)), (e3d, .inl (E.2.1 1, 16, .inl e3fd)), (la0, .inr (3, [.ref la0m, .int la0p, .int la0w, .ref la0c, .ref la0f, .ref la0q])), (la0c, .inl (E.2.1 1, 24, .inl la0fc)), (la0f, .inl (E.2.1 1, 24, .inl la0ff)), (la0q, .inl (E.2.1 1, 4, .inl la0fq)), (la0m, .inr (4, [.int (nI la0n), .int (nI la0r), .ref la0x, .ref la0y])), (la0x, .inl (E.2.1 1, 24, .inl la0gx)), (la0y, .inl (E.2.1 1, 96, .inl la0gy)), (la1, .inr (3, [.ref la1m, .int la1p, .int la1w, .ref la1c, .ref la1f, .ref la1q])), (la1c, .inl (E.2.1 1, 24, .inl la1fc)), (la1f, .inl (E.2.1 1, 24, .inl la1ff)), (la1q, .inl (E.2.1 1, 4, .inl la1fq)), (la1m, .inr (4, [.int (nI la1n), .int (nI la1r), .ref la1x, .ref la1y])), (la1x, .inl (E.2.1 1, 24, .inl la1gx)), (la1y, .inl (E.2.1 1, 96, .inl la1gy)), (jt, .inl (E.2.1 7, 8, .inr (.inr (.inr (.inr fto)))))]  ⟨jt, je, ju, ja, ft, fe, e0, e1, e2, e3, fa, la0, la1, e0cs, e0rc, e0a, e0b, e0c, e0d, e0fi, e0fb, e0fc, e0fd, e1cs, e1rc, e1a, e1b, e1c, e1d, e1fi, e1fb, e1fc, e1fd, e2cs, e2rc, e2a, e2b, e2c, e2d, e2fi, e2fb, e2fc, e2fd, e3cs, e3rc, e3a, e3b, e3c, e3d, e3fi, e3fb, e3fc, e3fd, la0m, la0p, la0w, la0c, la0f, la0q, la0fc, la0ff, la0fq, la0n, la0r, la0x, la0y, la0gx, la0gy, la1m, la1p, la1w, la1c, la1f, la1q, la1fc, la1ff, la1fq, la1n, la1r, la1x, la1y, la1gx, la1gy, fto, e0T, e1T, e2T, e3T, rfl, k_fe_0, k_fe_1, k_fe_2, k_fe_3, k_fa_0, k_fa_1, (by first | assumption | omega), (by first | assumption | omega), he0fi, (by first | assumption | omega), (by first | assumption | omega), he1fi, (by first | assumption | omega), (by first | assumption | omega), he2fi, (by first | assumption | omega), (by first | assumption | omega), he3fi, (by first | assumption | omega), (by first | assumption | omega), (by first | assumption | omega), (by first | assumption | omega), hto, rfl, rfl, rfl, rfl, rfl, rfl⟩ (Or.inl ⟨h_1, rfl, rfl⟩)
  · refine ex7 hw ?_
    clear hw
    intro k__2 n__3 i__4 e0fdz_5 e1fdz_6 e2fdz_7 e3fdz_8 hw
    refine an8 hw ?_
    clear hw
    intro he_u h_9 h_10 h_11 h_12 h_13 h_14 h_15 hw
    refine an3 hw ?_
    clear hw
    intro h_16 h_17 h_18 hw
    have h_19 := hw
    clear hw
    subst he_u
    refine ww_subT (w1 := [(hx, .inr (11, [.ref h, .ref qp, .int (nI ac), .int (nI np), .ref qs, .ref qj, .ref ly, .ref qh, .ref kk, .int (nI kc), .ref rd, .ref pg, .int (nI pe), .int kn, .ref ss])), (qj, .inr (2, [.ref jt, .ref je, .ref ju, .ref ja])), (ju, .inl (E.2.1 1, 32, .inl ft)), (je, .inl (E.2.1 4, 4, .inr (.inr (.inr (.inr fe))))), (ja, .inl (E.2.1 5, 2, .inr (.inr (.inr (.inr fa))))), (e0, .inr (0, [.int (nI e0cs), .int (nI e0rc), .ref e0a, .ref e0b, .ref e0c, .ref e0d])), (e0a, .inl (E.2.1 7, 4, .inr (.inr (.inr (.inr e0fi))))), (e0b, .inl (E.2.1 1, 4, .inl e0fb)), (e0c, .inl (E.2.1 1, 4, .inl e0fc)), (e0d, .inl (E.2.1 1, 16, .inl e0fdz_5)), (e1, .inr (0, [.int (nI e1cs), .int (nI e1rc), .ref e1a, .ref e1b, .ref e1c, .ref e1d])), (e1a, .inl (E.2.1 7, 4, .inr (.inr (.inr (.inr e1fi))))), (e1b, .inl (E.2.1 1, 4, .inl e1fb)), (e1c, .inl (E.2.1 1, 4, .inl e1fc)), (e1d, .inl (E.2.1 1, 16, .inl e1fdz_6)), (e2, .inr (0, [.int (nI e2cs), .int (nI e2rc), .ref e2a, .ref e2b, .ref e2c, .ref e2d])), (e2a, .inl (E.2.1 7, 4, .inr (.inr (.inr (.inr e2fi))))), (e2b, .inl (E.2.1 1, 4, .inl e2fb)), (e2c, .inl (E.2.1 1, 4, .inl e2fc)), (e2d, .inl (E.2.1 1, 16, .inl e2fdz_7)), (e3, .inr (0, [.int (nI e3cs), .int (nI e3rc), .ref e3a, .ref e3b, .ref e3c, .ref e3d])), (e3a, .inl (E.2.1 7, 4, .inr (.inr (.inr (.inr e3fi))))), (e3b, .inl (E.2.1 1, 4, .inl e3fb)), (e3c, .inl (E.2.1 1, 4, .inl e3fc)), (e3d, .inl (E.2.1 1, 16, .inl e3fdz_8)), (la0, .inr (3, [.ref la0m, .int la0p, .int la0w, .ref la0c, .ref la0f, .ref la0q])), (la0c, .inl (E.2.1 1, 24, .inl la0fc)), (la0f, .inl (E.2.1 1, 24, .inl la0ff)), (la0q, .inl (E.2.1 1, 4, .inl la0fq)), (la0m, .inr (4, [.int (nI la0n), .int (nI la0r), .ref la0x, .ref la0y])), (la0x, .inl (E.2.1 1, 24, .inl la0gx)), (la0y, .inl (E.2.1 1, 96, .inl la0gy)), (la1, .inr (3, [.ref la1m, .int la1p, .int la1w, .ref la1c, .ref la1f, .ref la1q])), (la1c, .inl (E.2.1 1, 24, .inl la1fc)), (la1f, .inl (E.2.1 1, 24, .inl la1ff)), (la1q, .inl (E.2.1 1, 4, .inl la1fq)), (la1m, .inr (4, [.int (nI la1n), .int (nI la1r), .ref la1x, .ref la1y])), (la1x, .inl (E.2.1 1, 24, .inl la1gx)), (la1y, .inl (E.2.1 1, 96, .inl la1gy)), (jt, .inl (E.2.1 7, 8, .inr (.inr (.inr (.inr fto)))))]) [17, 18, 0, 19, 1, 20, 21, 22, 23, 24, 25, 26, 27, 28, 29, 30, 31, 32, 33, 34, 35, 36, 37, 38, 39, 2, 3, 4, 5, 6, 7, 8, 9, 10, 11, 12, 13, 14, 15, 16] (ndk (by decide +kernel)) (gqk (by eq_refl)) ?_
    exact kont rr (pick4 e0fdz_5 e1fdz_6 e2fdz_7 e3fdz_8) [(qj, .inr (2, [.ref jt, .ref je, .ref ju, .ref ja])), (ju, .inl (E.2.1 1, 32, .inl ft)), (je, .inl (E.2.1 4, 4, .inr (.inr (.inr (.inr fe))))), (ja, .inl (E.2.1 5, 2, .inr (.inr (.inr (.inr fa))))), (e0, .inr (0, [.int (nI e0cs), .int (nI e0rc), .ref e0a, .ref e0b, .ref e0c, .ref e0d])), (e0a, .inl (E.2.1 7, 4, .inr (.inr (.inr (.inr e0fi))))), (e0b, .inl (E.2.1 1, 4, .inl e0fb)), (e0c, .inl (E.2.1 1, 4, .inl e0fc)), (e0d, .inl (E.2.1 1, 16, .inl e0fdz_5)), (e1, .inr (0, [.int (nI e1cs), .int (nI e1rc), .ref e1a, .ref e1b, .ref e1c, .ref e1d])), (e1a, .inl (E.2.1 7, 4, .inr (.inr (.inr (.inr e1fi))))), (e1b, .inl (E.2.1 1, 4, .inl e1fb)), (e1c, .inl (E.2.1 1, 4, .inl e1fc)), (e1d, .inl (E.2.1 1, 16, .inl e1fdz_6)), (e2, .inr (0, [.int (nI e2cs), .int (nI e2rc), .ref e2a, .ref e2b, .ref e2c, .ref e2d])), (e2a, .inl (E.2.1 7, 4, .inr (.inr (.inr (.inr e2fi))))), (e2b, .inl (E.2.1 1, 4, .inl e2fb)), (e2c, .inl (E.2.1 1, 4, .inl e2fc)), (e2d, .inl (E.2.1 1, 16, .inl e2fdz_7)), (e3, .inr (0, [.int (nI e3cs), .int (nI e3rc), .ref e3a, .ref e3b, .ref e3c, .ref e3d])), (e3a, .inl (E.2.1 7, 4, .inr (.inr (.inr (.inr e3fi))))), (e3b, .inl (E.2.1 1, 4, .inl e3fb)), (e3c, .inl (E.2.1 1, 4, .inl e3fc)), (e3d, .inl (E.2.1 1, 16, .inl e3fdz_8)), (la0, .inr (3, [.ref la0m, .int la0p, .int la0w, .ref la0c, .ref la0f, .ref la0q])), (la0c, .inl (E.2.1 1, 24, .inl la0fc)), (la0f, .inl (E.2.1 1, 24, .inl la0ff)), (la0q, .inl (E.2.1 1, 4, .inl la0fq)), (la0m, .inr (4, [.int (nI la0n), .int (nI la0r), .ref la0x, .ref la0y])), (la0x, .inl (E.2.1 1, 24, .inl la0gx)), (la0y, .inl (E.2.1 1, 96, .inl la0gy)), (la1, .inr (3, [.ref la1m, .int la1p, .int la1w, .ref la1c, .ref la1f, .ref la1q])), (la1c, .inl (E.2.1 1, 24, .inl la1fc)), (la1f, .inl (E.2.1 1, 24, .inl la1ff)), (la1q, .inl (E.2.1 1, 4, .inl la1fq)), (la1m, .inr (4, [.int (nI la1n), .int (nI la1r), .ref la1x, .ref la1y])), (la1x, .inl (E.2.1 1, 24, .inl la1gx)), (la1y, .inl (E.2.1 1, 96, .inl la1gy)), (jt, .inl (E.2.1 7, 8, .inr (.inr (.inr (.inr fto)))))]  ⟨jt, je, ju, ja, ft, fe, e0, e1, e2, e3, fa, la0, la1, e0cs, e0rc, e0a, e0b, e0c, e0d, e0fi, e0fb, e0fc, e0fdz_5, e1cs, e1rc, e1a, e1b, e1c, e1d, e1fi, e1fb, e1fc, e1fdz_6, e2cs, e2rc, e2a, e2b, e2c, e2d, e2fi, e2fb, e2fc, e2fdz_7, e3cs, e3rc, e3a, e3b, e3c, e3d, e3fi, e3fb, e3fc, e3fdz_8, la0m, la0p, la0w, la0c, la0f, la0q, la0fc, la0ff, la0fq, la0n, la0r, la0x, la0y, la0gx, la0gy, la1m, la1p, la1w, la1c, la1f, la1q, la1fc, la1ff, la1fq, la1n, la1r, la1x, la1y, la1gx, la1gy, fto, e0T, e1T, e2T, e3T, rfl, k_fe_0, k_fe_1, k_fe_2, k_fe_3, k_fa_0, k_fa_1, (by first | assumption | omega), (by first | assumption | omega), he0fi, (by first | assumption | omega), (by first | assumption | omega), he1fi, (by first | assumption | omega), (by first | assumption | omega), he2fi, (by first | assumption | omega), (by first | assumption | omega), he3fi, (by first | assumption | omega), (by first | assumption | omega), (by first | assumption | omega), (by first | assumption | omega), hto, rfl, rfl, rfl, rfl, rfl, rfl⟩ (Or.inr (⟨_, _, _, h_9, h_10, h_11, h_12, h_13, h_14, h_15, h_16, h_17, h_18, h_19⟩))
theorem wc_X11_happens : Cond.code yX11_happens cX11_happens 4 (some .int) ∈ TB := tbm (tq4 (List.mem_of_getElem? (i := 86) (rfl))) (by decide +kernel)
theorem wi_X11_happens : Cond.instanceMethod yX11_happens ∈ TB := tbm (tq4 (List.mem_of_getElem? (i := 84) (by decide +kernel))) (by decide +kernel)
theorem ws_X11_happens : Cond.selects RX11 yX11_happens yX11_happens ∈ TB := tbm (tq4 (List.mem_of_getElem? (i := 85) (by decide +kernel))) (by decide +kernel)
theorem mi_X11_happens : MI yX11_happens cX11_happens 4 (some .int) 2 := ⟨wc_X11_happens, wn_X11, ⟨by decide +kernel, by decide +kernel, by decide +kernel⟩, wi_X11_happens, ws_X11_happens⟩
theorem wl_L_86 : Cond.methodLink RL 86 yX11_happens ∈ TB := tbm (tq4 (List.mem_of_getElem? (i := 83) (by decide +kernel))) (by decide +kernel)
theorem dL_law_807 : decode cL_law 807 = .ok (.invokevirtual 86, 3) := dl_182 (by decide +kernel)
set_option maxRecDepth 100000 in
set_option maxHeartbeats 4000000 in
theorem lx_happens {X : XT} {E : EV} {ro wT pre : va_W} {lv : List (Nat × Value)} {rest : List Value} {kC nC : Nat} {hx h qp qs qj ly qh kk rd pg ss : Nat} {ac np kc pe : Nat} {kn : Int32} {tT : Nat → Option SVal} {ec : Nat → Nat} {er : Nat → Nat} {ed : Nat → Nat → Int32} {eT : Nat → Nat → Option SVal} {eb : Nat → Nat → Int32} {en : Nat → Nat → Int32} {w_judg : va_W} {v0 : Int32} {v1 : Int32}  (C : CX X room_1 cL_law 4 RL ret E) (hW : Nat.ble (rest.map fun v => v.category).sum 8 = true) (hT : wT = pre ++ ro) (hk : kC + 0 ≤ 600000 ∧ nC + 0 ≤ 7302250) (hac : ac ≤ 8) (hnp : np < 8) (hkc : kc ≤ 4) (hpe : pe ≤ 4) (H_judg : ok_judg E ro qj tT ec er ed eT eb en w_judg) (kont : ∀ (rr : Int32) (erZ : Nat → Nat) (w_judgZ : va_W), ok_judg E ro qj tT ec erZ ed eT eb en w_judgZ → ((¬ CSE ec v0 v1 ∧ rr = -1 ∧ erZ = er) ∨ ∃ k_ i_ : Nat, CSE ec v0 v1 ∧ v0 = nI k_ ∧ v1 = nI i_ ∧ k_ ≤ 3 ∧ i_ ≤ 3 ∧ (∀ i, i < 4 → erZ i = if i = k_ then i_ else er i) ∧ rr = nI (er k_)) → WW X 4 E 810 lv (.int rr :: rest) ([(hx, .inr (11, [.ref h, .ref qp, .int (nI ac), .int (nI np), .ref qs, .ref qj, .ref ly, .ref qh, .ref kk, .int (nI kc), .ref rd, .ref pg, .int (nI pe), .int kn, .ref ss]))] ++ (w_judgZ ++ wT)) kC nC) : WW X 4 E 807 lv (.int v1 :: .int v0 :: .ref hx :: rest) ([(hx, .inr (11, [.ref h, .ref qp, .int (nI ac), .int (nI np), .ref qs, .ref qj, .ref ly, .ref qh, .ref kk, .int (nI kc), .ref rd, .ref pg, .int (nI pe), .int kn, .ref ss]))] ++ (w_judg ++ wT)) kC nC := by
  unfold ok_judg at H_judg
  refine ex8 H_judg ?_
  clear H_judg
  intro jt je ju ja ft fe e0 e1 H_judg
  refine ex8 H_judg ?_
  clear H_judg
  intro e2 e3 fa la0 la1 e0cs e0rc e0a H_judg
  refine ex8 H_judg ?_
  clear H_judg
  intro e0b e0c e0d e0fi e0fb e0fc e0fd e1cs H_judg
  refine ex8 H_judg ?_
  clear H_judg
  intro e1rc e1a e1b e1c e1d e1fi e1fb e1fc H_judg
  refine ex8 H_judg ?_
  clear H_judg
  intro e1fd e2cs e2rc e2a e2b e2c e2d e2fi H_judg
  refine ex8 H_judg ?_
  clear H_judg
  intro e2fb e2fc e2fd e3cs e3rc e3a e3b e3c H_judg
  refine ex8 H_judg ?_
  clear H_judg
  intro e3d e3fi e3fb e3fc e3fd la0m la0p la0w H_judg
  refine ex8 H_judg ?_
  clear H_judg
  intro la0c la0f la0q la0fc la0ff la0fq la0n la0r H_judg
  refine ex8 H_judg ?_
  clear H_judg
  intro la0x la0y la0gx la0gy la1m la1p la1w la1c H_judg
  refine ex8 H_judg ?_
  clear H_judg
  intro la1f la1q la1fc la1ff la1fq la1n la1r la1x H_judg
  refine ex8 H_judg ?_
  clear H_judg
  intro la1y la1gx la1gy fto e0T e1T e2T e3T H_judg
  refine an8 H_judg ?_
  clear H_judg
  intro we_judg k_fe_0 k_fe_1 k_fe_2 k_fe_3 k_fa_0 k_fa_1 he0cs H_judg
  refine an8 H_judg ?_
  clear H_judg
  intro he0rc he0fi he1cs he1rc he1fi he2cs he2rc he2fi H_judg
  refine an8 H_judg ?_
  clear H_judg
  intro he3cs he3rc he3fi hla0n hla0r hla1n hla1r hto H_judg
  refine an5 H_judg ?_
  clear H_judg
  intro hec her hed heT heb H_judg
  have hen := H_judg
  clear H_judg
  subst we_judg
  subst hec
  subst her
  subst hed
  subst heT
  subst heb
  subst hen
  refine ww_eq (ws' := [(hx, .inr (11, [.ref h, .ref qp, .int (nI ac), .int (nI np), .ref qs, .ref qj, .ref ly, .ref qh, .ref kk, .int (nI kc), .ref rd, .ref pg, .int (nI pe), .int kn, .ref ss])), (qj, .inr (2, [.ref jt, .ref je, .ref ju, .ref ja])), (ju, .inl (E.2.1 1, 32, .inl ft)), (je, .inl (E.2.1 4, 4, .inr (.inr (.inr (.inr fe))))), (ja, .inl (E.2.1 5, 2, .inr (.inr (.inr (.inr fa))))), (e0, .inr (0, [.int (nI e0cs), .int (nI e0rc), .ref e0a, .ref e0b, .ref e0c, .ref e0d])), (e0a, .inl (E.2.1 7, 4, .inr (.inr (.inr (.inr e0fi))))), (e0b, .inl (E.2.1 1, 4, .inl e0fb)), (e0c, .inl (E.2.1 1, 4, .inl e0fc)), (e0d, .inl (E.2.1 1, 16, .inl e0fd)), (e1, .inr (0, [.int (nI e1cs), .int (nI e1rc), .ref e1a, .ref e1b, .ref e1c, .ref e1d])), (e1a, .inl (E.2.1 7, 4, .inr (.inr (.inr (.inr e1fi))))), (e1b, .inl (E.2.1 1, 4, .inl e1fb)), (e1c, .inl (E.2.1 1, 4, .inl e1fc)), (e1d, .inl (E.2.1 1, 16, .inl e1fd)), (e2, .inr (0, [.int (nI e2cs), .int (nI e2rc), .ref e2a, .ref e2b, .ref e2c, .ref e2d])), (e2a, .inl (E.2.1 7, 4, .inr (.inr (.inr (.inr e2fi))))), (e2b, .inl (E.2.1 1, 4, .inl e2fb)), (e2c, .inl (E.2.1 1, 4, .inl e2fc)), (e2d, .inl (E.2.1 1, 16, .inl e2fd)), (e3, .inr (0, [.int (nI e3cs), .int (nI e3rc), .ref e3a, .ref e3b, .ref e3c, .ref e3d])), (e3a, .inl (E.2.1 7, 4, .inr (.inr (.inr (.inr e3fi))))), (e3b, .inl (E.2.1 1, 4, .inl e3fb)), (e3c, .inl (E.2.1 1, 4, .inl e3fc)), (e3d, .inl (E.2.1 1, 16, .inl e3fd)), (la0, .inr (3, [.ref la0m, .int la0p, .int la0w, .ref la0c, .ref la0f, .ref la0q])), (la0c, .inl (E.2.1 1, 24, .inl la0fc)), (la0f, .inl (E.2.1 1, 24, .inl la0ff)), (la0q, .inl (E.2.1 1, 4, .inl la0fq)), (la0m, .inr (4, [.int (nI la0n), .int (nI la0r), .ref la0x, .ref la0y])), (la0x, .inl (E.2.1 1, 24, .inl la0gx)), (la0y, .inl (E.2.1 1, 96, .inl la0gy)), (la1, .inr (3, [.ref la1m, .int la1p, .int la1w, .ref la1c, .ref la1f, .ref la1q])), (la1c, .inl (E.2.1 1, 24, .inl la1fc)), (la1f, .inl (E.2.1 1, 24, .inl la1ff)), (la1q, .inl (E.2.1 1, 4, .inl la1fq)), (la1m, .inr (4, [.int (nI la1n), .int (nI la1r), .ref la1x, .ref la1y])), (la1x, .inl (E.2.1 1, 24, .inl la1gx)), (la1y, .inl (E.2.1 1, 96, .inl la1gy)), (jt, .inl (E.2.1 7, 8, .inr (.inr (.inr (.inr fto)))))] ++ wT) ?_ rfl rfl rfl
  refine ww_ciT (k' := kC) (n' := nC) (wr := [(ju, .inl (E.2.1 1, 32, .inl ft)), (ja, .inl (E.2.1 5, 2, .inr (.inr (.inr (.inr fa))))), (la0, .inr (3, [.ref la0m, .int la0p, .int la0w, .ref la0c, .ref la0f, .ref la0q])), (la0c, .inl (E.2.1 1, 24, .inl la0fc)), (la0f, .inl (E.2.1 1, 24, .inl la0ff)), (la0q, .inl (E.2.1 1, 4, .inl la0fq)), (la0m, .inr (4, [.int (nI la0n), .int (nI la0r), .ref la0x, .ref la0y])), (la0x, .inl (E.2.1 1, 24, .inl la0gx)), (la0y, .inl (E.2.1 1, 96, .inl la0gy)), (la1, .inr (3, [.ref la1m, .int la1p, .int la1w, .ref la1c, .ref la1f, .ref la1q])), (la1c, .inl (E.2.1 1, 24, .inl la1fc)), (la1f, .inl (E.2.1 1, 24, .inl la1ff)), (la1q, .inl (E.2.1 1, 4, .inl la1fq)), (la1m, .inr (4, [.int (nI la1n), .int (nI la1r), .ref la1x, .ref la1y])), (la1x, .inl (E.2.1 1, 24, .inl la1gx)), (la1y, .inl (E.2.1 1, 96, .inl la1gy)), (jt, .inl (E.2.1 7, 8, .inr (.inr (.inr (.inr fto)))))]) C (run_V (As := [.int v0, .int v1]) (rest := rest) C (x_happens X.2.1 E ro hx v0 v1 h qp ac np qs qj ly qh kk kc rd pg pe kn ss jt je ju ja fe e0 e1 e2 e3 e0cs e0rc e0a e0b e0c e0d e0fi e0fb e0fc e0fd e1cs e1rc e1a e1b e1c e1d e1fi e1fb e1fc e1fd e2cs e2rc e2a e2b e2c e2d e2fi e2fb e2fc e2fd e3cs e3rc e3a e3b e3c e3d e3fi e3fb e3fc e3fd e0T e1T e2T e3T k_fe_0 k_fe_1 k_fe_2 k_fe_3 (by first | assumption | omega) (by first | assumption | omega) (by first | assumption | omega) (by first | assumption | omega) (by first | assumption | omega) (by first | assumption | omega) he0fi (by first | assumption | omega) (by first | assumption | omega) he1fi (by first | assumption | omega) (by first | assumption | omega) he2fi (by first | assumption | omega) (by first | assumption | omega) he3fi) mi_X11_happens wl_L_86 rfl 0 11 rfl rfl rfl rfl hW dL_law_807) (roT (pre := pre) [0, 1, 3, 5, 6, 7, 8, 9, 10, 11, 12, 13, 14, 15, 16, 17, 18, 19, 20, 21, 22, 23, 24] rfl hT) [0, 1, 3, 5, 6, 7, 8, 9, 10, 11, 12, 13, 14, 15, 16, 17, 18, 19, 20, 21, 22, 23, 24] [2, 4, 25, 26, 27, 28, 29, 30, 31, 32, 33, 34, 35, 36, 37, 38, 39] (gqk (by eq_refl)) (gqk (by eq_refl)) (plk (by decide +kernel)) ⟨by omega, by omega, hk.1, hk.2⟩ (fun rr u hw => ?_)
  rcases hw with hw | hw
  · refine an2 hw ?_
    clear hw
    intro he_r he_u hw
    have h_1 := hw
    clear hw
    have he_r := he_r.symm
    subst he_r
    subst he_u
    refine ww_subT (w1 := [(hx, .inr (11, [.ref h, .ref qp, .int (nI ac), .int (nI np), .ref qs, .ref qj, .ref ly, .ref qh, .ref kk, .int (nI kc), .ref rd, .ref pg, .int (nI pe), .int kn, .ref ss])), (qj, .inr (2, [.ref jt, .ref je, .ref ju, .ref ja])), (ju, .inl (E.2.1 1, 32, .inl ft)), (je, .inl (E.2.1 4, 4, .inr (.inr (.inr (.inr fe))))), (ja, .inl (E.2.1 5, 2, .inr (.inr (.inr (.inr fa))))), (e0, .inr (0, [.int (nI e0cs), .int (nI e0rc), .ref e0a, .ref e0b, .ref e0c, .ref e0d])), (e0a, .inl (E.2.1 7, 4, .inr (.inr (.inr (.inr e0fi))))), (e0b, .inl (E.2.1 1, 4, .inl e0fb)), (e0c, .inl (E.2.1 1, 4, .inl e0fc)), (e0d, .inl (E.2.1 1, 16, .inl e0fd)), (e1, .inr (0, [.int (nI e1cs), .int (nI e1rc), .ref e1a, .ref e1b, .ref e1c, .ref e1d])), (e1a, .inl (E.2.1 7, 4, .inr (.inr (.inr (.inr e1fi))))), (e1b, .inl (E.2.1 1, 4, .inl e1fb)), (e1c, .inl (E.2.1 1, 4, .inl e1fc)), (e1d, .inl (E.2.1 1, 16, .inl e1fd)), (e2, .inr (0, [.int (nI e2cs), .int (nI e2rc), .ref e2a, .ref e2b, .ref e2c, .ref e2d])), (e2a, .inl (E.2.1 7, 4, .inr (.inr (.inr (.inr e2fi))))), (e2b, .inl (E.2.1 1, 4, .inl e2fb)), (e2c, .inl (E.2.1 1, 4, .inl e2fc)), (e2d, .inl (E.2.1 1, 16, .inl e2fd)), (e3, .inr (0, [.int (nI e3cs), .int (nI e3rc), .ref e3a, .ref e3b, .ref e3c, .ref e3d])), (e3a, .inl (E.2.1 7, 4, .inr (.inr (.inr (.inr e3fi))))), (e3b, .inl (E.2.1 1, 4, .inl e3fb)), (e3c, .inl (E.2.1 1, 4, .inl e3fc)), (e3d, .inl (E.2.1 1, 16, .inl e3fd)), (la0, .inr (3, [.ref la0m, .int la0p, .int la0w, .ref la0c, .ref la0f, .ref la0q])), (la0c, .inl (E.2.1 1, 24, .inl la0fc)), (la0f, .inl (E.2.1 1, 24, .inl la0ff)), (la0q, .inl (E.2.1 1, 4, .inl la0fq)), (la0m, .inr (4, [.int (nI la0n), .int (nI la0r), .ref la0x, .ref la0y])), (la0x, .inl (E.2.1 1, 24, .inl la0gx)), (la0y, .inl (E.2.1 1, 96, .inl la0gy)), (la1, .inr (3, [.ref la1m, .int la1p, .int la1w, .ref la1c, .ref la1f, .ref la1q])), (la1c, .inl (E.2.1 1, 24, .inl la1fc)), (la1f, .inl (E.2.1 1, 24, .inl la1ff)), (la1q, .inl (E.2.1 1, 4, .inl la1fq)), (la1m, .inr (4, [.int (nI la1n), .int (nI la1r), .ref la1x, .ref la1y])), (la1x, .inl (E.2.1 1, 24, .inl la1gx)), (la1y, .inl (E.2.1 1, 96, .inl la1gy)), (jt, .inl (E.2.1 7, 8, .inr (.inr (.inr (.inr fto)))))]) [17, 18, 0, 19, 1, 20, 21, 22, 23, 24, 25, 26, 27, 28, 29, 30, 31, 32, 33, 34, 35, 36, 37, 38, 39, 2, 3, 4, 5, 6, 7, 8, 9, 10, 11, 12, 13, 14, 15, 16] (ndk (by decide +kernel)) (gqk (by eq_refl)) ?_
    exact kont (-1) (pick4 e0rc e1rc e2rc e3rc) [(qj, .inr (2, [.ref jt, .ref je, .ref ju, .ref ja])), (ju, .inl (E.2.1 1, 32, .inl ft)), (je, .inl (E.2.1 4, 4, .inr (.inr (.inr (.inr fe))))), (ja, .inl (E.2.1 5, 2, .inr (.inr (.inr (.inr fa))))), (e0, .inr (0, [.int (nI e0cs), .int (nI e0rc), .ref e0a, .ref e0b, .ref e0c, .ref e0d])), (e0a, .inl (E.2.1 7, 4, .inr (.inr (.inr (.inr e0fi))))), (e0b, .inl (E.2.1 1, 4, .inl e0fb)), (e0c, .inl (E.2.1 1, 4, .inl e0fc)), (e0d, .inl (E.2.1 1, 16, .inl e0fd)), (e1, .inr (0, [.int (nI e1cs), .int (nI e1rc), .ref e1a, .ref e1b, .ref e1c, .ref e1d])), (e1a, .inl (E.2.1 7, 4, .inr (.inr (.inr (.inr e1fi))))), (e1b, .inl (E.2.1 1, 4, .inl e1fb)), (e1c, .inl (E.2.1 1, 4, .inl e1fc)), (e1d, .inl (E.2.1 1, 16, .inl e1fd)), (e2, .inr (0, [.int (nI e2cs), .int (nI e2rc), .ref e2a, .ref e2b, .ref e2c, .ref e2d])), (e2a, .inl (E.2.1 7, 4, .inr (.inr (.inr (.inr e2fi))))), (e2b, .inl (E.2.1 1, 4, .inl e2fb)), (e2c, .inl (E.2.1 1, 4, .inl e2fc)), (e2d, .inl (E.2.1 1, 16, .inl e2fd)), (e3, .inr (0, [.int (nI e3cs), .int (nI e3rc), .ref e3a, .ref e3b, .ref e3c, .ref e3d])), (e3a, .inl (E.2.1 7, 4, .inr (.inr (.inr (.inr e3fi))))), (e3b, .inl (E.2.1 1, 4, .inl e3fb)), (e3c, .inl (E.2.1 1, 4, .inl e3fc)), (e3d, .inl (E.2.1 1, 16, .inl e3fd)), (la0, .inr (3, [.ref la0m, .int la0p, .int la0w, .ref la0c, .ref la0f, .ref la0q])), (la0c, .inl (E.2.1 1, 24, .inl la0fc)), (la0f, .inl (E.2.1 1, 24, .inl la0ff)), (la0q, .inl (E.2.1 1, 4, .inl la0fq)), (la0m, .inr (4, [.int (nI la0n), .int (nI la0r), .ref la0x, .ref la0y])), (la0x, .inl (E.2.1 1, 24, .inl la0gx)), (la0y, .inl (E.2.1 1, 96, .inl la0gy)), (la1, .inr (3, [.ref la1m, .int la1p, .int la1w, .ref la1c, .ref la1f, .ref la1q])), (la1c, .inl (E.2.1 1, 24, .inl la1fc)), (la1f, .inl (E.2.1 1, 24, .inl la1ff)), (la1q, .inl (E.2.1 1, 4, .inl la1fq)), (la1m, .inr (4, [.int (nI la1n), .int (nI la1r), .ref la1x, .ref la1y])), (la1x, .inl (E.2.1 1, 24, .inl la1gx)), (la1y, .inl (E.2.1 1, 96, .inl la1gy)), (jt, .inl (E.2.1 7, 8, .inr (.inr (.inr (.inr fto)))))]  ⟨jt, je, ju, ja, ft, fe, e0, e1, e2, e3, fa, la0, la1, e0cs, e0rc, e0a, e0b, e0c, e0d, e0fi, e0fb, e0fc, e0fd, e1cs, e1rc, e1a, e1b, e1c, e1d, e1fi, e1fb, e1fc, e1fd, e2cs, e2rc, e2a, e2b, e2c, e2d, e2fi, e2fb, e2fc, e2fd, e3cs, e3rc, e3a, e3b, e3c, e3d, e3fi, e3fb, e3fc, e3fd, la0m, la0p, la0w, la0c, la0f, la0q, la0fc, la0ff, la0fq, la0n, la0r, la0x, la0y, la0gx, la0gy, la1m, la1p, la1w, la1c, la1f, la1q, la1fc, la1ff, la1fq, la1n, la1r, la1x, la1y, la1gx, la1gy, fto, e0T, e1T, e2T, e3T, rfl, k_fe_0, k_fe_1, k_fe_2, k_fe_3, k_fa_0, k_fa_1, (by first | assumption | omega), (by first | assumption | omega), he0fi, (by first | assumption | omega), (by first | assumption | omega), he1fi, (by first | assumption | omega), (by first | assumption | omega), he2fi, (by first | assumption | omega), (by first | assumption | omega), he3fi, (by first | assumption | omega), (by first | assumption | omega), (by first | assumption | omega), (by first | assumption | omega), hto, rfl, rfl, rfl, rfl, rfl, rfl⟩ (Or.inl ⟨h_1, rfl, rfl⟩)
  · refine ex6 hw ?_
    clear hw
    intro k__2 i__3 e0rcz_4 e1rcz_5 e2rcz_6 e3rcz_7 hw
    refine an8 hw ?_
    clear hw
    intro he_u h_8 h_9 h_10 h_11 h_12 h_13 h_14 hw
    refine an3 hw ?_
    clear hw
    intro h_15 h_16 h_17 hw
    have h_18 := hw
    clear hw
    subst he_u
    refine ww_subT (w1 := [(hx, .inr (11, [.ref h, .ref qp, .int (nI ac), .int (nI np), .ref qs, .ref qj, .ref ly, .ref qh, .ref kk, .int (nI kc), .ref rd, .ref pg, .int (nI pe), .int kn, .ref ss])), (qj, .inr (2, [.ref jt, .ref je, .ref ju, .ref ja])), (ju, .inl (E.2.1 1, 32, .inl ft)), (je, .inl (E.2.1 4, 4, .inr (.inr (.inr (.inr fe))))), (ja, .inl (E.2.1 5, 2, .inr (.inr (.inr (.inr fa))))), (e0, .inr (0, [.int (nI e0cs), .int (nI e0rcz_4), .ref e0a, .ref e0b, .ref e0c, .ref e0d])), (e0a, .inl (E.2.1 7, 4, .inr (.inr (.inr (.inr e0fi))))), (e0b, .inl (E.2.1 1, 4, .inl e0fb)), (e0c, .inl (E.2.1 1, 4, .inl e0fc)), (e0d, .inl (E.2.1 1, 16, .inl e0fd)), (e1, .inr (0, [.int (nI e1cs), .int (nI e1rcz_5), .ref e1a, .ref e1b, .ref e1c, .ref e1d])), (e1a, .inl (E.2.1 7, 4, .inr (.inr (.inr (.inr e1fi))))), (e1b, .inl (E.2.1 1, 4, .inl e1fb)), (e1c, .inl (E.2.1 1, 4, .inl e1fc)), (e1d, .inl (E.2.1 1, 16, .inl e1fd)), (e2, .inr (0, [.int (nI e2cs), .int (nI e2rcz_6), .ref e2a, .ref e2b, .ref e2c, .ref e2d])), (e2a, .inl (E.2.1 7, 4, .inr (.inr (.inr (.inr e2fi))))), (e2b, .inl (E.2.1 1, 4, .inl e2fb)), (e2c, .inl (E.2.1 1, 4, .inl e2fc)), (e2d, .inl (E.2.1 1, 16, .inl e2fd)), (e3, .inr (0, [.int (nI e3cs), .int (nI e3rcz_7), .ref e3a, .ref e3b, .ref e3c, .ref e3d])), (e3a, .inl (E.2.1 7, 4, .inr (.inr (.inr (.inr e3fi))))), (e3b, .inl (E.2.1 1, 4, .inl e3fb)), (e3c, .inl (E.2.1 1, 4, .inl e3fc)), (e3d, .inl (E.2.1 1, 16, .inl e3fd)), (la0, .inr (3, [.ref la0m, .int la0p, .int la0w, .ref la0c, .ref la0f, .ref la0q])), (la0c, .inl (E.2.1 1, 24, .inl la0fc)), (la0f, .inl (E.2.1 1, 24, .inl la0ff)), (la0q, .inl (E.2.1 1, 4, .inl la0fq)), (la0m, .inr (4, [.int (nI la0n), .int (nI la0r), .ref la0x, .ref la0y])), (la0x, .inl (E.2.1 1, 24, .inl la0gx)), (la0y, .inl (E.2.1 1, 96, .inl la0gy)), (la1, .inr (3, [.ref la1m, .int la1p, .int la1w, .ref la1c, .ref la1f, .ref la1q])), (la1c, .inl (E.2.1 1, 24, .inl la1fc)), (la1f, .inl (E.2.1 1, 24, .inl la1ff)), (la1q, .inl (E.2.1 1, 4, .inl la1fq)), (la1m, .inr (4, [.int (nI la1n), .int (nI la1r), .ref la1x, .ref la1y])), (la1x, .inl (E.2.1 1, 24, .inl la1gx)), (la1y, .inl (E.2.1 1, 96, .inl la1gy)), (jt, .inl (E.2.1 7, 8, .inr (.inr (.inr (.inr fto)))))]) [17, 18, 0, 19, 1, 20, 21, 22, 23, 24, 25, 26, 27, 28, 29, 30, 31, 32, 33, 34, 35, 36, 37, 38, 39, 2, 3, 4, 5, 6, 7, 8, 9, 10, 11, 12, 13, 14, 15, 16] (ndk (by decide +kernel)) (gqk (by eq_refl)) ?_
    exact kont rr (pick4 e0rcz_4 e1rcz_5 e2rcz_6 e3rcz_7) [(qj, .inr (2, [.ref jt, .ref je, .ref ju, .ref ja])), (ju, .inl (E.2.1 1, 32, .inl ft)), (je, .inl (E.2.1 4, 4, .inr (.inr (.inr (.inr fe))))), (ja, .inl (E.2.1 5, 2, .inr (.inr (.inr (.inr fa))))), (e0, .inr (0, [.int (nI e0cs), .int (nI e0rcz_4), .ref e0a, .ref e0b, .ref e0c, .ref e0d])), (e0a, .inl (E.2.1 7, 4, .inr (.inr (.inr (.inr e0fi))))), (e0b, .inl (E.2.1 1, 4, .inl e0fb)), (e0c, .inl (E.2.1 1, 4, .inl e0fc)), (e0d, .inl (E.2.1 1, 16, .inl e0fd)), (e1, .inr (0, [.int (nI e1cs), .int (nI e1rcz_5), .ref e1a, .ref e1b, .ref e1c, .ref e1d])), (e1a, .inl (E.2.1 7, 4, .inr (.inr (.inr (.inr e1fi))))), (e1b, .inl (E.2.1 1, 4, .inl e1fb)), (e1c, .inl (E.2.1 1, 4, .inl e1fc)), (e1d, .inl (E.2.1 1, 16, .inl e1fd)), (e2, .inr (0, [.int (nI e2cs), .int (nI e2rcz_6), .ref e2a, .ref e2b, .ref e2c, .ref e2d])), (e2a, .inl (E.2.1 7, 4, .inr (.inr (.inr (.inr e2fi))))), (e2b, .inl (E.2.1 1, 4, .inl e2fb)), (e2c, .inl (E.2.1 1, 4, .inl e2fc)), (e2d, .inl (E.2.1 1, 16, .inl e2fd)), (e3, .inr (0, [.int (nI e3cs), .int (nI e3rcz_7), .ref e3a, .ref e3b, .ref e3c, .ref e3d])), (e3a, .inl (E.2.1 7, 4, .inr (.inr (.inr (.inr e3fi))))), (e3b, .inl (E.2.1 1, 4, .inl e3fb)), (e3c, .inl (E.2.1 1, 4, .inl e3fc)), (e3d, .inl (E.2.1 1, 16, .inl e3fd)), (la0, .inr (3, [.ref la0m, .int la0p, .int la0w, .ref la0c, .ref la0f, .ref la0q])), (la0c, .inl (E.2.1 1, 24, .inl la0fc)), (la0f, .inl (E.2.1 1, 24, .inl la0ff)), (la0q, .inl (E.2.1 1, 4, .inl la0fq)), (la0m, .inr (4, [.int (nI la0n), .int (nI la0r), .ref la0x, .ref la0y])), (la0x, .inl (E.2.1 1, 24, .inl la0gx)), (la0y, .inl (E.2.1 1, 96, .inl la0gy)), (la1, .inr (3, [.ref la1m, .int la1p, .int la1w, .ref la1c, .ref la1f, .ref la1q])), (la1c, .inl (E.2.1 1, 24, .inl la1fc)), (la1f, .inl (E.2.1 1, 24, .inl la1ff)), (la1q, .inl (E.2.1 1, 4, .inl la1fq)), (la1m, .inr (4, [.int (nI la1n), .int (nI la1r), .ref la1x, .ref la1y])), (la1x, .inl (E.2.1 1, 24, .inl la1gx)), (la1y, .inl (E.2.1 1, 96, .inl la1gy)), (jt, .inl (E.2.1 7, 8, .inr (.inr (.inr (.inr fto)))))]  ⟨jt, je, ju, ja, ft, fe, e0, e1, e2, e3, fa, la0, la1, e0cs, e0rcz_4, e0a, e0b, e0c, e0d, e0fi, e0fb, e0fc, e0fd, e1cs, e1rcz_5, e1a, e1b, e1c, e1d, e1fi, e1fb, e1fc, e1fd, e2cs, e2rcz_6, e2a, e2b, e2c, e2d, e2fi, e2fb, e2fc, e2fd, e3cs, e3rcz_7, e3a, e3b, e3c, e3d, e3fi, e3fb, e3fc, e3fd, la0m, la0p, la0w, la0c, la0f, la0q, la0fc, la0ff, la0fq, la0n, la0r, la0x, la0y, la0gx, la0gy, la1m, la1p, la1w, la1c, la1f, la1q, la1fc, la1ff, la1fq, la1n, la1r, la1x, la1y, la1gx, la1gy, fto, e0T, e1T, e2T, e3T, rfl, k_fe_0, k_fe_1, k_fe_2, k_fe_3, k_fa_0, k_fa_1, (by first | assumption | omega), (by first | assumption | omega), he0fi, (by first | assumption | omega), (by first | assumption | omega), he1fi, (by first | assumption | omega), (by first | assumption | omega), he2fi, (by first | assumption | omega), (by first | assumption | omega), he3fi, (by first | assumption | omega), (by first | assumption | omega), (by first | assumption | omega), (by first | assumption | omega), hto, rfl, rfl, rfl, rfl, rfl, rfl⟩ (Or.inr (⟨_, _, h_12, h_13, h_14, h_15, h_16, h_17, h_18⟩))
theorem wc_X11_word : Cond.code yX11_word cX11_word 5 (some .int) ∈ TB := tbm (tq4 (List.mem_of_getElem? (i := 90) (rfl))) (by decide +kernel)
theorem wi_X11_word : Cond.instanceMethod yX11_word ∈ TB := tbm (tq4 (List.mem_of_getElem? (i := 88) (by decide +kernel))) (by decide +kernel)
theorem ws_X11_word : Cond.selects RX11 yX11_word yX11_word ∈ TB := tbm (tq4 (List.mem_of_getElem? (i := 89) (by decide +kernel))) (by decide +kernel)
theorem mi_X11_word : MI yX11_word cX11_word 5 (some .int) 4 := ⟨wc_X11_word, wn_X11, ⟨by decide +kernel, by decide +kernel, by decide +kernel⟩, wi_X11_word, ws_X11_word⟩
theorem wl_L_90 : Cond.methodLink RL 90 yX11_word ∈ TB := tbm (tq4 (List.mem_of_getElem? (i := 87) (by decide +kernel))) (by decide +kernel)
theorem dL_law_850 : decode cL_law 850 = .ok (.invokevirtual 90, 3) := dl_182 (by decide +kernel)
set_option maxRecDepth 100000 in
set_option maxHeartbeats 4000000 in
theorem lx_word {X : XT} {E : EV} {ro wT pre : va_W} {lv : List (Nat × Value)} {rest : List Value} {kC nC : Nat} {hx h qp qs qj ly qh kk rd pg ss : Nat} {ac np kc pe : Nat} {kn : Int32} {tT : Nat → Option SVal} {ec : Nat → Nat} {er : Nat → Nat} {ed : Nat → Nat → Int32} {eT : Nat → Nat → Option SVal} {eb : Nat → Nat → Int32} {en : Nat → Nat → Int32} {w_judg : va_W} {v0 : Int32} {v1 : Int32} {v2 : Int32} {v3 : Int32}  (C : CX X room_1 cL_law 4 RL ret E) (hW : Nat.ble (rest.map fun v => v.category).sum 8 = true) (hT : wT = pre ++ ro) (hk : kC + 0 ≤ 600000 ∧ nC + 0 ≤ 7302250) (hac : ac ≤ 8) (hnp : np < 8) (hkc : kc ≤ 4) (hpe : pe ≤ 4) (H_judg : ok_judg E ro qj tT ec er ed eT eb en w_judg) (kont : ∀ (rr : Int32) (ecZ : Nat → Nat) (erZ : Nat → Nat) (edZ : Nat → Nat → Int32) (eTZ : Nat → Nat → Option SVal) (ebZ : Nat → Nat → Int32) (enZ : Nat → Nat → Int32) (w_judgZ : va_W), ok_judg E ro qj tT ecZ erZ edZ eTZ ebZ enZ w_judgZ → (((v0.toInt < 0 ∨ 3 < v0.toInt ∨ v1.toInt < 0 ∨ 2 < v1.toInt ∨ ¬ PLN (sNs tT) v2 ∨ v3.toInt < 0 ∨ 15 < v3.toInt) ∧ rr = -1 ∧ ecZ = ec ∧ erZ = er ∧ edZ = ed ∧ eTZ = eT ∧ ebZ = eb ∧ enZ = en) ∨ ∃ k_ d_ : Nat, PLN (sNs tT) v2 ∧ v0 = nI k_ ∧ v1 = nI d_ ∧ k_ ≤ 3 ∧ d_ ≤ 2 ∧ (0 ≤ v3.toInt ∧ v3.toInt ≤ 15) ∧ (∀ i, i < 4 → ecZ i = if i = k_ then (if d_ = 0 then 1 else 2) else ec i) ∧ (∀ i, i < 4 → erZ i = if i = k_ then 0 else er i) ∧ (∀ i, i < 4 → i ≠ k_ → edZ i = ed i) ∧ ((d_ = 0 ∧ SAx 4 (edZ k_)) ∨ (d_ ≠ 0 ∧ SPx v3 4 (edZ k_))) ∧ rr = nI (if d_ = 0 then 1 else 2) ∧ (∀ i, i < 4 → i ≠ k_ → eTZ i = eT i) ∧ (∀ i, i < 4 → i ≠ k_ → ebZ i = eb i) ∧ (∀ i, i < 4 → i ≠ k_ → enZ i = en i) ∧ (∃ s_ : Nat, v2 = nI s_ ∧ s_ ≤ 7 ∧ (tT s_).isSome = true ∧ ∀ c, c < 4 → eTZ k_ c = if c = (if d_ = 2 then 1 else 0) then tT s_ else none) ∧ ∀ c, c < 4 → ebZ k_ c = 0 ∧ enZ k_ c = 0) → WW X 4 E 853 lv (.int rr :: rest) ([(hx, .inr (11, [.ref h, .ref qp, .int (nI ac), .int (nI np), .ref qs, .ref qj, .ref ly, .ref qh, .ref kk, .int (nI kc), .ref rd, .ref pg, .int (nI pe), .int kn, .ref ss]))] ++ (w_judgZ ++ wT)) kC nC) : WW X 4 E 850 lv (.int v3 :: .int v2 :: .int v1 :: .int v0 :: .ref hx :: rest) ([(hx, .inr (11, [.ref h, .ref qp, .int (nI ac), .int (nI np), .ref qs, .ref qj, .ref ly, .ref qh, .ref kk, .int (nI kc), .ref rd, .ref pg, .int (nI pe), .int kn, .ref ss]))] ++ (w_judg ++ wT)) kC nC := by
  unfold ok_judg at H_judg
  refine ex8 H_judg ?_
  clear H_judg
  intro jt je ju ja ft fe e0 e1 H_judg
  refine ex8 H_judg ?_
  clear H_judg
  intro e2 e3 fa la0 la1 e0cs e0rc e0a H_judg
  refine ex8 H_judg ?_
  clear H_judg
  intro e0b e0c e0d e0fi e0fb e0fc e0fd e1cs H_judg
  refine ex8 H_judg ?_
  clear H_judg
  intro e1rc e1a e1b e1c e1d e1fi e1fb e1fc H_judg
  refine ex8 H_judg ?_
  clear H_judg
  intro e1fd e2cs e2rc e2a e2b e2c e2d e2fi H_judg
  refine ex8 H_judg ?_
  clear H_judg
  intro e2fb e2fc e2fd e3cs e3rc e3a e3b e3c H_judg
  refine ex8 H_judg ?_
  clear H_judg
  intro e3d e3fi e3fb e3fc e3fd la0m la0p la0w H_judg
  refine ex8 H_judg ?_
  clear H_judg
  intro la0c la0f la0q la0fc la0ff la0fq la0n la0r H_judg
  refine ex8 H_judg ?_
  clear H_judg
  intro la0x la0y la0gx la0gy la1m la1p la1w la1c H_judg
  refine ex8 H_judg ?_
  clear H_judg
  intro la1f la1q la1fc la1ff la1fq la1n la1r la1x H_judg
  refine ex8 H_judg ?_
  clear H_judg
  intro la1y la1gx la1gy fto e0T e1T e2T e3T H_judg
  refine an8 H_judg ?_
  clear H_judg
  intro we_judg k_fe_0 k_fe_1 k_fe_2 k_fe_3 k_fa_0 k_fa_1 he0cs H_judg
  refine an8 H_judg ?_
  clear H_judg
  intro he0rc he0fi he1cs he1rc he1fi he2cs he2rc he2fi H_judg
  refine an8 H_judg ?_
  clear H_judg
  intro he3cs he3rc he3fi hla0n hla0r hla1n hla1r hto H_judg
  refine an5 H_judg ?_
  clear H_judg
  intro hec her hed heT heb H_judg
  have hen := H_judg
  clear H_judg
  subst we_judg
  subst hec
  subst her
  subst hed
  subst heT
  subst heb
  subst hen
  refine ww_eq (ws' := [(hx, .inr (11, [.ref h, .ref qp, .int (nI ac), .int (nI np), .ref qs, .ref qj, .ref ly, .ref qh, .ref kk, .int (nI kc), .ref rd, .ref pg, .int (nI pe), .int kn, .ref ss])), (qj, .inr (2, [.ref jt, .ref je, .ref ju, .ref ja])), (ju, .inl (E.2.1 1, 32, .inl ft)), (je, .inl (E.2.1 4, 4, .inr (.inr (.inr (.inr fe))))), (ja, .inl (E.2.1 5, 2, .inr (.inr (.inr (.inr fa))))), (e0, .inr (0, [.int (nI e0cs), .int (nI e0rc), .ref e0a, .ref e0b, .ref e0c, .ref e0d])), (e0a, .inl (E.2.1 7, 4, .inr (.inr (.inr (.inr e0fi))))), (e0b, .inl (E.2.1 1, 4, .inl e0fb)), (e0c, .inl (E.2.1 1, 4, .inl e0fc)), (e0d, .inl (E.2.1 1, 16, .inl e0fd)), (e1, .inr (0, [.int (nI e1cs), .int (nI e1rc), .ref e1a, .ref e1b, .ref e1c, .ref e1d])), (e1a, .inl (E.2.1 7, 4, .inr (.inr (.inr (.inr e1fi))))), (e1b, .inl (E.2.1 1, 4, .inl e1fb)), (e1c, .inl (E.2.1 1, 4, .inl e1fc)), (e1d, .inl (E.2.1 1, 16, .inl e1fd)), (e2, .inr (0, [.int (nI e2cs), .int (nI e2rc), .ref e2a, .ref e2b, .ref e2c, .ref e2d])), (e2a, .inl (E.2.1 7, 4, .inr (.inr (.inr (.inr e2fi))))), (e2b, .inl (E.2.1 1, 4, .inl e2fb)), (e2c, .inl (E.2.1 1, 4, .inl e2fc)), (e2d, .inl (E.2.1 1, 16, .inl e2fd)), (e3, .inr (0, [.int (nI e3cs), .int (nI e3rc), .ref e3a, .ref e3b, .ref e3c, .ref e3d])), (e3a, .inl (E.2.1 7, 4, .inr (.inr (.inr (.inr e3fi))))), (e3b, .inl (E.2.1 1, 4, .inl e3fb)), (e3c, .inl (E.2.1 1, 4, .inl e3fc)), (e3d, .inl (E.2.1 1, 16, .inl e3fd)), (la0, .inr (3, [.ref la0m, .int la0p, .int la0w, .ref la0c, .ref la0f, .ref la0q])), (la0c, .inl (E.2.1 1, 24, .inl la0fc)), (la0f, .inl (E.2.1 1, 24, .inl la0ff)), (la0q, .inl (E.2.1 1, 4, .inl la0fq)), (la0m, .inr (4, [.int (nI la0n), .int (nI la0r), .ref la0x, .ref la0y])), (la0x, .inl (E.2.1 1, 24, .inl la0gx)), (la0y, .inl (E.2.1 1, 96, .inl la0gy)), (la1, .inr (3, [.ref la1m, .int la1p, .int la1w, .ref la1c, .ref la1f, .ref la1q])), (la1c, .inl (E.2.1 1, 24, .inl la1fc)), (la1f, .inl (E.2.1 1, 24, .inl la1ff)), (la1q, .inl (E.2.1 1, 4, .inl la1fq)), (la1m, .inr (4, [.int (nI la1n), .int (nI la1r), .ref la1x, .ref la1y])), (la1x, .inl (E.2.1 1, 24, .inl la1gx)), (la1y, .inl (E.2.1 1, 96, .inl la1gy)), (jt, .inl (E.2.1 7, 8, .inr (.inr (.inr (.inr fto)))))] ++ wT) ?_ rfl rfl rfl
  refine ww_ciT (k' := kC) (n' := nC) (wr := [(ju, .inl (E.2.1 1, 32, .inl ft)), (ja, .inl (E.2.1 5, 2, .inr (.inr (.inr (.inr fa))))), (la0, .inr (3, [.ref la0m, .int la0p, .int la0w, .ref la0c, .ref la0f, .ref la0q])), (la0c, .inl (E.2.1 1, 24, .inl la0fc)), (la0f, .inl (E.2.1 1, 24, .inl la0ff)), (la0q, .inl (E.2.1 1, 4, .inl la0fq)), (la0m, .inr (4, [.int (nI la0n), .int (nI la0r), .ref la0x, .ref la0y])), (la0x, .inl (E.2.1 1, 24, .inl la0gx)), (la0y, .inl (E.2.1 1, 96, .inl la0gy)), (la1, .inr (3, [.ref la1m, .int la1p, .int la1w, .ref la1c, .ref la1f, .ref la1q])), (la1c, .inl (E.2.1 1, 24, .inl la1fc)), (la1f, .inl (E.2.1 1, 24, .inl la1ff)), (la1q, .inl (E.2.1 1, 4, .inl la1fq)), (la1m, .inr (4, [.int (nI la1n), .int (nI la1r), .ref la1x, .ref la1y])), (la1x, .inl (E.2.1 1, 24, .inl la1gx)), (la1y, .inl (E.2.1 1, 96, .inl la1gy))]) C (run_V (As := [.int v0, .int v1, .int v2, .int v3]) (rest := rest) C (x_word X.2.1 E ro hx v0 v1 v2 v3 h qp ac np qs qj ly qh kk kc rd pg pe kn ss jt je ju ja fe e0 e1 e2 e3 fto e0cs e0rc e0a e0b e0c e0d e0fi e0fb e0fc e0fd e1cs e1rc e1a e1b e1c e1d e1fi e1fb e1fc e1fd e2cs e2rc e2a e2b e2c e2d e2fi e2fb e2fc e2fd e3cs e3rc e3a e3b e3c e3d e3fi e3fb e3fc e3fd tT e0T e1T e2T e3T k_fe_0 k_fe_1 k_fe_2 k_fe_3 (by first | assumption | omega) (by first | assumption | omega) (by first | assumption | omega) (by first | assumption | omega) hto (by first | assumption | omega) (by first | assumption | omega) he0fi (by first | assumption | omega) (by first | assumption | omega) he1fi (by first | assumption | omega) (by first | assumption | omega) he2fi (by first | assumption | omega) (by first | assumption | omega) he3fi) mi_X11_word wl_L_90 rfl 0 11 rfl rfl rfl rfl hW dL_law_850) (roT (pre := pre) [0, 1, 3, 39, 5, 6, 7, 8, 9, 10, 11, 12, 13, 14, 15, 16, 17, 18, 19, 20, 21, 22, 23, 24] rfl hT) [0, 1, 3, 39, 5, 6, 7, 8, 9, 10, 11, 12, 13, 14, 15, 16, 17, 18, 19, 20, 21, 22, 23, 24] [2, 4, 25, 26, 27, 28, 29, 30, 31, 32, 33, 34, 35, 36, 37, 38] (gqk (by eq_refl)) (gqk (by eq_refl)) (plk (by decide +kernel)) ⟨by omega, by omega, hk.1, hk.2⟩ (fun rr u hw => ?_)
  rcases hw with hw | hw | hw
  · refine an2 hw ?_
    clear hw
    intro he_r he_u hw
    have h_1 := hw
    clear hw
    have he_r := he_r.symm
    subst he_r
    subst he_u
    refine ww_subT (w1 := [(hx, .inr (11, [.ref h, .ref qp, .int (nI ac), .int (nI np), .ref qs, .ref qj, .ref ly, .ref qh, .ref kk, .int (nI kc), .ref rd, .ref pg, .int (nI pe), .int kn, .ref ss])), (qj, .inr (2, [.ref jt, .ref je, .ref ju, .ref ja])), (ju, .inl (E.2.1 1, 32, .inl ft)), (je, .inl (E.2.1 4, 4, .inr (.inr (.inr (.inr fe))))), (ja, .inl (E.2.1 5, 2, .inr (.inr (.inr (.inr fa))))), (e0, .inr (0, [.int (nI e0cs), .int (nI e0rc), .ref e0a, .ref e0b, .ref e0c, .ref e0d])), (e0a, .inl (E.2.1 7, 4, .inr (.inr (.inr (.inr e0fi))))), (e0b, .inl (E.2.1 1, 4, .inl e0fb)), (e0c, .inl (E.2.1 1, 4, .inl e0fc)), (e0d, .inl (E.2.1 1, 16, .inl e0fd)), (e1, .inr (0, [.int (nI e1cs), .int (nI e1rc), .ref e1a, .ref e1b, .ref e1c, .ref e1d])), (e1a, .inl (E.2.1 7, 4, .inr (.inr (.inr (.inr e1fi))))), (e1b, .inl (E.2.1 1, 4, .inl e1fb)), (e1c, .inl (E.2.1 1, 4, .inl e1fc)), (e1d, .inl (E.2.1 1, 16, .inl e1fd)), (e2, .inr (0, [.int (nI e2cs), .int (nI e2rc), .ref e2a, .ref e2b, .ref e2c, .ref e2d])), (e2a, .inl (E.2.1 7, 4, .inr (.inr (.inr (.inr e2fi))))), (e2b, .inl (E.2.1 1, 4, .inl e2fb)), (e2c, .inl (E.2.1 1, 4, .inl e2fc)), (e2d, .inl (E.2.1 1, 16, .inl e2fd)), (e3, .inr (0, [.int (nI e3cs), .int (nI e3rc), .ref e3a, .ref e3b, .ref e3c, .ref e3d])), (e3a, .inl (E.2.1 7, 4, .inr (.inr (.inr (.inr e3fi))))), (e3b, .inl (E.2.1 1, 4, .inl e3fb)), (e3c, .inl (E.2.1 1, 4, .inl e3fc)), (e3d, .inl (E.2.1 1, 16, .inl e3fd)), (la0, .inr (3, [.ref la0m, .int la0p, .int la0w, .ref la0c, .ref la0f, .ref la0q])), (la0c, .inl (E.2.1 1, 24, .inl la0fc)), (la0f, .inl (E.2.1 1, 24, .inl la0ff)), (la0q, .inl (E.2.1 1, 4, .inl la0fq)), (la0m, .inr (4, [.int (nI la0n), .int (nI la0r), .ref la0x, .ref la0y])), (la0x, .inl (E.2.1 1, 24, .inl la0gx)), (la0y, .inl (E.2.1 1, 96, .inl la0gy)), (la1, .inr (3, [.ref la1m, .int la1p, .int la1w, .ref la1c, .ref la1f, .ref la1q])), (la1c, .inl (E.2.1 1, 24, .inl la1fc)), (la1f, .inl (E.2.1 1, 24, .inl la1ff)), (la1q, .inl (E.2.1 1, 4, .inl la1fq)), (la1m, .inr (4, [.int (nI la1n), .int (nI la1r), .ref la1x, .ref la1y])), (la1x, .inl (E.2.1 1, 24, .inl la1gx)), (la1y, .inl (E.2.1 1, 96, .inl la1gy)), (jt, .inl (E.2.1 7, 8, .inr (.inr (.inr (.inr fto)))))]) [16, 17, 0, 18, 1, 20, 21, 22, 23, 24, 25, 26, 27, 28, 29, 30, 31, 32, 33, 34, 35, 36, 37, 38, 39, 2, 3, 4, 5, 6, 7, 8, 9, 10, 11, 12, 13, 14, 15, 19] (ndk (by decide +kernel)) (gqk (by eq_refl)) ?_
    exact kont (-1) (pick4 e0cs e1cs e2cs e3cs) (pick4 e0rc e1rc e2rc e3rc) (pick4 e0fd e1fd e2fd e3fd) (pick4 e0T e1T e2T e3T) (pick4 e0fb e1fb e2fb e3fb) (pick4 e0fc e1fc e2fc e3fc) [(qj, .inr (2, [.ref jt, .ref je, .ref ju, .ref ja])), (ju, .inl (E.2.1 1, 32, .inl ft)), (je, .inl (E.2.1 4, 4, .inr (.inr (.inr (.inr fe))))), (ja, .inl (E.2.1 5, 2, .inr (.inr (.inr (.inr fa))))), (e0, .inr (0, [.int (nI e0cs), .int (nI e0rc), .ref e0a, .ref e0b, .ref e0c, .ref e0d])), (e0a, .inl (E.2.1 7, 4, .inr (.inr (.inr (.inr e0fi))))), (e0b, .inl (E.2.1 1, 4, .inl e0fb)), (e0c, .inl (E.2.1 1, 4, .inl e0fc)), (e0d, .inl (E.2.1 1, 16, .inl e0fd)), (e1, .inr (0, [.int (nI e1cs), .int (nI e1rc), .ref e1a, .ref e1b, .ref e1c, .ref e1d])), (e1a, .inl (E.2.1 7, 4, .inr (.inr (.inr (.inr e1fi))))), (e1b, .inl (E.2.1 1, 4, .inl e1fb)), (e1c, .inl (E.2.1 1, 4, .inl e1fc)), (e1d, .inl (E.2.1 1, 16, .inl e1fd)), (e2, .inr (0, [.int (nI e2cs), .int (nI e2rc), .ref e2a, .ref e2b, .ref e2c, .ref e2d])), (e2a, .inl (E.2.1 7, 4, .inr (.inr (.inr (.inr e2fi))))), (e2b, .inl (E.2.1 1, 4, .inl e2fb)), (e2c, .inl (E.2.1 1, 4, .inl e2fc)), (e2d, .inl (E.2.1 1, 16, .inl e2fd)), (e3, .inr (0, [.int (nI e3cs), .int (nI e3rc), .ref e3a, .ref e3b, .ref e3c, .ref e3d])), (e3a, .inl (E.2.1 7, 4, .inr (.inr (.inr (.inr e3fi))))), (e3b, .inl (E.2.1 1, 4, .inl e3fb)), (e3c, .inl (E.2.1 1, 4, .inl e3fc)), (e3d, .inl (E.2.1 1, 16, .inl e3fd)), (la0, .inr (3, [.ref la0m, .int la0p, .int la0w, .ref la0c, .ref la0f, .ref la0q])), (la0c, .inl (E.2.1 1, 24, .inl la0fc)), (la0f, .inl (E.2.1 1, 24, .inl la0ff)), (la0q, .inl (E.2.1 1, 4, .inl la0fq)), (la0m, .inr (4, [.int (nI la0n), .int (nI la0r), .ref la0x, .ref la0y])), (la0x, .inl (E.2.1 1, 24, .inl la0gx)), (la0y, .inl (E.2.1 1, 96, .inl la0gy)), (la1, .inr (3, [.ref la1m, .int la1p, .int la1w, .ref la1c, .ref la1f, .ref la1q])), (la1c, .inl (E.2.1 1, 24, .inl la1fc)), (la1f, .inl (E.2.1 1, 24, .inl la1ff)), (la1q, .inl (E.2.1 1, 4, .inl la1fq)), (la1m, .inr (4, [.int (nI la1n), .int (nI la1r), .ref la1x, .ref la1y])), (la1x, .inl (E.2.1 1, 24, .inl la1gx)), (la1y, .inl (E.2.1 1, 96, .inl la1gy)), (jt, .inl (E.2.1 7, 8, .inr (.inr (.inr (.inr fto)))))]  ⟨jt, je, ju, ja, ft, fe, e0, e1, e2, e3, fa, la0, la1, e0cs, e0rc, e0a, e0b, e0c, e0d, e0fi, e0fb, e0fc, e0fd, e1cs, e1rc, e1a, e1b, e1c, e1d, e1fi, e1fb, e1fc, e1fd, e2cs, e2rc, e2a, e2b, e2c, e2d, e2fi, e2fb, e2fc, e2fd, e3cs, e3rc, e3a, e3b, e3c, e3d, e3fi, e3fb, e3fc, e3fd, la0m, la0p, la0w, la0c, la0f, la0q, la0fc, la0ff, la0fq, la0n, la0r, la0x, la0y, la0gx, la0gy, la1m, la1p, la1w, la1c, la1f, la1q, la1fc, la1ff, la1fq, la1n, la1r, la1x, la1y, la1gx, la1gy, fto, e0T, e1T, e2T, e3T, rfl, k_fe_0, k_fe_1, k_fe_2, k_fe_3, k_fa_0, k_fa_1, (by first | assumption | omega), (by first | assumption | omega), he0fi, (by first | assumption | omega), (by first | assumption | omega), he1fi, (by first | assumption | omega), (by first | assumption | omega), he2fi, (by first | assumption | omega), (by first | assumption | omega), he3fi, (by first | assumption | omega), (by first | assumption | omega), (by first | assumption | omega), (by first | assumption | omega), hto, rfl, rfl, rfl, rfl, rfl, rfl⟩ (Or.inl ⟨h_1, rfl, rfl, rfl, rfl, rfl, rfl, rfl⟩)
  · refine ex8 hw ?_
    clear hw
    intro k__2 d__3 e0csz_4 e0rcz_5 e0fiz_6 e0fbz_7 e0fcz_8 e0fdz_9 hw
    refine ex8 hw ?_
    clear hw
    intro e0Tz_10 e1csz_11 e1rcz_12 e1fiz_13 e1fbz_14 e1fcz_15 e1fdz_16 e1Tz_17 hw
    refine ex8 hw ?_
    clear hw
    intro e2csz_18 e2rcz_19 e2fiz_20 e2fbz_21 e2fcz_22 e2fdz_23 e2Tz_24 e3csz_25 hw
    refine ex6 hw ?_
    clear hw
    intro e3rcz_26 e3fiz_27 e3fbz_28 e3fcz_29 e3fdz_30 e3Tz_31 hw
    refine an8 hw ?_
    clear hw
    intro he_r he_u h_32 h_33 h_34 h_35 h_36 h_37 hw
    refine an8 hw ?_
    clear hw
    intro h_38 h_39 h_40 h_41 h_42 h_43 h_44 h_45 hw
    refine an8 hw ?_
    clear hw
    intro h_46 h_47 h_48 h_49 h_50 h_51 h_52 h_53 hw
    refine an5 hw ?_
    clear hw
    intro h_54 h_55 h_56 h_57 h_58 hw
    have h_59 := hw
    clear hw
    have he_r := he_r.symm
    subst he_r
    subst he_u
    refine ww_subT (w1 := [(hx, .inr (11, [.ref h, .ref qp, .int (nI ac), .int (nI np), .ref qs, .ref qj, .ref ly, .ref qh, .ref kk, .int (nI kc), .ref rd, .ref pg, .int (nI pe), .int kn, .ref ss])), (qj, .inr (2, [.ref jt, .ref je, .ref ju, .ref ja])), (ju, .inl (E.2.1 1, 32, .inl ft)), (je, .inl (E.2.1 4, 4, .inr (.inr (.inr (.inr fe))))), (ja, .inl (E.2.1 5, 2, .inr (.inr (.inr (.inr fa))))), (e0, .inr (0, [.int (nI e0csz_4), .int (nI e0rcz_5), .ref e0a, .ref e0b, .ref e0c, .ref e0d])), (e0a, .inl (E.2.1 7, 4, .inr (.inr (.inr (.inr e0fiz_6))))), (e0b, .inl (E.2.1 1, 4, .inl e0fbz_7)), (e0c, .inl (E.2.1 1, 4, .inl e0fcz_8)), (e0d, .inl (E.2.1 1, 16, .inl e0fdz_9)), (e1, .inr (0, [.int (nI e1csz_11), .int (nI e1rcz_12), .ref e1a, .ref e1b, .ref e1c, .ref e1d])), (e1a, .inl (E.2.1 7, 4, .inr (.inr (.inr (.inr e1fiz_13))))), (e1b, .inl (E.2.1 1, 4, .inl e1fbz_14)), (e1c, .inl (E.2.1 1, 4, .inl e1fcz_15)), (e1d, .inl (E.2.1 1, 16, .inl e1fdz_16)), (e2, .inr (0, [.int (nI e2csz_18), .int (nI e2rcz_19), .ref e2a, .ref e2b, .ref e2c, .ref e2d])), (e2a, .inl (E.2.1 7, 4, .inr (.inr (.inr (.inr e2fiz_20))))), (e2b, .inl (E.2.1 1, 4, .inl e2fbz_21)), (e2c, .inl (E.2.1 1, 4, .inl e2fcz_22)), (e2d, .inl (E.2.1 1, 16, .inl e2fdz_23)), (e3, .inr (0, [.int (nI e3csz_25), .int (nI e3rcz_26), .ref e3a, .ref e3b, .ref e3c, .ref e3d])), (e3a, .inl (E.2.1 7, 4, .inr (.inr (.inr (.inr e3fiz_27))))), (e3b, .inl (E.2.1 1, 4, .inl e3fbz_28)), (e3c, .inl (E.2.1 1, 4, .inl e3fcz_29)), (e3d, .inl (E.2.1 1, 16, .inl e3fdz_30)), (la0, .inr (3, [.ref la0m, .int la0p, .int la0w, .ref la0c, .ref la0f, .ref la0q])), (la0c, .inl (E.2.1 1, 24, .inl la0fc)), (la0f, .inl (E.2.1 1, 24, .inl la0ff)), (la0q, .inl (E.2.1 1, 4, .inl la0fq)), (la0m, .inr (4, [.int (nI la0n), .int (nI la0r), .ref la0x, .ref la0y])), (la0x, .inl (E.2.1 1, 24, .inl la0gx)), (la0y, .inl (E.2.1 1, 96, .inl la0gy)), (la1, .inr (3, [.ref la1m, .int la1p, .int la1w, .ref la1c, .ref la1f, .ref la1q])), (la1c, .inl (E.2.1 1, 24, .inl la1fc)), (la1f, .inl (E.2.1 1, 24, .inl la1ff)), (la1q, .inl (E.2.1 1, 4, .inl la1fq)), (la1m, .inr (4, [.int (nI la1n), .int (nI la1r), .ref la1x, .ref la1y])), (la1x, .inl (E.2.1 1, 24, .inl la1gx)), (la1y, .inl (E.2.1 1, 96, .inl la1gy)), (jt, .inl (E.2.1 7, 8, .inr (.inr (.inr (.inr fto)))))]) [16, 17, 0, 18, 1, 20, 21, 22, 23, 24, 25, 26, 27, 28, 29, 30, 31, 32, 33, 34, 35, 36, 37, 38, 39, 2, 3, 4, 5, 6, 7, 8, 9, 10, 11, 12, 13, 14, 15, 19] (ndk (by decide +kernel)) (gqk (by eq_refl)) ?_
    exact kont (1) (pick4 e0csz_4 e1csz_11 e2csz_18 e3csz_25) (pick4 e0rcz_5 e1rcz_12 e2rcz_19 e3rcz_26) (pick4 e0fdz_9 e1fdz_16 e2fdz_23 e3fdz_30) (pick4 e0Tz_10 e1Tz_17 e2Tz_24 e3Tz_31) (pick4 e0fbz_7 e1fbz_14 e2fbz_21 e3fbz_28) (pick4 e0fcz_8 e1fcz_15 e2fcz_22 e3fcz_29) [(qj, .inr (2, [.ref jt, .ref je, .ref ju, .ref ja])), (ju, .inl (E.2.1 1, 32, .inl ft)), (je, .inl (E.2.1 4, 4, .inr (.inr (.inr (.inr fe))))), (ja, .inl (E.2.1 5, 2, .inr (.inr (.inr (.inr fa))))), (e0, .inr (0, [.int (nI e0csz_4), .int (nI e0rcz_5), .ref e0a, .ref e0b, .ref e0c, .ref e0d])), (e0a, .inl (E.2.1 7, 4, .inr (.inr (.inr (.inr e0fiz_6))))), (e0b, .inl (E.2.1 1, 4, .inl e0fbz_7)), (e0c, .inl (E.2.1 1, 4, .inl e0fcz_8)), (e0d, .inl (E.2.1 1, 16, .inl e0fdz_9)), (e1, .inr (0, [.int (nI e1csz_11), .int (nI e1rcz_12), .ref e1a, .ref e1b, .ref e1c, .ref e1d])), (e1a, .inl (E.2.1 7, 4, .inr (.inr (.inr (.inr e1fiz_13))))), (e1b, .inl (E.2.1 1, 4, .inl e1fbz_14)), (e1c, .inl (E.2.1 1, 4, .inl e1fcz_15)), (e1d, .inl (E.2.1 1, 16, .inl e1fdz_16)), (e2, .inr (0, [.int (nI e2csz_18), .int (nI e2rcz_19), .ref e2a, .ref e2b, .ref e2c, .ref e2d])), (e2a, .inl (E.2.1 7, 4, .inr (.inr (.inr (.inr e2fiz_20))))), (e2b, .inl (E.2.1 1, 4, .inl e2fbz_21)), (e2c, .inl (E.2.1 1, 4, .inl e2fcz_22)), (e2d, .inl (E.2.1 1, 16, .inl e2fdz_23)), (e3, .inr (0, [.int (nI e3csz_25), .int (nI e3rcz_26), .ref e3a, .ref e3b, .ref e3c, .ref e3d])), (e3a, .inl (E.2.1 7, 4, .inr (.inr (.inr (.inr e3fiz_27))))), (e3b, .inl (E.2.1 1, 4, .inl e3fbz_28)), (e3c, .inl (E.2.1 1, 4, .inl e3fcz_29)), (e3d, .inl (E.2.1 1, 16, .inl e3fdz_30)), (la0, .inr (3, [.ref la0m, .int la0p, .int la0w, .ref la0c, .ref la0f, .ref la0q])), (la0c, .inl (E.2.1 1, 24, .inl la0fc)), (la0f, .inl (E.2.1 1, 24, .inl la0ff)), (la0q, .inl (E.2.1 1, 4, .inl la0fq)), (la0m, .inr (4, [.int (nI la0n), .int (nI la0r), .ref la0x, .ref la0y])), (la0x, .inl (E.2.1 1, 24, .inl la0gx)), (la0y, .inl (E.2.1 1, 96, .inl la0gy)), (la1, .inr (3, [.ref la1m, .int la1p, .int la1w, .ref la1c, .ref la1f, .ref la1q])), (la1c, .inl (E.2.1 1, 24, .inl la1fc)), (la1f, .inl (E.2.1 1, 24, .inl la1ff)), (la1q, .inl (E.2.1 1, 4, .inl la1fq)), (la1m, .inr (4, [.int (nI la1n), .int (nI la1r), .ref la1x, .ref la1y])), (la1x, .inl (E.2.1 1, 24, .inl la1gx)), (la1y, .inl (E.2.1 1, 96, .inl la1gy)), (jt, .inl (E.2.1 7, 8, .inr (.inr (.inr (.inr fto)))))]  ⟨jt, je, ju, ja, ft, fe, e0, e1, e2, e3, fa, la0, la1, e0csz_4, e0rcz_5, e0a, e0b, e0c, e0d, e0fiz_6, e0fbz_7, e0fcz_8, e0fdz_9, e1csz_11, e1rcz_12, e1a, e1b, e1c, e1d, e1fiz_13, e1fbz_14, e1fcz_15, e1fdz_16, e2csz_18, e2rcz_19, e2a, e2b, e2c, e2d, e2fiz_20, e2fbz_21, e2fcz_22, e2fdz_23, e3csz_25, e3rcz_26, e3a, e3b, e3c, e3d, e3fiz_27, e3fbz_28, e3fcz_29, e3fdz_30, la0m, la0p, la0w, la0c, la0f, la0q, la0fc, la0ff, la0fq, la0n, la0r, la0x, la0y, la0gx, la0gy, la1m, la1p, la1w, la1c, la1f, la1q, la1fc, la1ff, la1fq, la1n, la1r, la1x, la1y, la1gx, la1gy, fto, e0Tz_10, e1Tz_17, e2Tz_24, e3Tz_31, rfl, k_fe_0, k_fe_1, k_fe_2, k_fe_3, k_fa_0, k_fa_1, (by first | assumption | omega), (by first | assumption | omega), h_34, (by first | assumption | omega), (by first | assumption | omega), h_37, (by first | assumption | omega), (by first | assumption | omega), h_40, (by first | assumption | omega), (by first | assumption | omega), h_43, (by first | assumption | omega), (by first | assumption | omega), (by first | assumption | omega), (by first | assumption | omega), hto, rfl, rfl, rfl, rfl, rfl, rfl⟩ (Or.inr (⟨_, _, h_44, h_45, h_46, h_47, h_48, h_49, (fun i hi => (h_50 i hi).trans (by rw [if_pos h_59])), h_51, h_55, h_58, (by rw [if_pos h_59]; rfl), h_52, h_53, h_54, h_56, h_57⟩))
  · refine ex8 hw ?_
    clear hw
    intro k__60 d__61 e0csz_62 e0rcz_63 e0fiz_64 e0fbz_65 e0fcz_66 e0fdz_67 hw
    refine ex8 hw ?_
    clear hw
    intro e0Tz_68 e1csz_69 e1rcz_70 e1fiz_71 e1fbz_72 e1fcz_73 e1fdz_74 e1Tz_75 hw
    refine ex8 hw ?_
    clear hw
    intro e2csz_76 e2rcz_77 e2fiz_78 e2fbz_79 e2fcz_80 e2fdz_81 e2Tz_82 e3csz_83 hw
    refine ex6 hw ?_
    clear hw
    intro e3rcz_84 e3fiz_85 e3fbz_86 e3fcz_87 e3fdz_88 e3Tz_89 hw
    refine an8 hw ?_
    clear hw
    intro he_r he_u h_90 h_91 h_92 h_93 h_94 h_95 hw
    refine an8 hw ?_
    clear hw
    intro h_96 h_97 h_98 h_99 h_100 h_101 h_102 h_103 hw
    refine an8 hw ?_
    clear hw
    intro h_104 h_105 h_106 h_107 h_108 h_109 h_110 h_111 hw
    refine an5 hw ?_
    clear hw
    intro h_112 h_113 h_114 h_115 h_116 hw
    have h_117 := hw
    clear hw
    have he_r := he_r.symm
    subst he_r
    subst he_u
    refine ww_subT (w1 := [(hx, .inr (11, [.ref h, .ref qp, .int (nI ac), .int (nI np), .ref qs, .ref qj, .ref ly, .ref qh, .ref kk, .int (nI kc), .ref rd, .ref pg, .int (nI pe), .int kn, .ref ss])), (qj, .inr (2, [.ref jt, .ref je, .ref ju, .ref ja])), (ju, .inl (E.2.1 1, 32, .inl ft)), (je, .inl (E.2.1 4, 4, .inr (.inr (.inr (.inr fe))))), (ja, .inl (E.2.1 5, 2, .inr (.inr (.inr (.inr fa))))), (e0, .inr (0, [.int (nI e0csz_62), .int (nI e0rcz_63), .ref e0a, .ref e0b, .ref e0c, .ref e0d])), (e0a, .inl (E.2.1 7, 4, .inr (.inr (.inr (.inr e0fiz_64))))), (e0b, .inl (E.2.1 1, 4, .inl e0fbz_65)), (e0c, .inl (E.2.1 1, 4, .inl e0fcz_66)), (e0d, .inl (E.2.1 1, 16, .inl e0fdz_67)), (e1, .inr (0, [.int (nI e1csz_69), .int (nI e1rcz_70), .ref e1a, .ref e1b, .ref e1c, .ref e1d])), (e1a, .inl (E.2.1 7, 4, .inr (.inr (.inr (.inr e1fiz_71))))), (e1b, .inl (E.2.1 1, 4, .inl e1fbz_72)), (e1c, .inl (E.2.1 1, 4, .inl e1fcz_73)), (e1d, .inl (E.2.1 1, 16, .inl e1fdz_74)), (e2, .inr (0, [.int (nI e2csz_76), .int (nI e2rcz_77), .ref e2a, .ref e2b, .ref e2c, .ref e2d])), (e2a, .inl (E.2.1 7, 4, .inr (.inr (.inr (.inr e2fiz_78))))), (e2b, .inl (E.2.1 1, 4, .inl e2fbz_79)), (e2c, .inl (E.2.1 1, 4, .inl e2fcz_80)), (e2d, .inl (E.2.1 1, 16, .inl e2fdz_81)), (e3, .inr (0, [.int (nI e3csz_83), .int (nI e3rcz_84), .ref e3a, .ref e3b, .ref e3c, .ref e3d])), (e3a, .inl (E.2.1 7, 4, .inr (.inr (.inr (.inr e3fiz_85))))), (e3b, .inl (E.2.1 1, 4, .inl e3fbz_86)), (e3c, .inl (E.2.1 1, 4, .inl e3fcz_87)), (e3d, .inl (E.2.1 1, 16, .inl e3fdz_88)), (la0, .inr (3, [.ref la0m, .int la0p, .int la0w, .ref la0c, .ref la0f, .ref la0q])), (la0c, .inl (E.2.1 1, 24, .inl la0fc)), (la0f, .inl (E.2.1 1, 24, .inl la0ff)), (la0q, .inl (E.2.1 1, 4, .inl la0fq)), (la0m, .inr (4, [.int (nI la0n), .int (nI la0r), .ref la0x, .ref la0y])), (la0x, .inl (E.2.1 1, 24, .inl la0gx)), (la0y, .inl (E.2.1 1, 96, .inl la0gy)), (la1, .inr (3, [.ref la1m, .int la1p, .int la1w, .ref la1c, .ref la1f, .ref la1q])), (la1c, .inl (E.2.1 1, 24, .inl la1fc)), (la1f, .inl (E.2.1 1, 24, .inl la1ff)), (la1q, .inl (E.2.1 1, 4, .inl la1fq)), (la1m, .inr (4, [.int (nI la1n), .int (nI la1r), .ref la1x, .ref la1y])), (la1x, .inl (E.2.1 1, 24, .inl la1gx)), (la1y, .inl (E.2.1 1, 96, .inl la1gy)), (jt, .inl (E.2.1 7, 8, .inr (.inr (.inr (.inr fto)))))]) [16, 17, 0, 18, 1, 20, 21, 22, 23, 24, 25, 26, 27, 28, 29, 30, 31, 32, 33, 34, 35, 36, 37, 38, 39, 2, 3, 4, 5, 6, 7, 8, 9, 10, 11, 12, 13, 14, 15, 19] (ndk (by decide +kernel)) (gqk (by eq_refl)) ?_
    exact kont (2) (pick4 e0csz_62 e1csz_69 e2csz_76 e3csz_83) (pick4 e0rcz_63 e1rcz_70 e2rcz_77 e3rcz_84) (pick4 e0fdz_67 e1fdz_74 e2fdz_81 e3fdz_88) (pick4 e0Tz_68 e1Tz_75 e2Tz_82 e3Tz_89) (pick4 e0fbz_65 e1fbz_72 e2fbz_79 e3fbz_86) (pick4 e0fcz_66 e1fcz_73 e2fcz_80 e3fcz_87) [(qj, .inr (2, [.ref jt, .ref je, .ref ju, .ref ja])), (ju, .inl (E.2.1 1, 32, .inl ft)), (je, .inl (E.2.1 4, 4, .inr (.inr (.inr (.inr fe))))), (ja, .inl (E.2.1 5, 2, .inr (.inr (.inr (.inr fa))))), (e0, .inr (0, [.int (nI e0csz_62), .int (nI e0rcz_63), .ref e0a, .ref e0b, .ref e0c, .ref e0d])), (e0a, .inl (E.2.1 7, 4, .inr (.inr (.inr (.inr e0fiz_64))))), (e0b, .inl (E.2.1 1, 4, .inl e0fbz_65)), (e0c, .inl (E.2.1 1, 4, .inl e0fcz_66)), (e0d, .inl (E.2.1 1, 16, .inl e0fdz_67)), (e1, .inr (0, [.int (nI e1csz_69), .int (nI e1rcz_70), .ref e1a, .ref e1b, .ref e1c, .ref e1d])), (e1a, .inl (E.2.1 7, 4, .inr (.inr (.inr (.inr e1fiz_71))))), (e1b, .inl (E.2.1 1, 4, .inl e1fbz_72)), (e1c, .inl (E.2.1 1, 4, .inl e1fcz_73)), (e1d, .inl (E.2.1 1, 16, .inl e1fdz_74)), (e2, .inr (0, [.int (nI e2csz_76), .int (nI e2rcz_77), .ref e2a, .ref e2b, .ref e2c, .ref e2d])), (e2a, .inl (E.2.1 7, 4, .inr (.inr (.inr (.inr e2fiz_78))))), (e2b, .inl (E.2.1 1, 4, .inl e2fbz_79)), (e2c, .inl (E.2.1 1, 4, .inl e2fcz_80)), (e2d, .inl (E.2.1 1, 16, .inl e2fdz_81)), (e3, .inr (0, [.int (nI e3csz_83), .int (nI e3rcz_84), .ref e3a, .ref e3b, .ref e3c, .ref e3d])), (e3a, .inl (E.2.1 7, 4, .inr (.inr (.inr (.inr e3fiz_85))))), (e3b, .inl (E.2.1 1, 4, .inl e3fbz_86)), (e3c, .inl (E.2.1 1, 4, .inl e3fcz_87)), (e3d, .inl (E.2.1 1, 16, .inl e3fdz_88)), (la0, .inr (3, [.ref la0m, .int la0p, .int la0w, .ref la0c, .ref la0f, .ref la0q])), (la0c, .inl (E.2.1 1, 24, .inl la0fc)), (la0f, .inl (E.2.1 1, 24, .inl la0ff)), (la0q, .inl (E.2.1 1, 4, .inl la0fq)), (la0m, .inr (4, [.int (nI la0n), .int (nI la0r), .ref la0x, .ref la0y])), (la0x, .inl (E.2.1 1, 24, .inl la0gx)), (la0y, .inl (E.2.1 1, 96, .inl la0gy)), (la1, .inr (3, [.ref la1m, .int la1p, .int la1w, .ref la1c, .ref la1f, .ref la1q])), (la1c, .inl (E.2.1 1, 24, .inl la1fc)), (la1f, .inl (E.2.1 1, 24, .inl la1ff)), (la1q, .inl (E.2.1 1, 4, .inl la1fq)), (la1m, .inr (4, [.int (nI la1n), .int (nI la1r), .ref la1x, .ref la1y])), (la1x, .inl (E.2.1 1, 24, .inl la1gx)), (la1y, .inl (E.2.1 1, 96, .inl la1gy)), (jt, .inl (E.2.1 7, 8, .inr (.inr (.inr (.inr fto)))))]  ⟨jt, je, ju, ja, ft, fe, e0, e1, e2, e3, fa, la0, la1, e0csz_62, e0rcz_63, e0a, e0b, e0c, e0d, e0fiz_64, e0fbz_65, e0fcz_66, e0fdz_67, e1csz_69, e1rcz_70, e1a, e1b, e1c, e1d, e1fiz_71, e1fbz_72, e1fcz_73, e1fdz_74, e2csz_76, e2rcz_77, e2a, e2b, e2c, e2d, e2fiz_78, e2fbz_79, e2fcz_80, e2fdz_81, e3csz_83, e3rcz_84, e3a, e3b, e3c, e3d, e3fiz_85, e3fbz_86, e3fcz_87, e3fdz_88, la0m, la0p, la0w, la0c, la0f, la0q, la0fc, la0ff, la0fq, la0n, la0r, la0x, la0y, la0gx, la0gy, la1m, la1p, la1w, la1c, la1f, la1q, la1fc, la1ff, la1fq, la1n, la1r, la1x, la1y, la1gx, la1gy, fto, e0Tz_68, e1Tz_75, e2Tz_82, e3Tz_89, rfl, k_fe_0, k_fe_1, k_fe_2, k_fe_3, k_fa_0, k_fa_1, (by first | assumption | omega), (by first | assumption | omega), h_92, (by first | assumption | omega), (by first | assumption | omega), h_95, (by first | assumption | omega), (by first | assumption | omega), h_98, (by first | assumption | omega), (by first | assumption | omega), h_101, (by first | assumption | omega), (by first | assumption | omega), (by first | assumption | omega), (by first | assumption | omega), hto, rfl, rfl, rfl, rfl, rfl, rfl⟩ (Or.inr (⟨_, _, h_102, h_103, h_104, h_105, h_106, h_107, (fun i hi => (h_108 i hi).trans (by rw [if_neg h_117])), h_109, h_113, h_116, (by rw [if_neg h_117]; rfl), h_110, h_111, h_112, h_114, h_115⟩))
theorem wc_X11_lay : Cond.code yX11_lay cX11_lay 2 (some .int) ∈ TB := tbm (tq4 (List.mem_of_getElem? (i := 105) (rfl))) (by decide +kernel)
theorem wi_X11_lay : Cond.instanceMethod yX11_lay ∈ TB := tbm (tq4 (List.mem_of_getElem? (i := 103) (by decide +kernel))) (by decide +kernel)
theorem ws_X11_lay : Cond.selects RX11 yX11_lay yX11_lay ∈ TB := tbm (tq4 (List.mem_of_getElem? (i := 104) (by decide +kernel))) (by decide +kernel)
theorem mi_X11_lay : MI yX11_lay cX11_lay 2 (some .int) 1 := ⟨wc_X11_lay, wn_X11, ⟨by decide +kernel, by decide +kernel, by decide +kernel⟩, wi_X11_lay, ws_X11_lay⟩
theorem wl_L_95 : Cond.methodLink RL 95 yX11_lay ∈ TB := tbm (tq4 (List.mem_of_getElem? (i := 102) (by decide +kernel))) (by decide +kernel)
theorem dL_law_888 : decode cL_law 888 = .ok (.invokevirtual 95, 3) := dl_182 (by decide +kernel)
set_option maxRecDepth 100000 in
set_option maxHeartbeats 4000000 in
theorem lx_lay {X : XT} {E : EV} {ro wT pre : va_W} {lv : List (Nat × Value)} {rest : List Value} {kC nC : Nat} {hx h qp qs qj ly qh kk rd pg ss : Nat} {ac np kc pe : Nat} {kn : Int32} {mN : AM} {pV : Nat → AM} {tT : Nat → Option SVal} {ec : Nat → Nat} {er : Nat → Nat} {ed : Nat → Nat → Int32} {eT : Nat → Nat → Option SVal} {eb : Nat → Nat → Int32} {en : Nat → Nat → Int32} {w_now : va_W} {w_past : va_W} {w_judg : va_W} {w_layr : va_W} {v0 : Int32}  (C : CX X room_1 cL_law 4 RL ret E) (hW : Nat.ble (rest.map fun v => v.category).sum 8 = true) (hT : wT = pre ++ ro) (hk : kC + 0 ≤ 600000 ∧ nC + 0 ≤ 7302250) (hac : ac ≤ 8) (hnp : np < 8) (hkc : kc ≤ 4) (hpe : pe ≤ 4) (H_now : ok_now E ro h mN w_now) (H_past : ok_past E ro qp pV w_past) (H_judg : ok_judg E ro qj tT ec er ed eT eb en w_judg) (H_layr : ok_layr E ro ly  w_layr) (kont : ∀ (rr : Int32) (acZ : Nat) (npZ : Nat) (mNZ : AM) (pVZ : Nat → AM) (w_nowZ : va_W) (w_pastZ : va_W) (w_judgZ : va_W) (w_layrZ : va_W), acZ ≤ 8 → npZ < 8 → ok_now E ro h mNZ w_nowZ → ok_past E ro qp pVZ w_pastZ → ok_judg E ro qj tT ec er ed eT eb en w_judgZ → ok_layr E ro ly  w_layrZ → (((asX mNZ acZ npZ pVZ), rr) = opLay (asX mN ac np pV) (ev6 ec er eT eb en ed) v0) → WW X 4 E 891 lv (.int rr :: rest) ([(hx, .inr (11, [.ref h, .ref qp, .int (nI acZ), .int (nI npZ), .ref qs, .ref qj, .ref ly, .ref qh, .ref kk, .int (nI kc), .ref rd, .ref pg, .int (nI pe), .int kn, .ref ss]))] ++ (w_nowZ ++ (w_pastZ ++ (w_judgZ ++ (w_layrZ ++ wT))))) kC nC) : WW X 4 E 888 lv (.int v0 :: .ref hx :: rest) ([(hx, .inr (11, [.ref h, .ref qp, .int (nI ac), .int (nI np), .ref qs, .ref qj, .ref ly, .ref qh, .ref kk, .int (nI kc), .ref rd, .ref pg, .int (nI pe), .int kn, .ref ss]))] ++ (w_now ++ (w_past ++ (w_judg ++ (w_layr ++ wT))))) kC nC := by
  unfold ok_now at H_now
  refine ex6 H_now ?_
  clear H_now
  intro n r a b f gg H_now
  refine an4 H_now ?_
  clear H_now
  intro we_now hn hr hwfm H_now
  have hmN := H_now
  clear H_now
  subst we_now
  subst hmN
  unfold ok_past at H_past
  refine ex8 H_past ?_
  clear H_past
  intro fqp p0 p1 p2 p3 p4 p5 p6 H_past
  refine ex8 H_past ?_
  clear H_past
  intro p7 p0n p0r p0a p0b p0f p0g p1n H_past
  refine ex8 H_past ?_
  clear H_past
  intro p1r p1a p1b p1f p1g p2n p2r p2a H_past
  refine ex8 H_past ?_
  clear H_past
  intro p2b p2f p2g p3n p3r p3a p3b p3f H_past
  refine ex8 H_past ?_
  clear H_past
  intro p3g p4n p4r p4a p4b p4f p4g p5n H_past
  refine ex8 H_past ?_
  clear H_past
  intro p5r p5a p5b p5f p5g p6n p6r p6a H_past
  refine ex8 H_past ?_
  clear H_past
  intro p6b p6f p6g p7n p7r p7a p7b p7f H_past
  refine ex1 H_past ?_
  clear H_past
  intro p7g H_past
  refine an8 H_past ?_
  clear H_past
  intro we_past k_fqp_0 k_fqp_1 k_fqp_2 k_fqp_3 k_fqp_4 k_fqp_5 k_fqp_6 H_past
  refine an8 H_past ?_
  clear H_past
  intro k_fqp_7 hp0_n hp0_r hp0_w hp1_n hp1_r hp1_w hp2_n H_past
  refine an8 H_past ?_
  clear H_past
  intro hp2_r hp2_w hp3_n hp3_r hp3_w hp4_n hp4_r hp4_w H_past
  refine an8 H_past ?_
  clear H_past
  intro hp5_n hp5_r hp5_w hp6_n hp6_r hp6_w hp7_n hp7_r H_past
  refine an1 H_past ?_
  clear H_past
  intro hp7_w H_past
  have hpV := H_past
  clear H_past
  subst we_past
  subst hpV
  unfold ok_judg at H_judg
  refine ex8 H_judg ?_
  clear H_judg
  intro jt je ju ja ft fe e0 e1 H_judg
  refine ex8 H_judg ?_
  clear H_judg
  intro e2 e3 fa la0 la1 e0cs e0rc e0a H_judg
  refine ex8 H_judg ?_
  clear H_judg
  intro e0b e0c e0d e0fi e0fb e0fc e0fd e1cs H_judg
  refine ex8 H_judg ?_
  clear H_judg
  intro e1rc e1a e1b e1c e1d e1fi e1fb e1fc H_judg
  refine ex8 H_judg ?_
  clear H_judg
  intro e1fd e2cs e2rc e2a e2b e2c e2d e2fi H_judg
  refine ex8 H_judg ?_
  clear H_judg
  intro e2fb e2fc e2fd e3cs e3rc e3a e3b e3c H_judg
  refine ex8 H_judg ?_
  clear H_judg
  intro e3d e3fi e3fb e3fc e3fd la0m la0p la0w H_judg
  refine ex8 H_judg ?_
  clear H_judg
  intro la0c la0f la0q la0fc la0ff la0fq la0n la0r H_judg
  refine ex8 H_judg ?_
  clear H_judg
  intro la0x la0y la0gx la0gy la1m la1p la1w la1c H_judg
  refine ex8 H_judg ?_
  clear H_judg
  intro la1f la1q la1fc la1ff la1fq la1n la1r la1x H_judg
  refine ex8 H_judg ?_
  clear H_judg
  intro la1y la1gx la1gy fto e0T e1T e2T e3T H_judg
  refine an8 H_judg ?_
  clear H_judg
  intro we_judg k_fe_0 k_fe_1 k_fe_2 k_fe_3 k_fa_0 k_fa_1 he0cs H_judg
  refine an8 H_judg ?_
  clear H_judg
  intro he0rc he0fi he1cs he1rc he1fi he2cs he2rc he2fi H_judg
  refine an8 H_judg ?_
  clear H_judg
  intro he3cs he3rc he3fi hla0n hla0r hla1n hla1r hto H_judg
  refine an5 H_judg ?_
  clear H_judg
  intro hec her hed heT heb H_judg
  have hen := H_judg
  clear H_judg
  subst we_judg
  subst hec
  subst her
  subst hed
  subst heT
  subst heb
  subst hen
  unfold ok_layr at H_layr
  refine ex8 H_layr ?_
  clear H_layr
  intro lym lyp lyw lyc lyf lyq lyfc lyff H_layr
  refine ex7 H_layr ?_
  clear H_layr
  intro lyfq lyn lyr lyx lyy lygx lygy H_layr
  refine an2 H_layr ?_
  clear H_layr
  intro we_layr hlyn H_layr
  have hlyr := H_layr
  clear H_layr
  subst we_layr
  refine ww_eq (ws' := [(hx, .inr (11, [.ref h, .ref qp, .int (nI ac), .int (nI np), .ref qs, .ref qj, .ref ly, .ref qh, .ref kk, .int (nI kc), .ref rd, .ref pg, .int (nI pe), .int kn, .ref ss])), (h, .inr (4, [.int (nI n), .int (nI r), .ref a, .ref b])), (a, .inl (E.2.1 1, 24, .inl f)), (b, .inl (E.2.1 1, 96, .inl gg)), (qp, .inl (E.2.1 6, 8, .inr (.inr (.inr (.inr fqp))))), (p0, .inr (4, [.int (nI p0n), .int (nI p0r), .ref p0a, .ref p0b])), (p0a, .inl (E.2.1 1, 24, .inl p0f)), (p0b, .inl (E.2.1 1, 96, .inl p0g)), (p1, .inr (4, [.int (nI p1n), .int (nI p1r), .ref p1a, .ref p1b])), (p1a, .inl (E.2.1 1, 24, .inl p1f)), (p1b, .inl (E.2.1 1, 96, .inl p1g)), (p2, .inr (4, [.int (nI p2n), .int (nI p2r), .ref p2a, .ref p2b])), (p2a, .inl (E.2.1 1, 24, .inl p2f)), (p2b, .inl (E.2.1 1, 96, .inl p2g)), (p3, .inr (4, [.int (nI p3n), .int (nI p3r), .ref p3a, .ref p3b])), (p3a, .inl (E.2.1 1, 24, .inl p3f)), (p3b, .inl (E.2.1 1, 96, .inl p3g)), (p4, .inr (4, [.int (nI p4n), .int (nI p4r), .ref p4a, .ref p4b])), (p4a, .inl (E.2.1 1, 24, .inl p4f)), (p4b, .inl (E.2.1 1, 96, .inl p4g)), (p5, .inr (4, [.int (nI p5n), .int (nI p5r), .ref p5a, .ref p5b])), (p5a, .inl (E.2.1 1, 24, .inl p5f)), (p5b, .inl (E.2.1 1, 96, .inl p5g)), (p6, .inr (4, [.int (nI p6n), .int (nI p6r), .ref p6a, .ref p6b])), (p6a, .inl (E.2.1 1, 24, .inl p6f)), (p6b, .inl (E.2.1 1, 96, .inl p6g)), (p7, .inr (4, [.int (nI p7n), .int (nI p7r), .ref p7a, .ref p7b])), (p7a, .inl (E.2.1 1, 24, .inl p7f)), (p7b, .inl (E.2.1 1, 96, .inl p7g)), (qj, .inr (2, [.ref jt, .ref je, .ref ju, .ref ja])), (ju, .inl (E.2.1 1, 32, .inl ft)), (je, .inl (E.2.1 4, 4, .inr (.inr (.inr (.inr fe))))), (ja, .inl (E.2.1 5, 2, .inr (.inr (.inr (.inr fa))))), (e0, .inr (0, [.int (nI e0cs), .int (nI e0rc), .ref e0a, .ref e0b, .ref e0c, .ref e0d])), (e0a, .inl (E.2.1 7, 4, .inr (.inr (.inr (.inr e0fi))))), (e0b, .inl (E.2.1 1, 4, .inl e0fb)), (e0c, .inl (E.2.1 1, 4, .inl e0fc)), (e0d, .inl (E.2.1 1, 16, .inl e0fd)), (e1, .inr (0, [.int (nI e1cs), .int (nI e1rc), .ref e1a, .ref e1b, .ref e1c, .ref e1d])), (e1a, .inl (E.2.1 7, 4, .inr (.inr (.inr (.inr e1fi))))), (e1b, .inl (E.2.1 1, 4, .inl e1fb)), (e1c, .inl (E.2.1 1, 4, .inl e1fc)), (e1d, .inl (E.2.1 1, 16, .inl e1fd)), (e2, .inr (0, [.int (nI e2cs), .int (nI e2rc), .ref e2a, .ref e2b, .ref e2c, .ref e2d])), (e2a, .inl (E.2.1 7, 4, .inr (.inr (.inr (.inr e2fi))))), (e2b, .inl (E.2.1 1, 4, .inl e2fb)), (e2c, .inl (E.2.1 1, 4, .inl e2fc)), (e2d, .inl (E.2.1 1, 16, .inl e2fd)), (e3, .inr (0, [.int (nI e3cs), .int (nI e3rc), .ref e3a, .ref e3b, .ref e3c, .ref e3d])), (e3a, .inl (E.2.1 7, 4, .inr (.inr (.inr (.inr e3fi))))), (e3b, .inl (E.2.1 1, 4, .inl e3fb)), (e3c, .inl (E.2.1 1, 4, .inl e3fc)), (e3d, .inl (E.2.1 1, 16, .inl e3fd)), (la0, .inr (3, [.ref la0m, .int la0p, .int la0w, .ref la0c, .ref la0f, .ref la0q])), (la0c, .inl (E.2.1 1, 24, .inl la0fc)), (la0f, .inl (E.2.1 1, 24, .inl la0ff)), (la0q, .inl (E.2.1 1, 4, .inl la0fq)), (la0m, .inr (4, [.int (nI la0n), .int (nI la0r), .ref la0x, .ref la0y])), (la0x, .inl (E.2.1 1, 24, .inl la0gx)), (la0y, .inl (E.2.1 1, 96, .inl la0gy)), (la1, .inr (3, [.ref la1m, .int la1p, .int la1w, .ref la1c, .ref la1f, .ref la1q])), (la1c, .inl (E.2.1 1, 24, .inl la1fc)), (la1f, .inl (E.2.1 1, 24, .inl la1ff)), (la1q, .inl (E.2.1 1, 4, .inl la1fq)), (la1m, .inr (4, [.int (nI la1n), .int (nI la1r), .ref la1x, .ref la1y])), (la1x, .inl (E.2.1 1, 24, .inl la1gx)), (la1y, .inl (E.2.1 1, 96, .inl la1gy)), (jt, .inl (E.2.1 7, 8, .inr (.inr (.inr (.inr fto))))), (ly, .inr (3, [.ref lym, .int lyp, .int lyw, .ref lyc, .ref lyf, .ref lyq])), (lyc, .inl (E.2.1 1, 24, .inl lyfc)), (lyf, .inl (E.2.1 1, 24, .inl lyff)), (lyq, .inl (E.2.1 1, 4, .inl lyfq)), (lym, .inr (4, [.int (nI lyn), .int (nI lyr), .ref lyx, .ref lyy])), (lyx, .inl (E.2.1 1, 24, .inl lygx)), (lyy, .inl (E.2.1 1, 96, .inl lygy))] ++ wT) ?_ rfl rfl rfl
  refine ww_ciT (k' := kC) (n' := nC) (wr := [(ja, .inl (E.2.1 5, 2, .inr (.inr (.inr (.inr fa))))), (la0, .inr (3, [.ref la0m, .int la0p, .int la0w, .ref la0c, .ref la0f, .ref la0q])), (la0c, .inl (E.2.1 1, 24, .inl la0fc)), (la0f, .inl (E.2.1 1, 24, .inl la0ff)), (la0q, .inl (E.2.1 1, 4, .inl la0fq)), (la0m, .inr (4, [.int (nI la0n), .int (nI la0r), .ref la0x, .ref la0y])), (la0x, .inl (E.2.1 1, 24, .inl la0gx)), (la0y, .inl (E.2.1 1, 96, .inl la0gy)), (la1, .inr (3, [.ref la1m, .int la1p, .int la1w, .ref la1c, .ref la1f, .ref la1q])), (la1c, .inl (E.2.1 1, 24, .inl la1fc)), (la1f, .inl (E.2.1 1, 24, .inl la1ff)), (la1q, .inl (E.2.1 1, 4, .inl la1fq)), (la1m, .inr (4, [.int (nI la1n), .int (nI la1r), .ref la1x, .ref la1y])), (la1x, .inl (E.2.1 1, 24, .inl la1gx)), (la1y, .inl (E.2.1 1, 96, .inl la1gy)), (jt, .inl (E.2.1 7, 8, .inr (.inr (.inr (.inr fto)))))]) C (run_V (As := [.int v0]) (rest := rest) C (x_lay X.2.1 E ro hx v0 h qp ac np qs qj ly qh kk kc rd pg pe kn ss fqp p0 p1 p2 p3 p4 p5 p6 p7 p0n p0r p0a p0b p0f p0g p1n p1r p1a p1b p1f p1g p2n p2r p2a p2b p2f p2g p3n p3r p3a p3b p3f p3g p4n p4r p4a p4b p4f p4g p5n p5r p5a p5b p5f p5g p6n p6r p6a p6b p6f p6g p7n p7r p7a p7b p7f p7g n r a b f gg jt je ju ja fe e0 e1 e2 e3 e0cs e0rc e0a e0b e0c e0d e0fi e0fb e0fc e0fd e1cs e1rc e1a e1b e1c e1d e1fi e1fb e1fc e1fd e2cs e2rc e2a e2b e2c e2d e2fi e2fb e2fc e2fd e3cs e3rc e3a e3b e3c e3d e3fi e3fb e3fc e3fd ft lym lyp lyw lyc lyf lyq lyfc lyff lyfq lyn lyr lyx lyy lygx lygy e0T e1T e2T e3T k_fqp_0 k_fqp_1 k_fqp_2 k_fqp_3 k_fqp_4 k_fqp_5 k_fqp_6 k_fqp_7 k_fe_0 k_fe_1 k_fe_2 k_fe_3 (by first | assumption | omega) (by first | assumption | omega) (by first | assumption | omega) (by first | assumption | omega) (by first | assumption | omega) (by first | assumption | omega) (by first | assumption | omega) (by first | assumption | omega) (by first | assumption | omega) (by first | assumption | omega) (by first | assumption | omega) (by first | assumption | omega) (by first | assumption | omega) (by first | assumption | omega) (by first | assumption | omega) (by first | assumption | omega) (by first | assumption | omega) (by first | assumption | omega) (by first | assumption | omega) (by first | assumption | omega) (by first | assumption | omega) (by first | assumption | omega) (by first | assumption | omega) (by first | assumption | omega) (by first | assumption | omega) (by first | assumption | omega) (by first | assumption | omega) (by first | assumption | omega) (by first | assumption | omega) (by first | assumption | omega) (by first | assumption | omega) (by first | assumption | omega) (by first | assumption | omega) he0fi (by first | assumption | omega) (by first | assumption | omega) he1fi (by first | assumption | omega) (by first | assumption | omega) he2fi (by first | assumption | omega) (by first | assumption | omega) he3fi (by first | assumption | omega) (by first | assumption | omega)) mi_X11_lay wl_L_95 rfl 0 11 rfl rfl rfl rfl hW dL_law_888) (roT (pre := pre) [0, 4, 5, 6, 7, 8, 9, 10, 11, 12, 13, 14, 15, 16, 17, 18, 19, 20, 21, 22, 23, 24, 25, 26, 27, 28, 1, 2, 3, 29, 31, 33, 34, 35, 36, 37, 38, 39, 40, 41, 42, 43, 44, 45, 46, 47, 48, 49, 50, 51, 52, 30, 68, 69, 70, 71, 72, 73, 74] rfl hT) [0, 4, 5, 6, 7, 8, 9, 10, 11, 12, 13, 14, 15, 16, 17, 18, 19, 20, 21, 22, 23, 24, 25, 26, 27, 28, 1, 2, 3, 29, 31, 33, 34, 35, 36, 37, 38, 39, 40, 41, 42, 43, 44, 45, 46, 47, 48, 49, 50, 51, 52, 30, 68, 69, 70, 71, 72, 73, 74] [32, 53, 54, 55, 56, 57, 58, 59, 60, 61, 62, 63, 64, 65, 66, 67] (gqk (by eq_refl)) (gqk (by eq_refl)) (plk (by decide +kernel)) ⟨by omega, by omega, hk.1, hk.2⟩ (fun rr u hw => ?_)
  refine ex8 hw ?_
  clear hw
  intro acz_1 npz_2 p0nz_3 p0rz__4 p0fz_5 p0gz_6 p1nz_7 p1rz__8 hw
  refine ex8 hw ?_
  clear hw
  intro p1fz_9 p1gz_10 p2nz_11 p2rz__12 p2fz_13 p2gz_14 p3nz_15 p3rz__16 hw
  refine ex8 hw ?_
  clear hw
  intro p3fz_17 p3gz_18 p4nz_19 p4rz__20 p4fz_21 p4gz_22 p5nz_23 p5rz__24 hw
  refine ex8 hw ?_
  clear hw
  intro p5fz_25 p5gz_26 p6nz_27 p6rz__28 p6fz_29 p6gz_30 p7nz_31 p7rz__32 hw
  refine ex8 hw ?_
  clear hw
  intro p7fz_33 p7gz_34 nz_35 rz__36 fz_37 ggz_38 ft2_39 lyzp_40 hw
  refine ex8 hw ?_
  clear hw
  intro lyzw_41 lyzn_42 lyzr_43 lyzfc_44 lyzff_45 lyzfq_46 lyzgx_47 lyzgy_48 hw
  refine an8 hw ?_
  clear hw
  intro he_u h_49 h_50 h_51 h_52 h_53 h_54 h_55 hw
  refine an8 hw ?_
  clear hw
  intro h_56 h_57 h_58 h_59 h_60 h_61 h_62 h_63 hw
  refine an8 hw ?_
  clear hw
  intro h_64 h_65 h_66 h_67 h_68 h_69 h_70 h_71 hw
  refine an8 hw ?_
  clear hw
  intro h_72 h_73 h_74 h_75 h_76 h_77 h_78 h_79 hw
  have h_80 := hw
  clear hw
  subst he_u
  refine ww_subT (w1 := [(hx, .inr (11, [.ref h, .ref qp, .int (nI acz_1), .int (nI npz_2), .ref qs, .ref qj, .ref ly, .ref qh, .ref kk, .int (nI kc), .ref rd, .ref pg, .int (nI pe), .int kn, .ref ss])), (h, .inr (4, [.int (nI nz_35), .int (nI rz__36), .ref a, .ref b])), (a, .inl (E.2.1 1, 24, .inl fz_37)), (b, .inl (E.2.1 1, 96, .inl ggz_38)), (qp, .inl (E.2.1 6, 8, .inr (.inr (.inr (.inr fqp))))), (p0, .inr (4, [.int (nI p0nz_3), .int (nI p0rz__4), .ref p0a, .ref p0b])), (p0a, .inl (E.2.1 1, 24, .inl p0fz_5)), (p0b, .inl (E.2.1 1, 96, .inl p0gz_6)), (p1, .inr (4, [.int (nI p1nz_7), .int (nI p1rz__8), .ref p1a, .ref p1b])), (p1a, .inl (E.2.1 1, 24, .inl p1fz_9)), (p1b, .inl (E.2.1 1, 96, .inl p1gz_10)), (p2, .inr (4, [.int (nI p2nz_11), .int (nI p2rz__12), .ref p2a, .ref p2b])), (p2a, .inl (E.2.1 1, 24, .inl p2fz_13)), (p2b, .inl (E.2.1 1, 96, .inl p2gz_14)), (p3, .inr (4, [.int (nI p3nz_15), .int (nI p3rz__16), .ref p3a, .ref p3b])), (p3a, .inl (E.2.1 1, 24, .inl p3fz_17)), (p3b, .inl (E.2.1 1, 96, .inl p3gz_18)), (p4, .inr (4, [.int (nI p4nz_19), .int (nI p4rz__20), .ref p4a, .ref p4b])), (p4a, .inl (E.2.1 1, 24, .inl p4fz_21)), (p4b, .inl (E.2.1 1, 96, .inl p4gz_22)), (p5, .inr (4, [.int (nI p5nz_23), .int (nI p5rz__24), .ref p5a, .ref p5b])), (p5a, .inl (E.2.1 1, 24, .inl p5fz_25)), (p5b, .inl (E.2.1 1, 96, .inl p5gz_26)), (p6, .inr (4, [.int (nI p6nz_27), .int (nI p6rz__28), .ref p6a, .ref p6b])), (p6a, .inl (E.2.1 1, 24, .inl p6fz_29)), (p6b, .inl (E.2.1 1, 96, .inl p6gz_30)), (p7, .inr (4, [.int (nI p7nz_31), .int (nI p7rz__32), .ref p7a, .ref p7b])), (p7a, .inl (E.2.1 1, 24, .inl p7fz_33)), (p7b, .inl (E.2.1 1, 96, .inl p7gz_34)), (qj, .inr (2, [.ref jt, .ref je, .ref ju, .ref ja])), (ju, .inl (E.2.1 1, 32, .inl ft2_39)), (je, .inl (E.2.1 4, 4, .inr (.inr (.inr (.inr fe))))), (ja, .inl (E.2.1 5, 2, .inr (.inr (.inr (.inr fa))))), (e0, .inr (0, [.int (nI e0cs), .int (nI e0rc), .ref e0a, .ref e0b, .ref e0c, .ref e0d])), (e0a, .inl (E.2.1 7, 4, .inr (.inr (.inr (.inr e0fi))))), (e0b, .inl (E.2.1 1, 4, .inl e0fb)), (e0c, .inl (E.2.1 1, 4, .inl e0fc)), (e0d, .inl (E.2.1 1, 16, .inl e0fd)), (e1, .inr (0, [.int (nI e1cs), .int (nI e1rc), .ref e1a, .ref e1b, .ref e1c, .ref e1d])), (e1a, .inl (E.2.1 7, 4, .inr (.inr (.inr (.inr e1fi))))), (e1b, .inl (E.2.1 1, 4, .inl e1fb)), (e1c, .inl (E.2.1 1, 4, .inl e1fc)), (e1d, .inl (E.2.1 1, 16, .inl e1fd)), (e2, .inr (0, [.int (nI e2cs), .int (nI e2rc), .ref e2a, .ref e2b, .ref e2c, .ref e2d])), (e2a, .inl (E.2.1 7, 4, .inr (.inr (.inr (.inr e2fi))))), (e2b, .inl (E.2.1 1, 4, .inl e2fb)), (e2c, .inl (E.2.1 1, 4, .inl e2fc)), (e2d, .inl (E.2.1 1, 16, .inl e2fd)), (e3, .inr (0, [.int (nI e3cs), .int (nI e3rc), .ref e3a, .ref e3b, .ref e3c, .ref e3d])), (e3a, .inl (E.2.1 7, 4, .inr (.inr (.inr (.inr e3fi))))), (e3b, .inl (E.2.1 1, 4, .inl e3fb)), (e3c, .inl (E.2.1 1, 4, .inl e3fc)), (e3d, .inl (E.2.1 1, 16, .inl e3fd)), (la0, .inr (3, [.ref la0m, .int la0p, .int la0w, .ref la0c, .ref la0f, .ref la0q])), (la0c, .inl (E.2.1 1, 24, .inl la0fc)), (la0f, .inl (E.2.1 1, 24, .inl la0ff)), (la0q, .inl (E.2.1 1, 4, .inl la0fq)), (la0m, .inr (4, [.int (nI la0n), .int (nI la0r), .ref la0x, .ref la0y])), (la0x, .inl (E.2.1 1, 24, .inl la0gx)), (la0y, .inl (E.2.1 1, 96, .inl la0gy)), (la1, .inr (3, [.ref la1m, .int la1p, .int la1w, .ref la1c, .ref la1f, .ref la1q])), (la1c, .inl (E.2.1 1, 24, .inl la1fc)), (la1f, .inl (E.2.1 1, 24, .inl la1ff)), (la1q, .inl (E.2.1 1, 4, .inl la1fq)), (la1m, .inr (4, [.int (nI la1n), .int (nI la1r), .ref la1x, .ref la1y])), (la1x, .inl (E.2.1 1, 24, .inl la1gx)), (la1y, .inl (E.2.1 1, 96, .inl la1gy)), (jt, .inl (E.2.1 7, 8, .inr (.inr (.inr (.inr fto))))), (ly, .inr (3, [.ref lym, .int lyzp_40, .int lyzw_41, .ref lyc, .ref lyf, .ref lyq])), (lyc, .inl (E.2.1 1, 24, .inl lyzfc_44)), (lyf, .inl (E.2.1 1, 24, .inl lyzff_45)), (lyq, .inl (E.2.1 1, 4, .inl lyzfq_46)), (lym, .inr (4, [.int (nI lyzn_42), .int (nI lyzr_43), .ref lyx, .ref lyy])), (lyx, .inl (E.2.1 1, 24, .inl lyzgx_47)), (lyy, .inl (E.2.1 1, 96, .inl lyzgy_48))]) [16, 42, 43, 44, 17, 18, 19, 20, 21, 22, 23, 24, 25, 26, 27, 28, 29, 30, 31, 32, 33, 34, 35, 36, 37, 38, 39, 40, 41, 45, 67, 46, 0, 47, 48, 49, 50, 51, 52, 53, 54, 55, 56, 57, 58, 59, 60, 61, 62, 63, 64, 65, 66, 1, 2, 3, 4, 5, 6, 7, 8, 9, 10, 11, 12, 13, 14, 15, 68, 69, 70, 71, 72, 73, 74] (ndk (by decide +kernel)) (gqk (by eq_refl)) ?_
  exact kont rr acz_1 npz_2 (am nz_35 rz__36 fz_37 ggz_38) (pick8 (am p0nz_3 p0rz__4 p0fz_5 p0gz_6) (am p1nz_7 p1rz__8 p1fz_9 p1gz_10) (am p2nz_11 p2rz__12 p2fz_13 p2gz_14) (am p3nz_15 p3rz__16 p3fz_17 p3gz_18) (am p4nz_19 p4rz__20 p4fz_21 p4gz_22) (am p5nz_23 p5rz__24 p5fz_25 p5gz_26) (am p6nz_27 p6rz__28 p6fz_29 p6gz_30) (am p7nz_31 p7rz__32 p7fz_33 p7gz_34)) [(h, .inr (4, [.int (nI nz_35), .int (nI rz__36), .ref a, .ref b])), (a, .inl (E.2.1 1, 24, .inl fz_37)), (b, .inl (E.2.1 1, 96, .inl ggz_38))] [(qp, .inl (E.2.1 6, 8, .inr (.inr (.inr (.inr fqp))))), (p0, .inr (4, [.int (nI p0nz_3), .int (nI p0rz__4), .ref p0a, .ref p0b])), (p0a, .inl (E.2.1 1, 24, .inl p0fz_5)), (p0b, .inl (E.2.1 1, 96, .inl p0gz_6)), (p1, .inr (4, [.int (nI p1nz_7), .int (nI p1rz__8), .ref p1a, .ref p1b])), (p1a, .inl (E.2.1 1, 24, .inl p1fz_9)), (p1b, .inl (E.2.1 1, 96, .inl p1gz_10)), (p2, .inr (4, [.int (nI p2nz_11), .int (nI p2rz__12), .ref p2a, .ref p2b])), (p2a, .inl (E.2.1 1, 24, .inl p2fz_13)), (p2b, .inl (E.2.1 1, 96, .inl p2gz_14)), (p3, .inr (4, [.int (nI p3nz_15), .int (nI p3rz__16), .ref p3a, .ref p3b])), (p3a, .inl (E.2.1 1, 24, .inl p3fz_17)), (p3b, .inl (E.2.1 1, 96, .inl p3gz_18)), (p4, .inr (4, [.int (nI p4nz_19), .int (nI p4rz__20), .ref p4a, .ref p4b])), (p4a, .inl (E.2.1 1, 24, .inl p4fz_21)), (p4b, .inl (E.2.1 1, 96, .inl p4gz_22)), (p5, .inr (4, [.int (nI p5nz_23), .int (nI p5rz__24), .ref p5a, .ref p5b])), (p5a, .inl (E.2.1 1, 24, .inl p5fz_25)), (p5b, .inl (E.2.1 1, 96, .inl p5gz_26)), (p6, .inr (4, [.int (nI p6nz_27), .int (nI p6rz__28), .ref p6a, .ref p6b])), (p6a, .inl (E.2.1 1, 24, .inl p6fz_29)), (p6b, .inl (E.2.1 1, 96, .inl p6gz_30)), (p7, .inr (4, [.int (nI p7nz_31), .int (nI p7rz__32), .ref p7a, .ref p7b])), (p7a, .inl (E.2.1 1, 24, .inl p7fz_33)), (p7b, .inl (E.2.1 1, 96, .inl p7gz_34))] [(qj, .inr (2, [.ref jt, .ref je, .ref ju, .ref ja])), (ju, .inl (E.2.1 1, 32, .inl ft2_39)), (je, .inl (E.2.1 4, 4, .inr (.inr (.inr (.inr fe))))), (ja, .inl (E.2.1 5, 2, .inr (.inr (.inr (.inr fa))))), (e0, .inr (0, [.int (nI e0cs), .int (nI e0rc), .ref e0a, .ref e0b, .ref e0c, .ref e0d])), (e0a, .inl (E.2.1 7, 4, .inr (.inr (.inr (.inr e0fi))))), (e0b, .inl (E.2.1 1, 4, .inl e0fb)), (e0c, .inl (E.2.1 1, 4, .inl e0fc)), (e0d, .inl (E.2.1 1, 16, .inl e0fd)), (e1, .inr (0, [.int (nI e1cs), .int (nI e1rc), .ref e1a, .ref e1b, .ref e1c, .ref e1d])), (e1a, .inl (E.2.1 7, 4, .inr (.inr (.inr (.inr e1fi))))), (e1b, .inl (E.2.1 1, 4, .inl e1fb)), (e1c, .inl (E.2.1 1, 4, .inl e1fc)), (e1d, .inl (E.2.1 1, 16, .inl e1fd)), (e2, .inr (0, [.int (nI e2cs), .int (nI e2rc), .ref e2a, .ref e2b, .ref e2c, .ref e2d])), (e2a, .inl (E.2.1 7, 4, .inr (.inr (.inr (.inr e2fi))))), (e2b, .inl (E.2.1 1, 4, .inl e2fb)), (e2c, .inl (E.2.1 1, 4, .inl e2fc)), (e2d, .inl (E.2.1 1, 16, .inl e2fd)), (e3, .inr (0, [.int (nI e3cs), .int (nI e3rc), .ref e3a, .ref e3b, .ref e3c, .ref e3d])), (e3a, .inl (E.2.1 7, 4, .inr (.inr (.inr (.inr e3fi))))), (e3b, .inl (E.2.1 1, 4, .inl e3fb)), (e3c, .inl (E.2.1 1, 4, .inl e3fc)), (e3d, .inl (E.2.1 1, 16, .inl e3fd)), (la0, .inr (3, [.ref la0m, .int la0p, .int la0w, .ref la0c, .ref la0f, .ref la0q])), (la0c, .inl (E.2.1 1, 24, .inl la0fc)), (la0f, .inl (E.2.1 1, 24, .inl la0ff)), (la0q, .inl (E.2.1 1, 4, .inl la0fq)), (la0m, .inr (4, [.int (nI la0n), .int (nI la0r), .ref la0x, .ref la0y])), (la0x, .inl (E.2.1 1, 24, .inl la0gx)), (la0y, .inl (E.2.1 1, 96, .inl la0gy)), (la1, .inr (3, [.ref la1m, .int la1p, .int la1w, .ref la1c, .ref la1f, .ref la1q])), (la1c, .inl (E.2.1 1, 24, .inl la1fc)), (la1f, .inl (E.2.1 1, 24, .inl la1ff)), (la1q, .inl (E.2.1 1, 4, .inl la1fq)), (la1m, .inr (4, [.int (nI la1n), .int (nI la1r), .ref la1x, .ref la1y])), (la1x, .inl (E.2.1 1, 24, .inl la1gx)), (la1y, .inl (E.2.1 1, 96, .inl la1gy)), (jt, .inl (E.2.1 7, 8, .inr (.inr (.inr (.inr fto)))))] [(ly, .inr (3, [.ref lym, .int lyzp_40, .int lyzw_41, .ref lyc, .ref lyf, .ref lyq])), (lyc, .inl (E.2.1 1, 24, .inl lyzfc_44)), (lyf, .inl (E.2.1 1, 24, .inl lyzff_45)), (lyq, .inl (E.2.1 1, 4, .inl lyzfq_46)), (lym, .inr (4, [.int (nI lyzn_42), .int (nI lyzr_43), .ref lyx, .ref lyy])), (lyx, .inl (E.2.1 1, 24, .inl lyzgx_47)), (lyy, .inl (E.2.1 1, 96, .inl lyzgy_48))] (by first | assumption | omega) (by first | assumption | omega) ⟨nz_35, rz__36, a, b, fz_37, ggz_38, rfl, (by first | assumption | omega), (by first | assumption | omega), (by first | assumption | omega), rfl⟩ ⟨fqp, p0, p1, p2, p3, p4, p5, p6, p7, p0nz_3, p0rz__4, p0a, p0b, p0fz_5, p0gz_6, p1nz_7, p1rz__8, p1a, p1b, p1fz_9, p1gz_10, p2nz_11, p2rz__12, p2a, p2b, p2fz_13, p2gz_14, p3nz_15, p3rz__16, p3a, p3b, p3fz_17, p3gz_18, p4nz_19, p4rz__20, p4a, p4b, p4fz_21, p4gz_22, p5nz_23, p5rz__24, p5a, p5b, p5fz_25, p5gz_26, p6nz_27, p6rz__28, p6a, p6b, p6fz_29, p6gz_30, p7nz_31, p7rz__32, p7a, p7b, p7fz_33, p7gz_34, rfl, k_fqp_0, k_fqp_1, k_fqp_2, k_fqp_3, k_fqp_4, k_fqp_5, k_fqp_6, k_fqp_7, (by first | assumption | omega), (by first | assumption | omega), (by first | assumption | omega), (by first | assumption | omega), (by first | assumption | omega), (by first | assumption | omega), (by first | assumption | omega), (by first | assumption | omega), (by first | assumption | omega), (by first | assumption | omega), (by first | assumption | omega), (by first | assumption | omega), (by first | assumption | omega), (by first | assumption | omega), (by first | assumption | omega), (by first | assumption | omega), (by first | assumption | omega), (by first | assumption | omega), (by first | assumption | omega), (by first | assumption | omega), (by first | assumption | omega), (by first | assumption | omega), (by first | assumption | omega), (by first | assumption | omega), rfl⟩ ⟨jt, je, ju, ja, ft2_39, fe, e0, e1, e2, e3, fa, la0, la1, e0cs, e0rc, e0a, e0b, e0c, e0d, e0fi, e0fb, e0fc, e0fd, e1cs, e1rc, e1a, e1b, e1c, e1d, e1fi, e1fb, e1fc, e1fd, e2cs, e2rc, e2a, e2b, e2c, e2d, e2fi, e2fb, e2fc, e2fd, e3cs, e3rc, e3a, e3b, e3c, e3d, e3fi, e3fb, e3fc, e3fd, la0m, la0p, la0w, la0c, la0f, la0q, la0fc, la0ff, la0fq, la0n, la0r, la0x, la0y, la0gx, la0gy, la1m, la1p, la1w, la1c, la1f, la1q, la1fc, la1ff, la1fq, la1n, la1r, la1x, la1y, la1gx, la1gy, fto, e0T, e1T, e2T, e3T, rfl, k_fe_0, k_fe_1, k_fe_2, k_fe_3, k_fa_0, k_fa_1, (by first | assumption | omega), (by first | assumption | omega), he0fi, (by first | assumption | omega), (by first | assumption | omega), he1fi, (by first | assumption | omega), (by first | assumption | omega), he2fi, (by first | assumption | omega), (by first | assumption | omega), he3fi, (by first | assumption | omega), (by first | assumption | omega), (by first | assumption | omega), (by first | assumption | omega), hto, rfl, rfl, rfl, rfl, rfl, rfl⟩ ⟨lym, lyzp_40, lyzw_41, lyc, lyf, lyq, lyzfc_44, lyzff_45, lyzfq_46, lyzn_42, lyzr_43, lyx, lyy, lyzgx_47, lyzgy_48, rfl, (by first | assumption | omega), (by first | assumption | omega)⟩ (h_80)
theorem wc_X11_classes : Cond.code yX11_classes cX11_classes 1 (some .int) ∈ TB := tbm (tq4 (List.mem_of_getElem? (i := 112) (rfl))) (by decide +kernel)
theorem wi_X11_classes : Cond.instanceMethod yX11_classes ∈ TB := tbm (tq4 (List.mem_of_getElem? (i := 110) (by decide +kernel))) (by decide +kernel)
theorem ws_X11_classes : Cond.selects RX11 yX11_classes yX11_classes ∈ TB := tbm (tq4 (List.mem_of_getElem? (i := 111) (by decide +kernel))) (by decide +kernel)
theorem mi_X11_classes : MI yX11_classes cX11_classes 1 (some .int) 0 := ⟨wc_X11_classes, wn_X11, ⟨by decide +kernel, by decide +kernel, by decide +kernel⟩, wi_X11_classes, ws_X11_classes⟩
theorem wl_L_99 : Cond.methodLink RL 99 yX11_classes ∈ TB := tbm (tq4 (List.mem_of_getElem? (i := 109) (by decide +kernel))) (by decide +kernel)
theorem dL_law_906 : decode cL_law 906 = .ok (.invokevirtual 99, 3) := dl_182 (by decide +kernel)
set_option maxRecDepth 100000 in
set_option maxHeartbeats 4000000 in
theorem lx_classes {X : XT} {E : EV} {ro wT pre : va_W} {lv : List (Nat × Value)} {rest : List Value} {kC nC : Nat} {hx h qp qs qj ly qh kk rd pg ss : Nat} {ac np kc pe : Nat} {kn : Int32} {mN : AM} {w_now : va_W} {w_heap : va_W}  (C : CX X room_1 cL_law 4 RL ret E) (hW : Nat.ble (rest.map fun v => v.category).sum 8 = true) (hT : wT = pre ++ ro) (hk : kC + 0 ≤ 600000 ∧ nC + 0 ≤ 7302250) (hac : ac ≤ 8) (hnp : np < 8) (hkc : kc ≤ 4) (hpe : pe ≤ 4) (H_now : ok_now E ro h mN w_now) (H_heap : ok_heap E ro qh  w_heap) (kont : ∀ (rr : Int32) (w_nowZ : va_W) (w_heapZ : va_W), ok_now E ro h mN w_nowZ → ok_heap E ro qh  w_heapZ → (rr = ansClasses mN) → WW X 4 E 909 lv (.int rr :: rest) ([(hx, .inr (11, [.ref h, .ref qp, .int (nI ac), .int (nI np), .ref qs, .ref qj, .ref ly, .ref qh, .ref kk, .int (nI kc), .ref rd, .ref pg, .int (nI pe), .int kn, .ref ss]))] ++ (w_nowZ ++ (w_heapZ ++ wT))) kC nC) : WW X 4 E 906 lv (.ref hx :: rest) ([(hx, .inr (11, [.ref h, .ref qp, .int (nI ac), .int (nI np), .ref qs, .ref qj, .ref ly, .ref qh, .ref kk, .int (nI kc), .ref rd, .ref pg, .int (nI pe), .int kn, .ref ss]))] ++ (w_now ++ (w_heap ++ wT))) kC nC := by
  unfold ok_now at H_now
  refine ex6 H_now ?_
  clear H_now
  intro n r a b f gg H_now
  refine an4 H_now ?_
  clear H_now
  intro we_now hn hr hwfm H_now
  have hmN := H_now
  clear H_now
  subst we_now
  subst hmN
  unfold ok_heap at H_heap
  refine ex8 H_heap ?_
  clear H_heap
  intro hl0 hr0 hz0 ha hb hc fl fn H_heap
  refine ex1 H_heap ?_
  clear H_heap
  intro fs H_heap
  refine an1 H_heap ?_
  clear H_heap
  intro we_heap H_heap
  have hrng := H_heap
  clear H_heap
  subst we_heap
  refine ww_eq (ws' := [(hx, .inr (11, [.ref h, .ref qp, .int (nI ac), .int (nI np), .ref qs, .ref qj, .ref ly, .ref qh, .ref kk, .int (nI kc), .ref rd, .ref pg, .int (nI pe), .int kn, .ref ss])), (h, .inr (4, [.int (nI n), .int (nI r), .ref a, .ref b])), (a, .inl (E.2.1 1, 24, .inl f)), (b, .inl (E.2.1 1, 96, .inl gg)), (qh, .inr (1, [hl0, hr0, .int hz0, .ref ha, .ref hb, .ref hc])), (ha, .inl (E.2.1 1, 48, .inl fl)), (hb, .inl (E.2.1 1, 48, .inl fn)), (hc, .inl (E.2.1 2, 192, .inr (.inl fs)))] ++ wT) ?_ rfl rfl rfl
  refine ww_ciT (k' := kC) (n' := nC) (wr := []) C (run_V (As := []) (rest := rest) C (x_classes X.2.1 E ro hx h qp ac np qs qj ly qh kk kc rd pg pe kn ss n r a b f gg hl0 hr0 hz0 ha hb hc fl fn fs (by first | assumption | omega) (by first | assumption | omega) (by first | assumption | omega) (by first | assumption | omega) (by first | assumption | omega) (by first | assumption | omega) (by first | assumption | omega) hrng) mi_X11_classes wl_L_99 rfl 0 11 rfl rfl rfl rfl hW dL_law_906) (roT (pre := pre) [0, 1, 2, 3, 4, 5, 6, 7] rfl hT) [0, 1, 2, 3, 4, 5, 6, 7] [] (gqk (by eq_refl)) rfl (plk (by decide +kernel)) ⟨by omega, by omega, hk.1, hk.2⟩ (fun rr u hw => ?_)
  refine ex6 hw ?_
  clear hw
  intro hlz_1 hrz_2 hzz_3 flz_4 fnz_5 fsz_6 hw
  refine an2 hw ?_
  clear hw
  intro he_u h_7 hw
  have h_8 := hw
  clear hw
  subst he_u
  refine ww_subT (w1 := [(hx, .inr (11, [.ref h, .ref qp, .int (nI ac), .int (nI np), .ref qs, .ref qj, .ref ly, .ref qh, .ref kk, .int (nI kc), .ref rd, .ref pg, .int (nI pe), .int kn, .ref ss])), (h, .inr (4, [.int (nI n), .int (nI r), .ref a, .ref b])), (a, .inl (E.2.1 1, 24, .inl f)), (b, .inl (E.2.1 1, 96, .inl gg)), (qh, .inr (1, [hlz_1, hrz_2, .int hzz_3, .ref ha, .ref hb, .ref hc])), (ha, .inl (E.2.1 1, 48, .inl flz_4)), (hb, .inl (E.2.1 1, 48, .inl fnz_5)), (hc, .inl (E.2.1 2, 192, .inr (.inl fsz_6)))]) [0, 1, 2, 3, 4, 5, 6, 7] (ndk (by decide +kernel)) (gqk (by eq_refl)) ?_
  exact kont rr  [(h, .inr (4, [.int (nI n), .int (nI r), .ref a, .ref b])), (a, .inl (E.2.1 1, 24, .inl f)), (b, .inl (E.2.1 1, 96, .inl gg))] [(qh, .inr (1, [hlz_1, hrz_2, .int hzz_3, .ref ha, .ref hb, .ref hc])), (ha, .inl (E.2.1 1, 48, .inl flz_4)), (hb, .inl (E.2.1 1, 48, .inl fnz_5)), (hc, .inl (E.2.1 2, 192, .inr (.inl fsz_6)))]  ⟨n, r, a, b, f, gg, rfl, (by first | assumption | omega), (by first | assumption | omega), (by first | assumption | omega), rfl⟩ ⟨hlz_1, hrz_2, hzz_3, ha, hb, hc, flz_4, fnz_5, fsz_6, rfl, h_7⟩ (h_8)
theorem wc_X11_classOf : Cond.code yX11_classOf cX11_classOf 2 (some .int) ∈ TB := tbm (tq4 (List.mem_of_getElem? (i := 150) (rfl))) (by decide +kernel)
theorem wi_X11_classOf : Cond.instanceMethod yX11_classOf ∈ TB := tbm (tq4 (List.mem_of_getElem? (i := 148) (by decide +kernel))) (by decide +kernel)
theorem ws_X11_classOf : Cond.selects RX11 yX11_classOf yX11_classOf ∈ TB := tbm (tq4 (List.mem_of_getElem? (i := 149) (by decide +kernel))) (by decide +kernel)
theorem mi_X11_classOf : MI yX11_classOf cX11_classOf 2 (some .int) 1 := ⟨wc_X11_classOf, wn_X11, ⟨by decide +kernel, by decide +kernel, by decide +kernel⟩, wi_X11_classOf, ws_X11_classOf⟩
theorem wl_L_103 : Cond.methodLink RL 103 yX11_classOf ∈ TB := tbm (tq4 (List.mem_of_getElem? (i := 147) (by decide +kernel))) (by decide +kernel)
theorem dL_law_924 : decode cL_law 924 = .ok (.invokevirtual 103, 3) := dl_182 (by decide +kernel)
set_option maxRecDepth 100000 in
set_option maxHeartbeats 4000000 in
theorem lx_classOf {X : XT} {E : EV} {ro wT pre : va_W} {lv : List (Nat × Value)} {rest : List Value} {kC nC : Nat} {hx h qp qs qj ly qh kk rd pg ss : Nat} {ac np kc pe : Nat} {kn : Int32} {mN : AM} {w_now : va_W} {w_heap : va_W} {v0 : Int32}  (C : CX X room_1 cL_law 4 RL ret E) (hW : Nat.ble (rest.map fun v => v.category).sum 8 = true) (hT : wT = pre ++ ro) (hk : kC + 0 ≤ 600000 ∧ nC + 0 ≤ 7302250) (hac : ac ≤ 8) (hnp : np < 8) (hkc : kc ≤ 4) (hpe : pe ≤ 4) (H_now : ok_now E ro h mN w_now) (H_heap : ok_heap E ro qh  w_heap) (kont : ∀ (rr : Int32) (w_nowZ : va_W) (w_heapZ : va_W), ok_now E ro h mN w_nowZ → ok_heap E ro qh  w_heapZ → (rr = ansClassOf mN v0) → WW X 4 E 927 lv (.int rr :: rest) ([(hx, .inr (11, [.ref h, .ref qp, .int (nI ac), .int (nI np), .ref qs, .ref qj, .ref ly, .ref qh, .ref kk, .int (nI kc), .ref rd, .ref pg, .int (nI pe), .int kn, .ref ss]))] ++ (w_nowZ ++ (w_heapZ ++ wT))) kC nC) : WW X 4 E 924 lv (.int v0 :: .ref hx :: rest) ([(hx, .inr (11, [.ref h, .ref qp, .int (nI ac), .int (nI np), .ref qs, .ref qj, .ref ly, .ref qh, .ref kk, .int (nI kc), .ref rd, .ref pg, .int (nI pe), .int kn, .ref ss]))] ++ (w_now ++ (w_heap ++ wT))) kC nC := by
  unfold ok_now at H_now
  refine ex6 H_now ?_
  clear H_now
  intro n r a b f gg H_now
  refine an4 H_now ?_
  clear H_now
  intro we_now hn hr hwfm H_now
  have hmN := H_now
  clear H_now
  subst we_now
  subst hmN
  unfold ok_heap at H_heap
  refine ex8 H_heap ?_
  clear H_heap
  intro hl0 hr0 hz0 ha hb hc fl fn H_heap
  refine ex1 H_heap ?_
  clear H_heap
  intro fs H_heap
  refine an1 H_heap ?_
  clear H_heap
  intro we_heap H_heap
  have hrng := H_heap
  clear H_heap
  subst we_heap
  refine ww_eq (ws' := [(hx, .inr (11, [.ref h, .ref qp, .int (nI ac), .int (nI np), .ref qs, .ref qj, .ref ly, .ref qh, .ref kk, .int (nI kc), .ref rd, .ref pg, .int (nI pe), .int kn, .ref ss])), (h, .inr (4, [.int (nI n), .int (nI r), .ref a, .ref b])), (a, .inl (E.2.1 1, 24, .inl f)), (b, .inl (E.2.1 1, 96, .inl gg)), (qh, .inr (1, [hl0, hr0, .int hz0, .ref ha, .ref hb, .ref hc])), (ha, .inl (E.2.1 1, 48, .inl fl)), (hb, .inl (E.2.1 1, 48, .inl fn)), (hc, .inl (E.2.1 2, 192, .inr (.inl fs)))] ++ wT) ?_ rfl rfl rfl
  refine ww_ciT (k' := kC) (n' := nC) (wr := []) C (run_V (As := [.int v0]) (rest := rest) C (x_classOf X.2.1 E ro hx v0 h qp ac np qs qj ly qh kk kc rd pg pe kn ss n r a b f gg hl0 hr0 hz0 ha hb hc fl fn fs (by first | assumption | omega) (by first | assumption | omega) (by first | assumption | omega) (by first | assumption | omega) (by first | assumption | omega) (by first | assumption | omega) (by first | assumption | omega) hrng) mi_X11_classOf wl_L_103 rfl 0 11 rfl rfl rfl rfl hW dL_law_924) (roT (pre := pre) [0, 1, 2, 3, 4, 5, 6, 7] rfl hT) [0, 1, 2, 3, 4, 5, 6, 7] [] (gqk (by eq_refl)) rfl (plk (by decide +kernel)) ⟨by omega, by omega, hk.1, hk.2⟩ (fun rr u hw => ?_)
  refine ex6 hw ?_
  clear hw
  intro hlz_1 hrz_2 hzz_3 flz_4 fnz_5 fsz_6 hw
  refine an2 hw ?_
  clear hw
  intro he_u h_7 hw
  have h_8 := hw
  clear hw
  subst he_u
  refine ww_subT (w1 := [(hx, .inr (11, [.ref h, .ref qp, .int (nI ac), .int (nI np), .ref qs, .ref qj, .ref ly, .ref qh, .ref kk, .int (nI kc), .ref rd, .ref pg, .int (nI pe), .int kn, .ref ss])), (h, .inr (4, [.int (nI n), .int (nI r), .ref a, .ref b])), (a, .inl (E.2.1 1, 24, .inl f)), (b, .inl (E.2.1 1, 96, .inl gg)), (qh, .inr (1, [hlz_1, hrz_2, .int hzz_3, .ref ha, .ref hb, .ref hc])), (ha, .inl (E.2.1 1, 48, .inl flz_4)), (hb, .inl (E.2.1 1, 48, .inl fnz_5)), (hc, .inl (E.2.1 2, 192, .inr (.inl fsz_6)))]) [0, 1, 2, 3, 4, 5, 6, 7] (ndk (by decide +kernel)) (gqk (by eq_refl)) ?_
  exact kont rr  [(h, .inr (4, [.int (nI n), .int (nI r), .ref a, .ref b])), (a, .inl (E.2.1 1, 24, .inl f)), (b, .inl (E.2.1 1, 96, .inl gg))] [(qh, .inr (1, [hlz_1, hrz_2, .int hzz_3, .ref ha, .ref hb, .ref hc])), (ha, .inl (E.2.1 1, 48, .inl flz_4)), (hb, .inl (E.2.1 1, 48, .inl fnz_5)), (hc, .inl (E.2.1 2, 192, .inr (.inl fsz_6)))]  ⟨n, r, a, b, f, gg, rfl, (by first | assumption | omega), (by first | assumption | omega), (by first | assumption | omega), rfl⟩ ⟨hlz_1, hrz_2, hzz_3, ha, hb, hc, flz_4, fnz_5, fsz_6, rfl, h_7⟩ (h_8)
theorem wc_X11_depth : Cond.code yX11_depth cX11_depth 3 (some .int) ∈ TB := tbm (tq4 (List.mem_of_getElem? (i := 154) (rfl))) (by decide +kernel)
theorem wi_X11_depth : Cond.instanceMethod yX11_depth ∈ TB := tbm (tq4 (List.mem_of_getElem? (i := 152) (by decide +kernel))) (by decide +kernel)
theorem ws_X11_depth : Cond.selects RX11 yX11_depth yX11_depth ∈ TB := tbm (tq4 (List.mem_of_getElem? (i := 153) (by decide +kernel))) (by decide +kernel)
theorem mi_X11_depth : MI yX11_depth cX11_depth 3 (some .int) 2 := ⟨wc_X11_depth, wn_X11, ⟨by decide +kernel, by decide +kernel, by decide +kernel⟩, wi_X11_depth, ws_X11_depth⟩
theorem wl_L_107 : Cond.methodLink RL 107 yX11_depth ∈ TB := tbm (tq4 (List.mem_of_getElem? (i := 151) (by decide +kernel))) (by decide +kernel)
theorem dL_law_952 : decode cL_law 952 = .ok (.invokevirtual 107, 3) := dl_182 (by decide +kernel)
set_option maxRecDepth 100000 in
set_option maxHeartbeats 4000000 in
theorem lx_depth {X : XT} {E : EV} {ro wT pre : va_W} {lv : List (Nat × Value)} {rest : List Value} {kC nC : Nat} {hx h qp qs qj ly qh kk rd pg ss : Nat} {ac np kc pe : Nat} {kn : Int32} {mN : AM} {w_now : va_W} {w_heap : va_W} {v0 : Int32} {v1 : Int32}  (C : CX X room_1 cL_law 4 RL ret E) (hW : Nat.ble (rest.map fun v => v.category).sum 8 = true) (hT : wT = pre ++ ro) (hk : kC + 0 ≤ 600000 ∧ nC + 0 ≤ 7302250) (hac : ac ≤ 8) (hnp : np < 8) (hkc : kc ≤ 4) (hpe : pe ≤ 4) (H_now : ok_now E ro h mN w_now) (H_heap : ok_heap E ro qh  w_heap) (kont : ∀ (rr : Int32) (w_nowZ : va_W) (w_heapZ : va_W), ok_now E ro h mN w_nowZ → ok_heap E ro qh  w_heapZ → (ansDep mN v0 v1 rr) → WW X 4 E 955 lv (.int rr :: rest) ([(hx, .inr (11, [.ref h, .ref qp, .int (nI ac), .int (nI np), .ref qs, .ref qj, .ref ly, .ref qh, .ref kk, .int (nI kc), .ref rd, .ref pg, .int (nI pe), .int kn, .ref ss]))] ++ (w_nowZ ++ (w_heapZ ++ wT))) kC nC) : WW X 4 E 952 lv (.int v1 :: .int v0 :: .ref hx :: rest) ([(hx, .inr (11, [.ref h, .ref qp, .int (nI ac), .int (nI np), .ref qs, .ref qj, .ref ly, .ref qh, .ref kk, .int (nI kc), .ref rd, .ref pg, .int (nI pe), .int kn, .ref ss]))] ++ (w_now ++ (w_heap ++ wT))) kC nC := by
  unfold ok_now at H_now
  refine ex6 H_now ?_
  clear H_now
  intro n r a b f gg H_now
  refine an4 H_now ?_
  clear H_now
  intro we_now hn hr hwfm H_now
  have hmN := H_now
  clear H_now
  subst we_now
  subst hmN
  unfold ok_heap at H_heap
  refine ex8 H_heap ?_
  clear H_heap
  intro hl0 hr0 hz0 ha hb hc fl fn H_heap
  refine ex1 H_heap ?_
  clear H_heap
  intro fs H_heap
  refine an1 H_heap ?_
  clear H_heap
  intro we_heap H_heap
  have hrng := H_heap
  clear H_heap
  subst we_heap
  refine ww_eq (ws' := [(hx, .inr (11, [.ref h, .ref qp, .int (nI ac), .int (nI np), .ref qs, .ref qj, .ref ly, .ref qh, .ref kk, .int (nI kc), .ref rd, .ref pg, .int (nI pe), .int kn, .ref ss])), (h, .inr (4, [.int (nI n), .int (nI r), .ref a, .ref b])), (a, .inl (E.2.1 1, 24, .inl f)), (b, .inl (E.2.1 1, 96, .inl gg)), (qh, .inr (1, [hl0, hr0, .int hz0, .ref ha, .ref hb, .ref hc])), (ha, .inl (E.2.1 1, 48, .inl fl)), (hb, .inl (E.2.1 1, 48, .inl fn)), (hc, .inl (E.2.1 2, 192, .inr (.inl fs)))] ++ wT) ?_ rfl rfl rfl
  refine ww_ciT (k' := kC) (n' := nC) (wr := []) C (run_V (As := [.int v0, .int v1]) (rest := rest) C (x_depth X.2.1 E ro hx v0 v1 h qp ac np qs qj ly qh kk kc rd pg pe kn ss n r a b f gg hl0 hr0 hz0 ha hb hc fl fn fs (by first | assumption | omega) (by first | assumption | omega) (by first | assumption | omega) (by first | assumption | omega) (by first | assumption | omega) (by first | assumption | omega) (by first | assumption | omega) hrng) mi_X11_depth wl_L_107 rfl 0 11 rfl rfl rfl rfl hW dL_law_952) (roT (pre := pre) [0, 1, 2, 3, 4, 5, 6, 7] rfl hT) [0, 1, 2, 3, 4, 5, 6, 7] [] (gqk (by eq_refl)) rfl (plk (by decide +kernel)) ⟨by omega, by omega, hk.1, hk.2⟩ (fun rr u hw => ?_)
  refine ex6 hw ?_
  clear hw
  intro hlz_1 hrz_2 hzz_3 flz_4 fnz_5 fsz_6 hw
  refine an2 hw ?_
  clear hw
  intro he_u h_7 hw
  have h_8 := hw
  clear hw
  subst he_u
  refine ww_subT (w1 := [(hx, .inr (11, [.ref h, .ref qp, .int (nI ac), .int (nI np), .ref qs, .ref qj, .ref ly, .ref qh, .ref kk, .int (nI kc), .ref rd, .ref pg, .int (nI pe), .int kn, .ref ss])), (h, .inr (4, [.int (nI n), .int (nI r), .ref a, .ref b])), (a, .inl (E.2.1 1, 24, .inl f)), (b, .inl (E.2.1 1, 96, .inl gg)), (qh, .inr (1, [hlz_1, hrz_2, .int hzz_3, .ref ha, .ref hb, .ref hc])), (ha, .inl (E.2.1 1, 48, .inl flz_4)), (hb, .inl (E.2.1 1, 48, .inl fnz_5)), (hc, .inl (E.2.1 2, 192, .inr (.inl fsz_6)))]) [0, 1, 2, 3, 4, 5, 6, 7] (ndk (by decide +kernel)) (gqk (by eq_refl)) ?_
  exact kont rr  [(h, .inr (4, [.int (nI n), .int (nI r), .ref a, .ref b])), (a, .inl (E.2.1 1, 24, .inl f)), (b, .inl (E.2.1 1, 96, .inl gg))] [(qh, .inr (1, [hlz_1, hrz_2, .int hzz_3, .ref ha, .ref hb, .ref hc])), (ha, .inl (E.2.1 1, 48, .inl flz_4)), (hb, .inl (E.2.1 1, 48, .inl fnz_5)), (hc, .inl (E.2.1 2, 192, .inr (.inl fsz_6)))]  ⟨n, r, a, b, f, gg, rfl, (by first | assumption | omega), (by first | assumption | omega), (by first | assumption | omega), rfl⟩ ⟨hlz_1, hrz_2, hzz_3, ha, hb, hc, flz_4, fnz_5, fsz_6, rfl, h_7⟩ (h_8)
theorem wc_X11_melt : Cond.code yX11_melt cX11_melt 1 (some .int) ∈ TB := tbm (tq4 (List.mem_of_getElem? (i := 162) (rfl))) (by decide +kernel)
theorem wi_X11_melt : Cond.instanceMethod yX11_melt ∈ TB := tbm (tq4 (List.mem_of_getElem? (i := 160) (by decide +kernel))) (by decide +kernel)
theorem ws_X11_melt : Cond.selects RX11 yX11_melt yX11_melt ∈ TB := tbm (tq4 (List.mem_of_getElem? (i := 161) (by decide +kernel))) (by decide +kernel)
theorem mi_X11_melt : MI yX11_melt cX11_melt 1 (some .int) 0 := ⟨wc_X11_melt, wn_X11, ⟨by decide +kernel, by decide +kernel, by decide +kernel⟩, wi_X11_melt, ws_X11_melt⟩
theorem wl_L_111 : Cond.methodLink RL 111 yX11_melt ∈ TB := tbm (tq4 (List.mem_of_getElem? (i := 159) (by decide +kernel))) (by decide +kernel)
theorem dL_law_975 : decode cL_law 975 = .ok (.invokevirtual 111, 3) := dl_182 (by decide +kernel)
set_option maxRecDepth 100000 in
set_option maxHeartbeats 4000000 in
theorem lx_melt {X : XT} {E : EV} {ro wT pre : va_W} {lv : List (Nat × Value)} {rest : List Value} {kC nC : Nat} {hx h qp qs qj ly qh kk rd pg ss : Nat} {ac np kc pe : Nat} {kn : Int32} {mN : AM} {pV : Nat → AM} {w_now : va_W} {w_past : va_W} {w_heap : va_W}  (C : CX X room_1 cL_law 4 RL ret E) (hW : Nat.ble (rest.map fun v => v.category).sum 8 = true) (hT : wT = pre ++ ro) (hk : kC + 0 ≤ 600000 ∧ nC + 0 ≤ 7302250) (hac : ac ≤ 8) (hnp : np < 8) (hkc : kc ≤ 4) (hpe : pe ≤ 4) (H_now : ok_now E ro h mN w_now) (H_past : ok_past E ro qp pV w_past) (H_heap : ok_heap E ro qh  w_heap) (kont : ∀ (rr : Int32) (acZ : Nat) (npZ : Nat) (mNZ : AM) (pVZ : Nat → AM) (w_nowZ : va_W) (w_pastZ : va_W) (w_heapZ : va_W), acZ ≤ 8 → npZ < 8 → ok_now E ro h mNZ w_nowZ → ok_past E ro qp pVZ w_pastZ → ok_heap E ro qh  w_heapZ → (((asX mNZ acZ npZ pVZ), rr) = opMelt (asX mN ac np pV)) → WW X 4 E 978 lv (.int rr :: rest) ([(hx, .inr (11, [.ref h, .ref qp, .int (nI acZ), .int (nI npZ), .ref qs, .ref qj, .ref ly, .ref qh, .ref kk, .int (nI kc), .ref rd, .ref pg, .int (nI pe), .int kn, .ref ss]))] ++ (w_nowZ ++ (w_pastZ ++ (w_heapZ ++ wT)))) kC nC) : WW X 4 E 975 lv (.ref hx :: rest) ([(hx, .inr (11, [.ref h, .ref qp, .int (nI ac), .int (nI np), .ref qs, .ref qj, .ref ly, .ref qh, .ref kk, .int (nI kc), .ref rd, .ref pg, .int (nI pe), .int kn, .ref ss]))] ++ (w_now ++ (w_past ++ (w_heap ++ wT)))) kC nC := by
  unfold ok_now at H_now
  refine ex6 H_now ?_
  clear H_now
  intro n r a b f gg H_now
  refine an4 H_now ?_
  clear H_now
  intro we_now hn hr hwfm H_now
  have hmN := H_now
  clear H_now
  subst we_now
  subst hmN
  unfold ok_past at H_past
  refine ex8 H_past ?_
  clear H_past
  intro fqp p0 p1 p2 p3 p4 p5 p6 H_past
  refine ex8 H_past ?_
  clear H_past
  intro p7 p0n p0r p0a p0b p0f p0g p1n H_past
  refine ex8 H_past ?_
  clear H_past
  intro p1r p1a p1b p1f p1g p2n p2r p2a H_past
  refine ex8 H_past ?_
  clear H_past
  intro p2b p2f p2g p3n p3r p3a p3b p3f H_past
  refine ex8 H_past ?_
  clear H_past
  intro p3g p4n p4r p4a p4b p4f p4g p5n H_past
  refine ex8 H_past ?_
  clear H_past
  intro p5r p5a p5b p5f p5g p6n p6r p6a H_past
  refine ex8 H_past ?_
  clear H_past
  intro p6b p6f p6g p7n p7r p7a p7b p7f H_past
  refine ex1 H_past ?_
  clear H_past
  intro p7g H_past
  refine an8 H_past ?_
  clear H_past
  intro we_past k_fqp_0 k_fqp_1 k_fqp_2 k_fqp_3 k_fqp_4 k_fqp_5 k_fqp_6 H_past
  refine an8 H_past ?_
  clear H_past
  intro k_fqp_7 hp0_n hp0_r hp0_w hp1_n hp1_r hp1_w hp2_n H_past
  refine an8 H_past ?_
  clear H_past
  intro hp2_r hp2_w hp3_n hp3_r hp3_w hp4_n hp4_r hp4_w H_past
  refine an8 H_past ?_
  clear H_past
  intro hp5_n hp5_r hp5_w hp6_n hp6_r hp6_w hp7_n hp7_r H_past
  refine an1 H_past ?_
  clear H_past
  intro hp7_w H_past
  have hpV := H_past
  clear H_past
  subst we_past
  subst hpV
  unfold ok_heap at H_heap
  refine ex8 H_heap ?_
  clear H_heap
  intro hl0 hr0 hz0 ha hb hc fl fn H_heap
  refine ex1 H_heap ?_
  clear H_heap
  intro fs H_heap
  refine an1 H_heap ?_
  clear H_heap
  intro we_heap H_heap
  have hrng := H_heap
  clear H_heap
  subst we_heap
  refine ww_eq (ws' := [(hx, .inr (11, [.ref h, .ref qp, .int (nI ac), .int (nI np), .ref qs, .ref qj, .ref ly, .ref qh, .ref kk, .int (nI kc), .ref rd, .ref pg, .int (nI pe), .int kn, .ref ss])), (h, .inr (4, [.int (nI n), .int (nI r), .ref a, .ref b])), (a, .inl (E.2.1 1, 24, .inl f)), (b, .inl (E.2.1 1, 96, .inl gg)), (qp, .inl (E.2.1 6, 8, .inr (.inr (.inr (.inr fqp))))), (p0, .inr (4, [.int (nI p0n), .int (nI p0r), .ref p0a, .ref p0b])), (p0a, .inl (E.2.1 1, 24, .inl p0f)), (p0b, .inl (E.2.1 1, 96, .inl p0g)), (p1, .inr (4, [.int (nI p1n), .int (nI p1r), .ref p1a, .ref p1b])), (p1a, .inl (E.2.1 1, 24, .inl p1f)), (p1b, .inl (E.2.1 1, 96, .inl p1g)), (p2, .inr (4, [.int (nI p2n), .int (nI p2r), .ref p2a, .ref p2b])), (p2a, .inl (E.2.1 1, 24, .inl p2f)), (p2b, .inl (E.2.1 1, 96, .inl p2g)), (p3, .inr (4, [.int (nI p3n), .int (nI p3r), .ref p3a, .ref p3b])), (p3a, .inl (E.2.1 1, 24, .inl p3f)), (p3b, .inl (E.2.1 1, 96, .inl p3g)), (p4, .inr (4, [.int (nI p4n), .int (nI p4r), .ref p4a, .ref p4b])), (p4a, .inl (E.2.1 1, 24, .inl p4f)), (p4b, .inl (E.2.1 1, 96, .inl p4g)), (p5, .inr (4, [.int (nI p5n), .int (nI p5r), .ref p5a, .ref p5b])), (p5a, .inl (E.2.1 1, 24, .inl p5f)), (p5b, .inl (E.2.1 1, 96, .inl p5g)), (p6, .inr (4, [.int (nI p6n), .int (nI p6r), .ref p6a, .ref p6b])), (p6a, .inl (E.2.1 1, 24, .inl p6f)), (p6b, .inl (E.2.1 1, 96, .inl p6g)), (p7, .inr (4, [.int (nI p7n), .int (nI p7r), .ref p7a, .ref p7b])), (p7a, .inl (E.2.1 1, 24, .inl p7f)), (p7b, .inl (E.2.1 1, 96, .inl p7g)), (qh, .inr (1, [hl0, hr0, .int hz0, .ref ha, .ref hb, .ref hc])), (ha, .inl (E.2.1 1, 48, .inl fl)), (hb, .inl (E.2.1 1, 48, .inl fn)), (hc, .inl (E.2.1 2, 192, .inr (.inl fs)))] ++ wT) ?_ rfl rfl rfl
  refine ww_ciT (k' := kC) (n' := nC) (wr := []) C (run_V (As := []) (rest := rest) C (x_melt X.2.1 E ro hx h qp ac np qs qj ly qh kk kc rd pg pe kn ss fqp p0 p1 p2 p3 p4 p5 p6 p7 p0n p0r p0a p0b p0f p0g p1n p1r p1a p1b p1f p1g p2n p2r p2a p2b p2f p2g p3n p3r p3a p3b p3f p3g p4n p4r p4a p4b p4f p4g p5n p5r p5a p5b p5f p5g p6n p6r p6a p6b p6f p6g p7n p7r p7a p7b p7f p7g n r a b f gg hl0 hr0 hz0 ha hb hc fl fn fs k_fqp_0 k_fqp_1 k_fqp_2 k_fqp_3 k_fqp_4 k_fqp_5 k_fqp_6 k_fqp_7 (by first | assumption | omega) (by first | assumption | omega) (by first | assumption | omega) (by first | assumption | omega) (by first | assumption | omega) (by first | assumption | omega) (by first | assumption | omega) (by first | assumption | omega) (by first | assumption | omega) (by first | assumption | omega) (by first | assumption | omega) (by first | assumption | omega) (by first | assumption | omega) (by first | assumption | omega) (by first | assumption | omega) (by first | assumption | omega) (by first | assumption | omega) (by first | assumption | omega) (by first | assumption | omega) (by first | assumption | omega) (by first | assumption | omega) (by first | assumption | omega) (by first | assumption | omega) (by first | assumption | omega) (by first | assumption | omega) (by first | assumption | omega) (by first | assumption | omega) (by first | assumption | omega) (by first | assumption | omega) (by first | assumption | omega) (by first | assumption | omega) hrng) mi_X11_melt wl_L_111 rfl 0 11 rfl rfl rfl rfl hW dL_law_975) (roT (pre := pre) [0, 4, 5, 6, 7, 8, 9, 10, 11, 12, 13, 14, 15, 16, 17, 18, 19, 20, 21, 22, 23, 24, 25, 26, 27, 28, 1, 2, 3, 29, 30, 31, 32] rfl hT) [0, 4, 5, 6, 7, 8, 9, 10, 11, 12, 13, 14, 15, 16, 17, 18, 19, 20, 21, 22, 23, 24, 25, 26, 27, 28, 1, 2, 3, 29, 30, 31, 32] [] (gqk (by eq_refl)) rfl (plk (by decide +kernel)) ⟨by omega, by omega, hk.1, hk.2⟩ (fun rr u hw => ?_)
  refine ex8 hw ?_
  clear hw
  intro acz_1 npz_2 p0nz_3 p0rz__4 p0fz_5 p0gz_6 p1nz_7 p1rz__8 hw
  refine ex8 hw ?_
  clear hw
  intro p1fz_9 p1gz_10 p2nz_11 p2rz__12 p2fz_13 p2gz_14 p3nz_15 p3rz__16 hw
  refine ex8 hw ?_
  clear hw
  intro p3fz_17 p3gz_18 p4nz_19 p4rz__20 p4fz_21 p4gz_22 p5nz_23 p5rz__24 hw
  refine ex8 hw ?_
  clear hw
  intro p5fz_25 p5gz_26 p6nz_27 p6rz__28 p6fz_29 p6gz_30 p7nz_31 p7rz__32 hw
  refine ex8 hw ?_
  clear hw
  intro p7fz_33 p7gz_34 nz_35 rz__36 fz_37 ggz_38 hlz_39 hrz_40 hw
  refine ex4 hw ?_
  clear hw
  intro hzz_41 flz_42 fnz_43 fsz_44 hw
  refine an8 hw ?_
  clear hw
  intro he_u h_45 h_46 h_47 h_48 h_49 h_50 h_51 hw
  refine an8 hw ?_
  clear hw
  intro h_52 h_53 h_54 h_55 h_56 h_57 h_58 h_59 hw
  refine an8 hw ?_
  clear hw
  intro h_60 h_61 h_62 h_63 h_64 h_65 h_66 h_67 hw
  refine an7 hw ?_
  clear hw
  intro h_68 h_69 h_70 h_71 h_72 h_73 h_74 hw
  have h_75 := hw
  clear hw
  subst he_u
  refine ww_subT (w1 := [(hx, .inr (11, [.ref h, .ref qp, .int (nI acz_1), .int (nI npz_2), .ref qs, .ref qj, .ref ly, .ref qh, .ref kk, .int (nI kc), .ref rd, .ref pg, .int (nI pe), .int kn, .ref ss])), (h, .inr (4, [.int (nI nz_35), .int (nI rz__36), .ref a, .ref b])), (a, .inl (E.2.1 1, 24, .inl fz_37)), (b, .inl (E.2.1 1, 96, .inl ggz_38)), (qp, .inl (E.2.1 6, 8, .inr (.inr (.inr (.inr fqp))))), (p0, .inr (4, [.int (nI p0nz_3), .int (nI p0rz__4), .ref p0a, .ref p0b])), (p0a, .inl (E.2.1 1, 24, .inl p0fz_5)), (p0b, .inl (E.2.1 1, 96, .inl p0gz_6)), (p1, .inr (4, [.int (nI p1nz_7), .int (nI p1rz__8), .ref p1a, .ref p1b])), (p1a, .inl (E.2.1 1, 24, .inl p1fz_9)), (p1b, .inl (E.2.1 1, 96, .inl p1gz_10)), (p2, .inr (4, [.int (nI p2nz_11), .int (nI p2rz__12), .ref p2a, .ref p2b])), (p2a, .inl (E.2.1 1, 24, .inl p2fz_13)), (p2b, .inl (E.2.1 1, 96, .inl p2gz_14)), (p3, .inr (4, [.int (nI p3nz_15), .int (nI p3rz__16), .ref p3a, .ref p3b])), (p3a, .inl (E.2.1 1, 24, .inl p3fz_17)), (p3b, .inl (E.2.1 1, 96, .inl p3gz_18)), (p4, .inr (4, [.int (nI p4nz_19), .int (nI p4rz__20), .ref p4a, .ref p4b])), (p4a, .inl (E.2.1 1, 24, .inl p4fz_21)), (p4b, .inl (E.2.1 1, 96, .inl p4gz_22)), (p5, .inr (4, [.int (nI p5nz_23), .int (nI p5rz__24), .ref p5a, .ref p5b])), (p5a, .inl (E.2.1 1, 24, .inl p5fz_25)), (p5b, .inl (E.2.1 1, 96, .inl p5gz_26)), (p6, .inr (4, [.int (nI p6nz_27), .int (nI p6rz__28), .ref p6a, .ref p6b])), (p6a, .inl (E.2.1 1, 24, .inl p6fz_29)), (p6b, .inl (E.2.1 1, 96, .inl p6gz_30)), (p7, .inr (4, [.int (nI p7nz_31), .int (nI p7rz__32), .ref p7a, .ref p7b])), (p7a, .inl (E.2.1 1, 24, .inl p7fz_33)), (p7b, .inl (E.2.1 1, 96, .inl p7gz_34)), (qh, .inr (1, [hlz_39, hrz_40, .int hzz_41, .ref ha, .ref hb, .ref hc])), (ha, .inl (E.2.1 1, 48, .inl flz_42)), (hb, .inl (E.2.1 1, 48, .inl fnz_43)), (hc, .inl (E.2.1 2, 192, .inr (.inl fsz_44)))]) [0, 26, 27, 28, 1, 2, 3, 4, 5, 6, 7, 8, 9, 10, 11, 12, 13, 14, 15, 16, 17, 18, 19, 20, 21, 22, 23, 24, 25, 29, 30, 31, 32] (ndk (by decide +kernel)) (gqk (by eq_refl)) ?_
  exact kont rr acz_1 npz_2 (am nz_35 rz__36 fz_37 ggz_38) (pick8 (am p0nz_3 p0rz__4 p0fz_5 p0gz_6) (am p1nz_7 p1rz__8 p1fz_9 p1gz_10) (am p2nz_11 p2rz__12 p2fz_13 p2gz_14) (am p3nz_15 p3rz__16 p3fz_17 p3gz_18) (am p4nz_19 p4rz__20 p4fz_21 p4gz_22) (am p5nz_23 p5rz__24 p5fz_25 p5gz_26) (am p6nz_27 p6rz__28 p6fz_29 p6gz_30) (am p7nz_31 p7rz__32 p7fz_33 p7gz_34)) [(h, .inr (4, [.int (nI nz_35), .int (nI rz__36), .ref a, .ref b])), (a, .inl (E.2.1 1, 24, .inl fz_37)), (b, .inl (E.2.1 1, 96, .inl ggz_38))] [(qp, .inl (E.2.1 6, 8, .inr (.inr (.inr (.inr fqp))))), (p0, .inr (4, [.int (nI p0nz_3), .int (nI p0rz__4), .ref p0a, .ref p0b])), (p0a, .inl (E.2.1 1, 24, .inl p0fz_5)), (p0b, .inl (E.2.1 1, 96, .inl p0gz_6)), (p1, .inr (4, [.int (nI p1nz_7), .int (nI p1rz__8), .ref p1a, .ref p1b])), (p1a, .inl (E.2.1 1, 24, .inl p1fz_9)), (p1b, .inl (E.2.1 1, 96, .inl p1gz_10)), (p2, .inr (4, [.int (nI p2nz_11), .int (nI p2rz__12), .ref p2a, .ref p2b])), (p2a, .inl (E.2.1 1, 24, .inl p2fz_13)), (p2b, .inl (E.2.1 1, 96, .inl p2gz_14)), (p3, .inr (4, [.int (nI p3nz_15), .int (nI p3rz__16), .ref p3a, .ref p3b])), (p3a, .inl (E.2.1 1, 24, .inl p3fz_17)), (p3b, .inl (E.2.1 1, 96, .inl p3gz_18)), (p4, .inr (4, [.int (nI p4nz_19), .int (nI p4rz__20), .ref p4a, .ref p4b])), (p4a, .inl (E.2.1 1, 24, .inl p4fz_21)), (p4b, .inl (E.2.1 1, 96, .inl p4gz_22)), (p5, .inr (4, [.int (nI p5nz_23), .int (nI p5rz__24), .ref p5a, .ref p5b])), (p5a, .inl (E.2.1 1, 24, .inl p5fz_25)), (p5b, .inl (E.2.1 1, 96, .inl p5gz_26)), (p6, .inr (4, [.int (nI p6nz_27), .int (nI p6rz__28), .ref p6a, .ref p6b])), (p6a, .inl (E.2.1 1, 24, .inl p6fz_29)), (p6b, .inl (E.2.1 1, 96, .inl p6gz_30)), (p7, .inr (4, [.int (nI p7nz_31), .int (nI p7rz__32), .ref p7a, .ref p7b])), (p7a, .inl (E.2.1 1, 24, .inl p7fz_33)), (p7b, .inl (E.2.1 1, 96, .inl p7gz_34))] [(qh, .inr (1, [hlz_39, hrz_40, .int hzz_41, .ref ha, .ref hb, .ref hc])), (ha, .inl (E.2.1 1, 48, .inl flz_42)), (hb, .inl (E.2.1 1, 48, .inl fnz_43)), (hc, .inl (E.2.1 2, 192, .inr (.inl fsz_44)))] (by first | assumption | omega) (by first | assumption | omega) ⟨nz_35, rz__36, a, b, fz_37, ggz_38, rfl, (by first | assumption | omega), (by first | assumption | omega), (by first | assumption | omega), rfl⟩ ⟨fqp, p0, p1, p2, p3, p4, p5, p6, p7, p0nz_3, p0rz__4, p0a, p0b, p0fz_5, p0gz_6, p1nz_7, p1rz__8, p1a, p1b, p1fz_9, p1gz_10, p2nz_11, p2rz__12, p2a, p2b, p2fz_13, p2gz_14, p3nz_15, p3rz__16, p3a, p3b, p3fz_17, p3gz_18, p4nz_19, p4rz__20, p4a, p4b, p4fz_21, p4gz_22, p5nz_23, p5rz__24, p5a, p5b, p5fz_25, p5gz_26, p6nz_27, p6rz__28, p6a, p6b, p6fz_29, p6gz_30, p7nz_31, p7rz__32, p7a, p7b, p7fz_33, p7gz_34, rfl, k_fqp_0, k_fqp_1, k_fqp_2, k_fqp_3, k_fqp_4, k_fqp_5, k_fqp_6, k_fqp_7, (by first | assumption | omega), (by first | assumption | omega), (by first | assumption | omega), (by first | assumption | omega), (by first | assumption | omega), (by first | assumption | omega), (by first | assumption | omega), (by first | assumption | omega), (by first | assumption | omega), (by first | assumption | omega), (by first | assumption | omega), (by first | assumption | omega), (by first | assumption | omega), (by first | assumption | omega), (by first | assumption | omega), (by first | assumption | omega), (by first | assumption | omega), (by first | assumption | omega), (by first | assumption | omega), (by first | assumption | omega), (by first | assumption | omega), (by first | assumption | omega), (by first | assumption | omega), (by first | assumption | omega), rfl⟩ ⟨hlz_39, hrz_40, hzz_41, ha, hb, hc, flz_42, fnz_43, fsz_44, rfl, h_74⟩ (h_75)
end
section
theorem wc_X11_keep : Cond.code yX11_keep cX11_keep 1 (some .int) ∈ TB := tbm (tq4 (List.mem_of_getElem? (i := 174) (rfl))) (by decide +kernel)
theorem wi_X11_keep : Cond.instanceMethod yX11_keep ∈ TB := tbm (tq4 (List.mem_of_getElem? (i := 172) (by decide +kernel))) (by decide +kernel)
theorem ws_X11_keep : Cond.selects RX11 yX11_keep yX11_keep ∈ TB := tbm (tq4 (List.mem_of_getElem? (i := 173) (by decide +kernel))) (by decide +kernel)
theorem mi_X11_keep : MI yX11_keep cX11_keep 1 (some .int) 0 := ⟨wc_X11_keep, wn_X11, ⟨by decide +kernel, by decide +kernel, by decide +kernel⟩, wi_X11_keep, ws_X11_keep⟩
theorem wl_L_115 : Cond.methodLink RL 115 yX11_keep ∈ TB := tbm (tq4 (List.mem_of_getElem? (i := 171) (by decide +kernel))) (by decide +kernel)
theorem dL_law_988 : decode cL_law 988 = .ok (.invokevirtual 115, 3) := dl_182 (by decide +kernel)
set_option maxRecDepth 100000 in
set_option maxHeartbeats 4000000 in
theorem lx_keep {X : XT} {E : EV} {ro wT pre : va_W} {lv : List (Nat × Value)} {rest : List Value} {kC nC : Nat} {hx h qp qs qj ly qh kk rd pg ss : Nat} {ac np kc pe : Nat} {kn : Int32} {mN : AM} {kV : Nat → AM} {w_now : va_W} {w_kept : va_W}  (C : CX X room_1 cL_law 4 RL ret E) (hW : Nat.ble (rest.map fun v => v.category).sum 8 = true) (hT : wT = pre ++ ro) (hk : kC + 0 ≤ 600000 ∧ nC + 0 ≤ 7302250) (hac : ac ≤ 8) (hnp : np < 8) (hkc : kc ≤ 4) (hpe : pe ≤ 4) (H_now : ok_now E ro h mN w_now) (H_kept : ok_kept E ro kk kc kV w_kept) (kont : ∀ (rr : Int32) (kcZ : Nat) (kVZ : Nat → AM) (w_nowZ : va_W) (w_keptZ : va_W), kcZ ≤ 4 → ok_now E ro h mN w_nowZ → ok_kept E ro kk kcZ kVZ w_keptZ → (KPx mN.1 kc kcZ mN kV kVZ rr) → WW X 4 E 991 lv (.int rr :: rest) ([(hx, .inr (11, [.ref h, .ref qp, .int (nI ac), .int (nI np), .ref qs, .ref qj, .ref ly, .ref qh, .ref kk, .int (nI kcZ), .ref rd, .ref pg, .int (nI pe), .int kn, .ref ss]))] ++ (w_nowZ ++ (w_keptZ ++ wT))) kC nC) : WW X 4 E 988 lv (.ref hx :: rest) ([(hx, .inr (11, [.ref h, .ref qp, .int (nI ac), .int (nI np), .ref qs, .ref qj, .ref ly, .ref qh, .ref kk, .int (nI kc), .ref rd, .ref pg, .int (nI pe), .int kn, .ref ss]))] ++ (w_now ++ (w_kept ++ wT))) kC nC := by
  unfold ok_now at H_now
  refine ex6 H_now ?_
  clear H_now
  intro n r a b f gg H_now
  refine an4 H_now ?_
  clear H_now
  intro we_now hn hr hwfm H_now
  have hmN := H_now
  clear H_now
  subst we_now
  subst hmN
  unfold ok_kept at H_kept
  refine ex8 H_kept ?_
  clear H_kept
  intro fkk k0 k1 k2 k3 k0n k0r k0a H_kept
  refine ex8 H_kept ?_
  clear H_kept
  intro k0b k0f k0g k1n k1r k1a k1b k1f H_kept
  refine ex8 H_kept ?_
  clear H_kept
  intro k1g k2n k2r k2a k2b k2f k2g k3n H_kept
  refine ex5 H_kept ?_
  clear H_kept
  intro k3r k3a k3b k3f k3g H_kept
  refine an8 H_kept ?_
  clear H_kept
  intro we_kept k_fkk_0 k_fkk_1 k_fkk_2 k_fkk_3 hk0_n hk0_r hk0_w H_kept
  refine an8 H_kept ?_
  clear H_kept
  intro hk0_k hk1_n hk1_r hk1_w hk1_k hk2_n hk2_r hk2_w H_kept
  refine an5 H_kept ?_
  clear H_kept
  intro hk2_k hk3_n hk3_r hk3_w hk3_k H_kept
  have hkV := H_kept
  clear H_kept
  subst we_kept
  subst hkV
  refine ww_eq (ws' := [(hx, .inr (11, [.ref h, .ref qp, .int (nI ac), .int (nI np), .ref qs, .ref qj, .ref ly, .ref qh, .ref kk, .int (nI kc), .ref rd, .ref pg, .int (nI pe), .int kn, .ref ss])), (h, .inr (4, [.int (nI n), .int (nI r), .ref a, .ref b])), (a, .inl (E.2.1 1, 24, .inl f)), (b, .inl (E.2.1 1, 96, .inl gg)), (kk, .inl (E.2.1 6, 4, .inr (.inr (.inr (.inr fkk))))), (k0, .inr (4, [.int (nI k0n), .int (nI k0r), .ref k0a, .ref k0b])), (k0a, .inl (E.2.1 1, 24, .inl k0f)), (k0b, .inl (E.2.1 1, 96, .inl k0g)), (k1, .inr (4, [.int (nI k1n), .int (nI k1r), .ref k1a, .ref k1b])), (k1a, .inl (E.2.1 1, 24, .inl k1f)), (k1b, .inl (E.2.1 1, 96, .inl k1g)), (k2, .inr (4, [.int (nI k2n), .int (nI k2r), .ref k2a, .ref k2b])), (k2a, .inl (E.2.1 1, 24, .inl k2f)), (k2b, .inl (E.2.1 1, 96, .inl k2g)), (k3, .inr (4, [.int (nI k3n), .int (nI k3r), .ref k3a, .ref k3b])), (k3a, .inl (E.2.1 1, 24, .inl k3f)), (k3b, .inl (E.2.1 1, 96, .inl k3g))] ++ wT) ?_ rfl rfl rfl
  refine ww_ciT (k' := kC) (n' := nC) (wr := []) C (run_V (As := []) (rest := rest) C (x_keep X.2.1 E ro hx h qp ac np qs qj ly qh kk kc rd pg pe kn ss fkk k0 k1 k2 k3 k0n k0r k0a k0b k0f k0g k1n k1r k1a k1b k1f k1g k2n k2r k2a k2b k2f k2g k3n k3r k3a k3b k3f k3g n r a b f gg k_fkk_0 k_fkk_1 k_fkk_2 k_fkk_3 (by first | assumption | omega) (by first | assumption | omega) (by first | assumption | omega) (by first | assumption | omega) (by first | assumption | omega) (by first | assumption | omega) (by first | assumption | omega) (by first | assumption | omega) (by first | assumption | omega) (by first | assumption | omega) (by first | assumption | omega) (by first | assumption | omega) (by first | assumption | omega) (by first | assumption | omega) (by first | assumption | omega) (by first | assumption | omega) (by first | assumption | omega) (by first | assumption | omega) (by first | assumption | omega) (by first | assumption | omega) (by first | assumption | omega) (by first | assumption | omega) (by first | assumption | omega)) mi_X11_keep wl_L_115 rfl 0 11 rfl rfl rfl rfl hW dL_law_988) (roT (pre := pre) [0, 4, 5, 6, 7, 8, 9, 10, 11, 12, 13, 14, 15, 16, 1, 2, 3] rfl hT) [0, 4, 5, 6, 7, 8, 9, 10, 11, 12, 13, 14, 15, 16, 1, 2, 3] [] (gqk (by eq_refl)) rfl (plk (by decide +kernel)) ⟨by omega, by omega, hk.1, hk.2⟩ (fun rr u hw => ?_)
  refine ex8 hw ?_
  clear hw
  intro kcz_1 k0nz_2 k0rz__3 k0fz_4 k0gz_5 k1nz_6 k1rz__7 k1fz_8 hw
  refine ex8 hw ?_
  clear hw
  intro k1gz_9 k2nz_10 k2rz__11 k2fz_12 k2gz_13 k3nz_14 k3rz__15 k3fz_16 hw
  refine ex1 hw ?_
  clear hw
  intro k3gz_17 hw
  refine an8 hw ?_
  clear hw
  intro he_u h_18 h_19 h_20 h_21 h_22 h_23 h_24 hw
  refine an8 hw ?_
  clear hw
  intro h_25 h_26 h_27 h_28 h_29 h_30 h_31 h_32 hw
  refine an2 hw ?_
  clear hw
  intro h_33 h_34 hw
  have h_35 := hw
  clear hw
  subst he_u
  refine ww_subT (w1 := [(hx, .inr (11, [.ref h, .ref qp, .int (nI ac), .int (nI np), .ref qs, .ref qj, .ref ly, .ref qh, .ref kk, .int (nI kcz_1), .ref rd, .ref pg, .int (nI pe), .int kn, .ref ss])), (h, .inr (4, [.int (nI n), .int (nI r), .ref a, .ref b])), (a, .inl (E.2.1 1, 24, .inl f)), (b, .inl (E.2.1 1, 96, .inl gg)), (kk, .inl (E.2.1 6, 4, .inr (.inr (.inr (.inr fkk))))), (k0, .inr (4, [.int (nI k0nz_2), .int (nI k0rz__3), .ref k0a, .ref k0b])), (k0a, .inl (E.2.1 1, 24, .inl k0fz_4)), (k0b, .inl (E.2.1 1, 96, .inl k0gz_5)), (k1, .inr (4, [.int (nI k1nz_6), .int (nI k1rz__7), .ref k1a, .ref k1b])), (k1a, .inl (E.2.1 1, 24, .inl k1fz_8)), (k1b, .inl (E.2.1 1, 96, .inl k1gz_9)), (k2, .inr (4, [.int (nI k2nz_10), .int (nI k2rz__11), .ref k2a, .ref k2b])), (k2a, .inl (E.2.1 1, 24, .inl k2fz_12)), (k2b, .inl (E.2.1 1, 96, .inl k2gz_13)), (k3, .inr (4, [.int (nI k3nz_14), .int (nI k3rz__15), .ref k3a, .ref k3b])), (k3a, .inl (E.2.1 1, 24, .inl k3fz_16)), (k3b, .inl (E.2.1 1, 96, .inl k3gz_17))]) [0, 14, 15, 16, 1, 2, 3, 4, 5, 6, 7, 8, 9, 10, 11, 12, 13] (ndk (by decide +kernel)) (gqk (by eq_refl)) ?_
  exact kont rr kcz_1 (pick4 (am k0nz_2 k0rz__3 k0fz_4 k0gz_5) (am k1nz_6 k1rz__7 k1fz_8 k1gz_9) (am k2nz_10 k2rz__11 k2fz_12 k2gz_13) (am k3nz_14 k3rz__15 k3fz_16 k3gz_17)) [(h, .inr (4, [.int (nI n), .int (nI r), .ref a, .ref b])), (a, .inl (E.2.1 1, 24, .inl f)), (b, .inl (E.2.1 1, 96, .inl gg))] [(kk, .inl (E.2.1 6, 4, .inr (.inr (.inr (.inr fkk))))), (k0, .inr (4, [.int (nI k0nz_2), .int (nI k0rz__3), .ref k0a, .ref k0b])), (k0a, .inl (E.2.1 1, 24, .inl k0fz_4)), (k0b, .inl (E.2.1 1, 96, .inl k0gz_5)), (k1, .inr (4, [.int (nI k1nz_6), .int (nI k1rz__7), .ref k1a, .ref k1b])), (k1a, .inl (E.2.1 1, 24, .inl k1fz_8)), (k1b, .inl (E.2.1 1, 96, .inl k1gz_9)), (k2, .inr (4, [.int (nI k2nz_10), .int (nI k2rz__11), .ref k2a, .ref k2b])), (k2a, .inl (E.2.1 1, 24, .inl k2fz_12)), (k2b, .inl (E.2.1 1, 96, .inl k2gz_13)), (k3, .inr (4, [.int (nI k3nz_14), .int (nI k3rz__15), .ref k3a, .ref k3b])), (k3a, .inl (E.2.1 1, 24, .inl k3fz_16)), (k3b, .inl (E.2.1 1, 96, .inl k3gz_17))] (by first | assumption | omega) ⟨n, r, a, b, f, gg, rfl, (by first | assumption | omega), (by first | assumption | omega), (by first | assumption | omega), rfl⟩ ⟨fkk, k0, k1, k2, k3, k0nz_2, k0rz__3, k0a, k0b, k0fz_4, k0gz_5, k1nz_6, k1rz__7, k1a, k1b, k1fz_8, k1gz_9, k2nz_10, k2rz__11, k2a, k2b, k2fz_12, k2gz_13, k3nz_14, k3rz__15, k3a, k3b, k3fz_16, k3gz_17, rfl, k_fkk_0, k_fkk_1, k_fkk_2, k_fkk_3, (by first | assumption | omega), (by first | assumption | omega), (by first | assumption | omega), (by first | assumption | omega), (by first | assumption | omega), (by first | assumption | omega), (by first | assumption | omega), (by first | assumption | omega), (by first | assumption | omega), (by first | assumption | omega), (by first | assumption | omega), (by first | assumption | omega), (by first | assumption | omega), (by first | assumption | omega), (by first | assumption | omega), (by first | assumption | omega), rfl⟩ (h_35)
theorem wc_X11_stand : Cond.code yX11_stand cX11_stand 2 (some .int) ∈ TB := tbm (tq4 (List.mem_of_getElem? (i := 178) (rfl))) (by decide +kernel)
theorem wi_X11_stand : Cond.instanceMethod yX11_stand ∈ TB := tbm (tq4 (List.mem_of_getElem? (i := 176) (by decide +kernel))) (by decide +kernel)
theorem ws_X11_stand : Cond.selects RX11 yX11_stand yX11_stand ∈ TB := tbm (tq4 (List.mem_of_getElem? (i := 177) (by decide +kernel))) (by decide +kernel)
theorem mi_X11_stand : MI yX11_stand cX11_stand 2 (some .int) 1 := ⟨wc_X11_stand, wn_X11, ⟨by decide +kernel, by decide +kernel, by decide +kernel⟩, wi_X11_stand, ws_X11_stand⟩
theorem wl_L_119 : Cond.methodLink RL 119 yX11_stand ∈ TB := tbm (tq4 (List.mem_of_getElem? (i := 175) (by decide +kernel))) (by decide +kernel)
theorem dL_law_1006 : decode cL_law 1006 = .ok (.invokevirtual 119, 3) := dl_182 (by decide +kernel)
set_option maxRecDepth 100000 in
set_option maxHeartbeats 4000000 in
theorem lx_stand {X : XT} {E : EV} {ro wT pre : va_W} {lv : List (Nat × Value)} {rest : List Value} {kC nC : Nat} {hx h qp qs qj ly qh kk rd pg ss : Nat} {ac np kc pe : Nat} {kn : Int32} {mN : AM} {pV : Nat → AM} {kV : Nat → AM} {w_now : va_W} {w_past : va_W} {w_kept : va_W} {v0 : Int32}  (C : CX X room_1 cL_law 4 RL ret E) (hW : Nat.ble (rest.map fun v => v.category).sum 8 = true) (hT : wT = pre ++ ro) (hk : kC + 0 ≤ 600000 ∧ nC + 0 ≤ 7302250) (hac : ac ≤ 8) (hnp : np < 8) (hkc : kc ≤ 4) (hpe : pe ≤ 4) (H_now : ok_now E ro h mN w_now) (H_past : ok_past E ro qp pV w_past) (H_kept : ok_kept E ro kk kc kV w_kept) (kont : ∀ (rr : Int32) (acZ : Nat) (npZ : Nat) (mNZ : AM) (pVZ : Nat → AM) (w_nowZ : va_W) (w_pastZ : va_W) (w_keptZ : va_W), acZ ≤ 8 → npZ < 8 → ok_now E ro h mNZ w_nowZ → ok_past E ro qp pVZ w_pastZ → ok_kept E ro kk kc kV w_keptZ → (((asX mNZ acZ npZ pVZ), rr) = opStand (asX mN ac np pV) kc kV v0) → WW X 4 E 1009 lv (.int rr :: rest) ([(hx, .inr (11, [.ref h, .ref qp, .int (nI acZ), .int (nI npZ), .ref qs, .ref qj, .ref ly, .ref qh, .ref kk, .int (nI kc), .ref rd, .ref pg, .int (nI pe), .int kn, .ref ss]))] ++ (w_nowZ ++ (w_pastZ ++ (w_keptZ ++ wT)))) kC nC) : WW X 4 E 1006 lv (.int v0 :: .ref hx :: rest) ([(hx, .inr (11, [.ref h, .ref qp, .int (nI ac), .int (nI np), .ref qs, .ref qj, .ref ly, .ref qh, .ref kk, .int (nI kc), .ref rd, .ref pg, .int (nI pe), .int kn, .ref ss]))] ++ (w_now ++ (w_past ++ (w_kept ++ wT)))) kC nC := by
  unfold ok_now at H_now
  refine ex6 H_now ?_
  clear H_now
  intro n r a b f gg H_now
  refine an4 H_now ?_
  clear H_now
  intro we_now hn hr hwfm H_now
  have hmN := H_now
  clear H_now
  subst we_now
  subst hmN
  unfold ok_past at H_past
  refine ex8 H_past ?_
  clear H_past
  intro fqp p0 p1 p2 p3 p4 p5 p6 H_past
  refine ex8 H_past ?_
  clear H_past
  intro p7 p0n p0r p0a p0b p0f p0g p1n H_past
  refine ex8 H_past ?_
  clear H_past
  intro p1r p1a p1b p1f p1g p2n p2r p2a H_past
  refine ex8 H_past ?_
  clear H_past
  intro p2b p2f p2g p3n p3r p3a p3b p3f H_past
  refine ex8 H_past ?_
  clear H_past
  intro p3g p4n p4r p4a p4b p4f p4g p5n H_past
  refine ex8 H_past ?_
  clear H_past
  intro p5r p5a p5b p5f p5g p6n p6r p6a H_past
  refine ex8 H_past ?_
  clear H_past
  intro p6b p6f p6g p7n p7r p7a p7b p7f H_past
  refine ex1 H_past ?_
  clear H_past
  intro p7g H_past
  refine an8 H_past ?_
  clear H_past
  intro we_past k_fqp_0 k_fqp_1 k_fqp_2 k_fqp_3 k_fqp_4 k_fqp_5 k_fqp_6 H_past
  refine an8 H_past ?_
  clear H_past
  intro k_fqp_7 hp0_n hp0_r hp0_w hp1_n hp1_r hp1_w hp2_n H_past
  refine an8 H_past ?_
  clear H_past
  intro hp2_r hp2_w hp3_n hp3_r hp3_w hp4_n hp4_r hp4_w H_past
  refine an8 H_past ?_
  clear H_past
  intro hp5_n hp5_r hp5_w hp6_n hp6_r hp6_w hp7_n hp7_r H_past
  refine an1 H_past ?_
  clear H_past
  intro hp7_w H_past
  have hpV := H_past
  clear H_past
  subst we_past
  subst hpV
  unfold ok_kept at H_kept
  refine ex8 H_kept ?_
  clear H_kept
  intro fkk k0 k1 k2 k3 k0n k0r k0a H_kept
  refine ex8 H_kept ?_
  clear H_kept
  intro k0b k0f k0g k1n k1r k1a k1b k1f H_kept
  refine ex8 H_kept ?_
  clear H_kept
  intro k1g k2n k2r k2a k2b k2f k2g k3n H_kept
  refine ex5 H_kept ?_
  clear H_kept
  intro k3r k3a k3b k3f k3g H_kept
  refine an8 H_kept ?_
  clear H_kept
  intro we_kept k_fkk_0 k_fkk_1 k_fkk_2 k_fkk_3 hk0_n hk0_r hk0_w H_kept
  refine an8 H_kept ?_
  clear H_kept
  intro hk0_k hk1_n hk1_r hk1_w hk1_k hk2_n hk2_r hk2_w H_kept
  refine an5 H_kept ?_
  clear H_kept
  intro hk2_k hk3_n hk3_r hk3_w hk3_k H_kept
  have hkV := H_kept
  clear H_kept
  subst we_kept
  subst hkV
  refine ww_eq (ws' := [(hx, .inr (11, [.ref h, .ref qp, .int (nI ac), .int (nI np), .ref qs, .ref qj, .ref ly, .ref qh, .ref kk, .int (nI kc), .ref rd, .ref pg, .int (nI pe), .int kn, .ref ss])), (h, .inr (4, [.int (nI n), .int (nI r), .ref a, .ref b])), (a, .inl (E.2.1 1, 24, .inl f)), (b, .inl (E.2.1 1, 96, .inl gg)), (qp, .inl (E.2.1 6, 8, .inr (.inr (.inr (.inr fqp))))), (p0, .inr (4, [.int (nI p0n), .int (nI p0r), .ref p0a, .ref p0b])), (p0a, .inl (E.2.1 1, 24, .inl p0f)), (p0b, .inl (E.2.1 1, 96, .inl p0g)), (p1, .inr (4, [.int (nI p1n), .int (nI p1r), .ref p1a, .ref p1b])), (p1a, .inl (E.2.1 1, 24, .inl p1f)), (p1b, .inl (E.2.1 1, 96, .inl p1g)), (p2, .inr (4, [.int (nI p2n), .int (nI p2r), .ref p2a, .ref p2b])), (p2a, .inl (E.2.1 1, 24, .inl p2f)), (p2b, .inl (E.2.1 1, 96, .inl p2g)), (p3, .inr (4, [.int (nI p3n), .int (nI p3r), .ref p3a, .ref p3b])), (p3a, .inl (E.2.1 1, 24, .inl p3f)), (p3b, .inl (E.2.1 1, 96, .inl p3g)), (p4, .inr (4, [.int (nI p4n), .int (nI p4r), .ref p4a, .ref p4b])), (p4a, .inl (E.2.1 1, 24, .inl p4f)), (p4b, .inl (E.2.1 1, 96, .inl p4g)), (p5, .inr (4, [.int (nI p5n), .int (nI p5r), .ref p5a, .ref p5b])), (p5a, .inl (E.2.1 1, 24, .inl p5f)), (p5b, .inl (E.2.1 1, 96, .inl p5g)), (p6, .inr (4, [.int (nI p6n), .int (nI p6r), .ref p6a, .ref p6b])), (p6a, .inl (E.2.1 1, 24, .inl p6f)), (p6b, .inl (E.2.1 1, 96, .inl p6g)), (p7, .inr (4, [.int (nI p7n), .int (nI p7r), .ref p7a, .ref p7b])), (p7a, .inl (E.2.1 1, 24, .inl p7f)), (p7b, .inl (E.2.1 1, 96, .inl p7g)), (kk, .inl (E.2.1 6, 4, .inr (.inr (.inr (.inr fkk))))), (k0, .inr (4, [.int (nI k0n), .int (nI k0r), .ref k0a, .ref k0b])), (k0a, .inl (E.2.1 1, 24, .inl k0f)), (k0b, .inl (E.2.1 1, 96, .inl k0g)), (k1, .inr (4, [.int (nI k1n), .int (nI k1r), .ref k1a, .ref k1b])), (k1a, .inl (E.2.1 1, 24, .inl k1f)), (k1b, .inl (E.2.1 1, 96, .inl k1g)), (k2, .inr (4, [.int (nI k2n), .int (nI k2r), .ref k2a, .ref k2b])), (k2a, .inl (E.2.1 1, 24, .inl k2f)), (k2b, .inl (E.2.1 1, 96, .inl k2g)), (k3, .inr (4, [.int (nI k3n), .int (nI k3r), .ref k3a, .ref k3b])), (k3a, .inl (E.2.1 1, 24, .inl k3f)), (k3b, .inl (E.2.1 1, 96, .inl k3g))] ++ wT) ?_ rfl rfl rfl
  refine ww_ciT (k' := kC) (n' := nC) (wr := []) C (run_V (As := [.int v0]) (rest := rest) C (x_stand X.2.1 E ro hx v0 h qp ac np qs qj ly qh kk kc rd pg pe kn ss fqp p0 p1 p2 p3 p4 p5 p6 p7 p0n p0r p0a p0b p0f p0g p1n p1r p1a p1b p1f p1g p2n p2r p2a p2b p2f p2g p3n p3r p3a p3b p3f p3g p4n p4r p4a p4b p4f p4g p5n p5r p5a p5b p5f p5g p6n p6r p6a p6b p6f p6g p7n p7r p7a p7b p7f p7g n r a b f gg fkk k0 k1 k2 k3 k0n k0r k0a k0b k0f k0g k1n k1r k1a k1b k1f k1g k2n k2r k2a k2b k2f k2g k3n k3r k3a k3b k3f k3g k_fqp_0 k_fqp_1 k_fqp_2 k_fqp_3 k_fqp_4 k_fqp_5 k_fqp_6 k_fqp_7 k_fkk_0 k_fkk_1 k_fkk_2 k_fkk_3 (by first | assumption | omega) (by first | assumption | omega) (by first | assumption | omega) (by first | assumption | omega) (by first | assumption | omega) (by first | assumption | omega) (by first | assumption | omega) (by first | assumption | omega) (by first | assumption | omega) (by first | assumption | omega) (by first | assumption | omega) (by first | assumption | omega) (by first | assumption | omega) (by first | assumption | omega) (by first | assumption | omega) (by first | assumption | omega) (by first | assumption | omega) (by first | assumption | omega) (by first | assumption | omega) (by first | assumption | omega) (by first | assumption | omega) (by first | assumption | omega) (by first | assumption | omega) (by first | assumption | omega) (by first | assumption | omega) (by first | assumption | omega) (by first | assumption | omega) (by first | assumption | omega) (by first | assumption | omega) (by first | assumption | omega) (by first | assumption | omega) (by first | assumption | omega) (by first | assumption | omega) (by first | assumption | omega) (by first | assumption | omega) (by first | assumption | omega) (by first | assumption | omega) (by first | assumption | omega) (by first | assumption | omega) (by first | assumption | omega) (by first | assumption | omega) (by first | assumption | omega) (by first | assumption | omega) (by first | assumption | omega) (by first | assumption | omega) (by first | assumption | omega) (by first | assumption | omega)) mi_X11_stand wl_L_119 rfl 0 11 rfl rfl rfl rfl hW dL_law_1006) (roT (pre := pre) [0, 4, 5, 6, 7, 8, 9, 10, 11, 12, 13, 14, 15, 16, 17, 18, 19, 20, 21, 22, 23, 24, 25, 26, 27, 28, 1, 2, 3, 29, 30, 31, 32, 33, 34, 35, 36, 37, 38, 39, 40, 41] rfl hT) [0, 4, 5, 6, 7, 8, 9, 10, 11, 12, 13, 14, 15, 16, 17, 18, 19, 20, 21, 22, 23, 24, 25, 26, 27, 28, 1, 2, 3, 29, 30, 31, 32, 33, 34, 35, 36, 37, 38, 39, 40, 41] [] (gqk (by eq_refl)) rfl (plk (by decide +kernel)) ⟨by omega, by omega, hk.1, hk.2⟩ (fun rr u hw => ?_)
  refine ex8 hw ?_
  clear hw
  intro acz_1 npz_2 p0nz_3 p0rz__4 p0fz_5 p0gz_6 p1nz_7 p1rz__8 hw
  refine ex8 hw ?_
  clear hw
  intro p1fz_9 p1gz_10 p2nz_11 p2rz__12 p2fz_13 p2gz_14 p3nz_15 p3rz__16 hw
  refine ex8 hw ?_
  clear hw
  intro p3fz_17 p3gz_18 p4nz_19 p4rz__20 p4fz_21 p4gz_22 p5nz_23 p5rz__24 hw
  refine ex8 hw ?_
  clear hw
  intro p5fz_25 p5gz_26 p6nz_27 p6rz__28 p6fz_29 p6gz_30 p7nz_31 p7rz__32 hw
  refine ex6 hw ?_
  clear hw
  intro p7fz_33 p7gz_34 nz_35 rz__36 fz_37 ggz_38 hw
  refine an8 hw ?_
  clear hw
  intro he_u h_39 h_40 h_41 h_42 h_43 h_44 h_45 hw
  refine an8 hw ?_
  clear hw
  intro h_46 h_47 h_48 h_49 h_50 h_51 h_52 h_53 hw
  refine an8 hw ?_
  clear hw
  intro h_54 h_55 h_56 h_57 h_58 h_59 h_60 h_61 hw
  refine an6 hw ?_
  clear hw
  intro h_62 h_63 h_64 h_65 h_66 h_67 hw
  have h_68 := hw
  clear hw
  subst he_u
  refine ww_subT (w1 := [(hx, .inr (11, [.ref h, .ref qp, .int (nI acz_1), .int (nI npz_2), .ref qs, .ref qj, .ref ly, .ref qh, .ref kk, .int (nI kc), .ref rd, .ref pg, .int (nI pe), .int kn, .ref ss])), (h, .inr (4, [.int (nI nz_35), .int (nI rz__36), .ref a, .ref b])), (a, .inl (E.2.1 1, 24, .inl fz_37)), (b, .inl (E.2.1 1, 96, .inl ggz_38)), (qp, .inl (E.2.1 6, 8, .inr (.inr (.inr (.inr fqp))))), (p0, .inr (4, [.int (nI p0nz_3), .int (nI p0rz__4), .ref p0a, .ref p0b])), (p0a, .inl (E.2.1 1, 24, .inl p0fz_5)), (p0b, .inl (E.2.1 1, 96, .inl p0gz_6)), (p1, .inr (4, [.int (nI p1nz_7), .int (nI p1rz__8), .ref p1a, .ref p1b])), (p1a, .inl (E.2.1 1, 24, .inl p1fz_9)), (p1b, .inl (E.2.1 1, 96, .inl p1gz_10)), (p2, .inr (4, [.int (nI p2nz_11), .int (nI p2rz__12), .ref p2a, .ref p2b])), (p2a, .inl (E.2.1 1, 24, .inl p2fz_13)), (p2b, .inl (E.2.1 1, 96, .inl p2gz_14)), (p3, .inr (4, [.int (nI p3nz_15), .int (nI p3rz__16), .ref p3a, .ref p3b])), (p3a, .inl (E.2.1 1, 24, .inl p3fz_17)), (p3b, .inl (E.2.1 1, 96, .inl p3gz_18)), (p4, .inr (4, [.int (nI p4nz_19), .int (nI p4rz__20), .ref p4a, .ref p4b])), (p4a, .inl (E.2.1 1, 24, .inl p4fz_21)), (p4b, .inl (E.2.1 1, 96, .inl p4gz_22)), (p5, .inr (4, [.int (nI p5nz_23), .int (nI p5rz__24), .ref p5a, .ref p5b])), (p5a, .inl (E.2.1 1, 24, .inl p5fz_25)), (p5b, .inl (E.2.1 1, 96, .inl p5gz_26)), (p6, .inr (4, [.int (nI p6nz_27), .int (nI p6rz__28), .ref p6a, .ref p6b])), (p6a, .inl (E.2.1 1, 24, .inl p6fz_29)), (p6b, .inl (E.2.1 1, 96, .inl p6gz_30)), (p7, .inr (4, [.int (nI p7nz_31), .int (nI p7rz__32), .ref p7a, .ref p7b])), (p7a, .inl (E.2.1 1, 24, .inl p7fz_33)), (p7b, .inl (E.2.1 1, 96, .inl p7gz_34)), (kk, .inl (E.2.1 6, 4, .inr (.inr (.inr (.inr fkk))))), (k0, .inr (4, [.int (nI k0n), .int (nI k0r), .ref k0a, .ref k0b])), (k0a, .inl (E.2.1 1, 24, .inl k0f)), (k0b, .inl (E.2.1 1, 96, .inl k0g)), (k1, .inr (4, [.int (nI k1n), .int (nI k1r), .ref k1a, .ref k1b])), (k1a, .inl (E.2.1 1, 24, .inl k1f)), (k1b, .inl (E.2.1 1, 96, .inl k1g)), (k2, .inr (4, [.int (nI k2n), .int (nI k2r), .ref k2a, .ref k2b])), (k2a, .inl (E.2.1 1, 24, .inl k2f)), (k2b, .inl (E.2.1 1, 96, .inl k2g)), (k3, .inr (4, [.int (nI k3n), .int (nI k3r), .ref k3a, .ref k3b])), (k3a, .inl (E.2.1 1, 24, .inl k3f)), (k3b, .inl (E.2.1 1, 96, .inl k3g))]) [0, 26, 27, 28, 1, 2, 3, 4, 5, 6, 7, 8, 9, 10, 11, 12, 13, 14, 15, 16, 17, 18, 19, 20, 21, 22, 23, 24, 25, 29, 30, 31, 32, 33, 34, 35, 36, 37, 38, 39, 40, 41] (ndk (by decide +kernel)) (gqk (by eq_refl)) ?_
  exact kont rr acz_1 npz_2 (am nz_35 rz__36 fz_37 ggz_38) (pick8 (am p0nz_3 p0rz__4 p0fz_5 p0gz_6) (am p1nz_7 p1rz__8 p1fz_9 p1gz_10) (am p2nz_11 p2rz__12 p2fz_13 p2gz_14) (am p3nz_15 p3rz__16 p3fz_17 p3gz_18) (am p4nz_19 p4rz__20 p4fz_21 p4gz_22) (am p5nz_23 p5rz__24 p5fz_25 p5gz_26) (am p6nz_27 p6rz__28 p6fz_29 p6gz_30) (am p7nz_31 p7rz__32 p7fz_33 p7gz_34)) [(h, .inr (4, [.int (nI nz_35), .int (nI rz__36), .ref a, .ref b])), (a, .inl (E.2.1 1, 24, .inl fz_37)), (b, .inl (E.2.1 1, 96, .inl ggz_38))] [(qp, .inl (E.2.1 6, 8, .inr (.inr (.inr (.inr fqp))))), (p0, .inr (4, [.int (nI p0nz_3), .int (nI p0rz__4), .ref p0a, .ref p0b])), (p0a, .inl (E.2.1 1, 24, .inl p0fz_5)), (p0b, .inl (E.2.1 1, 96, .inl p0gz_6)), (p1, .inr (4, [.int (nI p1nz_7), .int (nI p1rz__8), .ref p1a, .ref p1b])), (p1a, .inl (E.2.1 1, 24, .inl p1fz_9)), (p1b, .inl (E.2.1 1, 96, .inl p1gz_10)), (p2, .inr (4, [.int (nI p2nz_11), .int (nI p2rz__12), .ref p2a, .ref p2b])), (p2a, .inl (E.2.1 1, 24, .inl p2fz_13)), (p2b, .inl (E.2.1 1, 96, .inl p2gz_14)), (p3, .inr (4, [.int (nI p3nz_15), .int (nI p3rz__16), .ref p3a, .ref p3b])), (p3a, .inl (E.2.1 1, 24, .inl p3fz_17)), (p3b, .inl (E.2.1 1, 96, .inl p3gz_18)), (p4, .inr (4, [.int (nI p4nz_19), .int (nI p4rz__20), .ref p4a, .ref p4b])), (p4a, .inl (E.2.1 1, 24, .inl p4fz_21)), (p4b, .inl (E.2.1 1, 96, .inl p4gz_22)), (p5, .inr (4, [.int (nI p5nz_23), .int (nI p5rz__24), .ref p5a, .ref p5b])), (p5a, .inl (E.2.1 1, 24, .inl p5fz_25)), (p5b, .inl (E.2.1 1, 96, .inl p5gz_26)), (p6, .inr (4, [.int (nI p6nz_27), .int (nI p6rz__28), .ref p6a, .ref p6b])), (p6a, .inl (E.2.1 1, 24, .inl p6fz_29)), (p6b, .inl (E.2.1 1, 96, .inl p6gz_30)), (p7, .inr (4, [.int (nI p7nz_31), .int (nI p7rz__32), .ref p7a, .ref p7b])), (p7a, .inl (E.2.1 1, 24, .inl p7fz_33)), (p7b, .inl (E.2.1 1, 96, .inl p7gz_34))] [(kk, .inl (E.2.1 6, 4, .inr (.inr (.inr (.inr fkk))))), (k0, .inr (4, [.int (nI k0n), .int (nI k0r), .ref k0a, .ref k0b])), (k0a, .inl (E.2.1 1, 24, .inl k0f)), (k0b, .inl (E.2.1 1, 96, .inl k0g)), (k1, .inr (4, [.int (nI k1n), .int (nI k1r), .ref k1a, .ref k1b])), (k1a, .inl (E.2.1 1, 24, .inl k1f)), (k1b, .inl (E.2.1 1, 96, .inl k1g)), (k2, .inr (4, [.int (nI k2n), .int (nI k2r), .ref k2a, .ref k2b])), (k2a, .inl (E.2.1 1, 24, .inl k2f)), (k2b, .inl (E.2.1 1, 96, .inl k2g)), (k3, .inr (4, [.int (nI k3n), .int (nI k3r), .ref k3a, .ref k3b])), (k3a, .inl (E.2.1 1, 24, .inl k3f)), (k3b, .inl (E.2.1 1, 96, .inl k3g))] (by first | assumption | omega) (by first | assumption | omega) ⟨nz_35, rz__36, a, b, fz_37, ggz_38, rfl, (by first | assumption | omega), (by first | assumption | omega), (by first | assumption | omega), rfl⟩ ⟨fqp, p0, p1, p2, p3, p4, p5, p6, p7, p0nz_3, p0rz__4, p0a, p0b, p0fz_5, p0gz_6, p1nz_7, p1rz__8, p1a, p1b, p1fz_9, p1gz_10, p2nz_11, p2rz__12, p2a, p2b, p2fz_13, p2gz_14, p3nz_15, p3rz__16, p3a, p3b, p3fz_17, p3gz_18, p4nz_19, p4rz__20, p4a, p4b, p4fz_21, p4gz_22, p5nz_23, p5rz__24, p5a, p5b, p5fz_25, p5gz_26, p6nz_27, p6rz__28, p6a, p6b, p6fz_29, p6gz_30, p7nz_31, p7rz__32, p7a, p7b, p7fz_33, p7gz_34, rfl, k_fqp_0, k_fqp_1, k_fqp_2, k_fqp_3, k_fqp_4, k_fqp_5, k_fqp_6, k_fqp_7, (by first | assumption | omega), (by first | assumption | omega), (by first | assumption | omega), (by first | assumption | omega), (by first | assumption | omega), (by first | assumption | omega), (by first | assumption | omega), (by first | assumption | omega), (by first | assumption | omega), (by first | assumption | omega), (by first | assumption | omega), (by first | assumption | omega), (by first | assumption | omega), (by first | assumption | omega), (by first | assumption | omega), (by first | assumption | omega), (by first | assumption | omega), (by first | assumption | omega), (by first | assumption | omega), (by first | assumption | omega), (by first | assumption | omega), (by first | assumption | omega), (by first | assumption | omega), (by first | assumption | omega), rfl⟩ ⟨fkk, k0, k1, k2, k3, k0n, k0r, k0a, k0b, k0f, k0g, k1n, k1r, k1a, k1b, k1f, k1g, k2n, k2r, k2a, k2b, k2f, k2g, k3n, k3r, k3a, k3b, k3f, k3g, rfl, k_fkk_0, k_fkk_1, k_fkk_2, k_fkk_3, (by first | assumption | omega), (by first | assumption | omega), (by first | assumption | omega), (by first | assumption | omega), (by first | assumption | omega), (by first | assumption | omega), (by first | assumption | omega), (by first | assumption | omega), (by first | assumption | omega), (by first | assumption | omega), (by first | assumption | omega), (by first | assumption | omega), (by first | assumption | omega), (by first | assumption | omega), (by first | assumption | omega), (by first | assumption | omega), rfl⟩ (h_68)
theorem wc_X11_same : Cond.code yX11_same cX11_same 3 (some .int) ∈ TB := tbm (tq4 (List.mem_of_getElem? (i := 182) (rfl))) (by decide +kernel)
theorem wi_X11_same : Cond.instanceMethod yX11_same ∈ TB := tbm (tq4 (List.mem_of_getElem? (i := 180) (by decide +kernel))) (by decide +kernel)
theorem ws_X11_same : Cond.selects RX11 yX11_same yX11_same ∈ TB := tbm (tq4 (List.mem_of_getElem? (i := 181) (by decide +kernel))) (by decide +kernel)
theorem mi_X11_same : MI yX11_same cX11_same 3 (some .int) 1 := ⟨wc_X11_same, wn_X11, ⟨by decide +kernel, by decide +kernel, by decide +kernel⟩, wi_X11_same, ws_X11_same⟩
theorem wl_L_123 : Cond.methodLink RL 123 yX11_same ∈ TB := tbm (tq4 (List.mem_of_getElem? (i := 179) (by decide +kernel))) (by decide +kernel)
theorem dL_law_1029 : decode cL_law 1029 = .ok (.invokevirtual 123, 3) := dl_182 (by decide +kernel)
set_option maxRecDepth 100000 in
set_option maxHeartbeats 4000000 in
theorem lx_same {X : XT} {E : EV} {ro wT pre : va_W} {lv : List (Nat × Value)} {rest : List Value} {kC nC : Nat} {hx h qp qs qj ly qh kk rd pg ss : Nat} {ac np kc pe : Nat} {kn : Int32} {mN : AM} {kV : Nat → AM} {w_now : va_W} {w_heap : va_W} {w_kept : va_W} {v0 : Int32}  (C : CX X room_1 cL_law 4 RL ret E) (hW : Nat.ble (rest.map fun v => v.category).sum 8 = true) (hT : wT = pre ++ ro) (hk : kC + 0 ≤ 600000 ∧ nC + 0 ≤ 7302250) (hac : ac ≤ 8) (hnp : np < 8) (hkc : kc ≤ 4) (hpe : pe ≤ 4) (H_now : ok_now E ro h mN w_now) (H_heap : ok_heap E ro qh  w_heap) (H_kept : ok_kept E ro kk kc kV w_kept) (kont : ∀ (rr : Int32) (w_nowZ : va_W) (w_heapZ : va_W) (w_keptZ : va_W), ok_now E ro h mN w_nowZ → ok_heap E ro qh  w_heapZ → ok_kept E ro kk kc kV w_keptZ → (rr = ansSame mN kc kV v0) → WW X 4 E 1032 lv (.int rr :: rest) ([(hx, .inr (11, [.ref h, .ref qp, .int (nI ac), .int (nI np), .ref qs, .ref qj, .ref ly, .ref qh, .ref kk, .int (nI kc), .ref rd, .ref pg, .int (nI pe), .int kn, .ref ss]))] ++ (w_nowZ ++ (w_heapZ ++ (w_keptZ ++ wT)))) kC nC) : WW X 4 E 1029 lv (.int v0 :: .ref hx :: rest) ([(hx, .inr (11, [.ref h, .ref qp, .int (nI ac), .int (nI np), .ref qs, .ref qj, .ref ly, .ref qh, .ref kk, .int (nI kc), .ref rd, .ref pg, .int (nI pe), .int kn, .ref ss]))] ++ (w_now ++ (w_heap ++ (w_kept ++ wT)))) kC nC := by
  unfold ok_now at H_now
  refine ex6 H_now ?_
  clear H_now
  intro n r a b f gg H_now
  refine an4 H_now ?_
  clear H_now
  intro we_now hn hr hwfm H_now
  have hmN := H_now
  clear H_now
  subst we_now
  subst hmN
  unfold ok_heap at H_heap
  refine ex8 H_heap ?_
  clear H_heap
  intro hl0 hr0 hz0 ha hb hc fl fn H_heap
  refine ex1 H_heap ?_
  clear H_heap
  intro fs H_heap
  refine an1 H_heap ?_
  clear H_heap
  intro we_heap H_heap
  have hrng := H_heap
  clear H_heap
  subst we_heap
  unfold ok_kept at H_kept
  refine ex8 H_kept ?_
  clear H_kept
  intro fkk k0 k1 k2 k3 k0n k0r k0a H_kept
  refine ex8 H_kept ?_
  clear H_kept
  intro k0b k0f k0g k1n k1r k1a k1b k1f H_kept
  refine ex8 H_kept ?_
  clear H_kept
  intro k1g k2n k2r k2a k2b k2f k2g k3n H_kept
  refine ex5 H_kept ?_
  clear H_kept
  intro k3r k3a k3b k3f k3g H_kept
  refine an8 H_kept ?_
  clear H_kept
  intro we_kept k_fkk_0 k_fkk_1 k_fkk_2 k_fkk_3 hk0_n hk0_r hk0_w H_kept
  refine an8 H_kept ?_
  clear H_kept
  intro hk0_k hk1_n hk1_r hk1_w hk1_k hk2_n hk2_r hk2_w H_kept
  refine an5 H_kept ?_
  clear H_kept
  intro hk2_k hk3_n hk3_r hk3_w hk3_k H_kept
  have hkV := H_kept
  clear H_kept
  subst we_kept
  subst hkV
  refine ww_eq (ws' := [(hx, .inr (11, [.ref h, .ref qp, .int (nI ac), .int (nI np), .ref qs, .ref qj, .ref ly, .ref qh, .ref kk, .int (nI kc), .ref rd, .ref pg, .int (nI pe), .int kn, .ref ss])), (h, .inr (4, [.int (nI n), .int (nI r), .ref a, .ref b])), (a, .inl (E.2.1 1, 24, .inl f)), (b, .inl (E.2.1 1, 96, .inl gg)), (qh, .inr (1, [hl0, hr0, .int hz0, .ref ha, .ref hb, .ref hc])), (ha, .inl (E.2.1 1, 48, .inl fl)), (hb, .inl (E.2.1 1, 48, .inl fn)), (hc, .inl (E.2.1 2, 192, .inr (.inl fs))), (kk, .inl (E.2.1 6, 4, .inr (.inr (.inr (.inr fkk))))), (k0, .inr (4, [.int (nI k0n), .int (nI k0r), .ref k0a, .ref k0b])), (k0a, .inl (E.2.1 1, 24, .inl k0f)), (k0b, .inl (E.2.1 1, 96, .inl k0g)), (k1, .inr (4, [.int (nI k1n), .int (nI k1r), .ref k1a, .ref k1b])), (k1a, .inl (E.2.1 1, 24, .inl k1f)), (k1b, .inl (E.2.1 1, 96, .inl k1g)), (k2, .inr (4, [.int (nI k2n), .int (nI k2r), .ref k2a, .ref k2b])), (k2a, .inl (E.2.1 1, 24, .inl k2f)), (k2b, .inl (E.2.1 1, 96, .inl k2g)), (k3, .inr (4, [.int (nI k3n), .int (nI k3r), .ref k3a, .ref k3b])), (k3a, .inl (E.2.1 1, 24, .inl k3f)), (k3b, .inl (E.2.1 1, 96, .inl k3g))] ++ wT) ?_ rfl rfl rfl
  refine ww_ciT (k' := kC) (n' := nC) (wr := []) C (run_V (As := [.int v0]) (rest := rest) C (x_same X.2.1 E ro hx v0 h qp ac np qs qj ly qh kk kc rd pg pe kn ss n r a b f gg fkk k0 k1 k2 k3 k0n k0r k0a k0b k0f k0g k1n k1r k1a k1b k1f k1g k2n k2r k2a k2b k2f k2g k3n k3r k3a k3b k3f k3g hl0 hr0 hz0 ha hb hc fl fn fs k_fkk_0 k_fkk_1 k_fkk_2 k_fkk_3 (by first | assumption | omega) (by first | assumption | omega) (by first | assumption | omega) (by first | assumption | omega) (by first | assumption | omega) (by first | assumption | omega) (by first | assumption | omega) (by first | assumption | omega) (by first | assumption | omega) (by first | assumption | omega) (by first | assumption | omega) (by first | assumption | omega) (by first | assumption | omega) (by first | assumption | omega) (by first | assumption | omega) (by first | assumption | omega) (by first | assumption | omega) (by first | assumption | omega) (by first | assumption | omega) (by first | assumption | omega) (by first | assumption | omega) (by first | assumption | omega) (by first | assumption | omega) hrng) mi_X11_same wl_L_123 rfl 0 11 rfl rfl rfl rfl hW dL_law_1029) (roT (pre := pre) [0, 1, 2, 3, 8, 9, 10, 11, 12, 13, 14, 15, 16, 17, 18, 19, 20, 4, 5, 6, 7] rfl hT) [0, 1, 2, 3, 8, 9, 10, 11, 12, 13, 14, 15, 16, 17, 18, 19, 20, 4, 5, 6, 7] [] (gqk (by eq_refl)) rfl (plk (by decide +kernel)) ⟨by omega, by omega, hk.1, hk.2⟩ (fun rr u hw => ?_)
  refine ex6 hw ?_
  clear hw
  intro hlz_1 hrz_2 hzz_3 flz_4 fnz_5 fsz_6 hw
  refine an2 hw ?_
  clear hw
  intro he_u h_7 hw
  have h_8 := hw
  clear hw
  subst he_u
  refine ww_subT (w1 := [(hx, .inr (11, [.ref h, .ref qp, .int (nI ac), .int (nI np), .ref qs, .ref qj, .ref ly, .ref qh, .ref kk, .int (nI kc), .ref rd, .ref pg, .int (nI pe), .int kn, .ref ss])), (h, .inr (4, [.int (nI n), .int (nI r), .ref a, .ref b])), (a, .inl (E.2.1 1, 24, .inl f)), (b, .inl (E.2.1 1, 96, .inl gg)), (qh, .inr (1, [hlz_1, hrz_2, .int hzz_3, .ref ha, .ref hb, .ref hc])), (ha, .inl (E.2.1 1, 48, .inl flz_4)), (hb, .inl (E.2.1 1, 48, .inl fnz_5)), (hc, .inl (E.2.1 2, 192, .inr (.inl fsz_6))), (kk, .inl (E.2.1 6, 4, .inr (.inr (.inr (.inr fkk))))), (k0, .inr (4, [.int (nI k0n), .int (nI k0r), .ref k0a, .ref k0b])), (k0a, .inl (E.2.1 1, 24, .inl k0f)), (k0b, .inl (E.2.1 1, 96, .inl k0g)), (k1, .inr (4, [.int (nI k1n), .int (nI k1r), .ref k1a, .ref k1b])), (k1a, .inl (E.2.1 1, 24, .inl k1f)), (k1b, .inl (E.2.1 1, 96, .inl k1g)), (k2, .inr (4, [.int (nI k2n), .int (nI k2r), .ref k2a, .ref k2b])), (k2a, .inl (E.2.1 1, 24, .inl k2f)), (k2b, .inl (E.2.1 1, 96, .inl k2g)), (k3, .inr (4, [.int (nI k3n), .int (nI k3r), .ref k3a, .ref k3b])), (k3a, .inl (E.2.1 1, 24, .inl k3f)), (k3b, .inl (E.2.1 1, 96, .inl k3g))]) [0, 1, 2, 3, 17, 18, 19, 20, 4, 5, 6, 7, 8, 9, 10, 11, 12, 13, 14, 15, 16] (ndk (by decide +kernel)) (gqk (by eq_refl)) ?_
  exact kont rr  [(h, .inr (4, [.int (nI n), .int (nI r), .ref a, .ref b])), (a, .inl (E.2.1 1, 24, .inl f)), (b, .inl (E.2.1 1, 96, .inl gg))] [(qh, .inr (1, [hlz_1, hrz_2, .int hzz_3, .ref ha, .ref hb, .ref hc])), (ha, .inl (E.2.1 1, 48, .inl flz_4)), (hb, .inl (E.2.1 1, 48, .inl fnz_5)), (hc, .inl (E.2.1 2, 192, .inr (.inl fsz_6)))] [(kk, .inl (E.2.1 6, 4, .inr (.inr (.inr (.inr fkk))))), (k0, .inr (4, [.int (nI k0n), .int (nI k0r), .ref k0a, .ref k0b])), (k0a, .inl (E.2.1 1, 24, .inl k0f)), (k0b, .inl (E.2.1 1, 96, .inl k0g)), (k1, .inr (4, [.int (nI k1n), .int (nI k1r), .ref k1a, .ref k1b])), (k1a, .inl (E.2.1 1, 24, .inl k1f)), (k1b, .inl (E.2.1 1, 96, .inl k1g)), (k2, .inr (4, [.int (nI k2n), .int (nI k2r), .ref k2a, .ref k2b])), (k2a, .inl (E.2.1 1, 24, .inl k2f)), (k2b, .inl (E.2.1 1, 96, .inl k2g)), (k3, .inr (4, [.int (nI k3n), .int (nI k3r), .ref k3a, .ref k3b])), (k3a, .inl (E.2.1 1, 24, .inl k3f)), (k3b, .inl (E.2.1 1, 96, .inl k3g))]  ⟨n, r, a, b, f, gg, rfl, (by first | assumption | omega), (by first | assumption | omega), (by first | assumption | omega), rfl⟩ ⟨hlz_1, hrz_2, hzz_3, ha, hb, hc, flz_4, fnz_5, fsz_6, rfl, h_7⟩ ⟨fkk, k0, k1, k2, k3, k0n, k0r, k0a, k0b, k0f, k0g, k1n, k1r, k1a, k1b, k1f, k1g, k2n, k2r, k2a, k2b, k2f, k2g, k3n, k3r, k3a, k3b, k3f, k3g, rfl, k_fkk_0, k_fkk_1, k_fkk_2, k_fkk_3, (by first | assumption | omega), (by first | assumption | omega), (by first | assumption | omega), (by first | assumption | omega), (by first | assumption | omega), (by first | assumption | omega), (by first | assumption | omega), (by first | assumption | omega), (by first | assumption | omega), (by first | assumption | omega), (by first | assumption | omega), (by first | assumption | omega), (by first | assumption | omega), (by first | assumption | omega), (by first | assumption | omega), (by first | assumption | omega), rfl⟩ (h_8)
theorem wc_X11_turn : Cond.code yX11_turn cX11_turn 3 (some .int) ∈ TB := tbm (tq4 (List.mem_of_getElem? (i := 186) (rfl))) (by decide +kernel)
theorem wi_X11_turn : Cond.instanceMethod yX11_turn ∈ TB := tbm (tq4 (List.mem_of_getElem? (i := 184) (by decide +kernel))) (by decide +kernel)
theorem ws_X11_turn : Cond.selects RX11 yX11_turn yX11_turn ∈ TB := tbm (tq4 (List.mem_of_getElem? (i := 185) (by decide +kernel))) (by decide +kernel)
theorem mi_X11_turn : MI yX11_turn cX11_turn 3 (some .int) 2 := ⟨wc_X11_turn, wn_X11, ⟨by decide +kernel, by decide +kernel, by decide +kernel⟩, wi_X11_turn, ws_X11_turn⟩
theorem wl_L_127 : Cond.methodLink RL 127 yX11_turn ∈ TB := tbm (tq4 (List.mem_of_getElem? (i := 183) (by decide +kernel))) (by decide +kernel)
theorem dL_law_1057 : decode cL_law 1057 = .ok (.invokevirtual 127, 3) := dl_182 (by decide +kernel)
set_option maxRecDepth 100000 in
set_option maxHeartbeats 4000000 in
theorem lx_turn {X : XT} {E : EV} {ro wT pre : va_W} {lv : List (Nat × Value)} {rest : List Value} {kC nC : Nat} {hx h qp qs qj ly qh kk rd pg ss : Nat} {ac np kc pe : Nat} {kn : Int32} {mN : AM} {pV : Nat → AM} {tT : Nat → Option SVal} {ec : Nat → Nat} {er : Nat → Nat} {ed : Nat → Nat → Int32} {eT : Nat → Nat → Option SVal} {eb : Nat → Nat → Int32} {en : Nat → Nat → Int32} {w_now : va_W} {w_past : va_W} {w_judg : va_W} {w_rnds : va_W} {v0 : Int32} {v1 : Int32}  (C : CX X room_1 cL_law 4 RL ret E) (hW : Nat.ble (rest.map fun v => v.category).sum 8 = true) (hT : wT = pre ++ ro) (hk : kC + 0 ≤ 600000 ∧ nC + 0 ≤ 7302250) (hac : ac ≤ 8) (hnp : np < 8) (hkc : kc ≤ 4) (hpe : pe ≤ 4) (H_now : ok_now E ro h mN w_now) (H_past : ok_past E ro qp pV w_past) (H_judg : ok_judg E ro qj tT ec er ed eT eb en w_judg) (H_rnds : ok_rnds E ro rd  w_rnds) (kont : ∀ (rr : Int32) (acZ : Nat) (npZ : Nat) (mNZ : AM) (pVZ : Nat → AM) (w_nowZ : va_W) (w_pastZ : va_W) (w_judgZ : va_W) (w_rndsZ : va_W), acZ ≤ 8 → npZ < 8 → ok_now E ro h mNZ w_nowZ → ok_past E ro qp pVZ w_pastZ → ok_judg E ro qj tT ec er ed eT eb en w_judgZ → ok_rnds E ro rd  w_rndsZ → (((asX mNZ acZ npZ pVZ), rr) = opTurn (asX mN ac np pV) (ev6 ec er eT eb en ed) tT v0 v1) → WW X 4 E 1060 lv (.int rr :: rest) ([(hx, .inr (11, [.ref h, .ref qp, .int (nI acZ), .int (nI npZ), .ref qs, .ref qj, .ref ly, .ref qh, .ref kk, .int (nI kc), .ref rd, .ref pg, .int (nI pe), .int kn, .ref ss]))] ++ (w_nowZ ++ (w_pastZ ++ (w_judgZ ++ (w_rndsZ ++ wT))))) kC nC) : WW X 4 E 1057 lv (.int v1 :: .int v0 :: .ref hx :: rest) ([(hx, .inr (11, [.ref h, .ref qp, .int (nI ac), .int (nI np), .ref qs, .ref qj, .ref ly, .ref qh, .ref kk, .int (nI kc), .ref rd, .ref pg, .int (nI pe), .int kn, .ref ss]))] ++ (w_now ++ (w_past ++ (w_judg ++ (w_rnds ++ wT))))) kC nC := by
  unfold ok_now at H_now
  refine ex6 H_now ?_
  clear H_now
  intro n r a b f gg H_now
  refine an4 H_now ?_
  clear H_now
  intro we_now hn hr hwfm H_now
  have hmN := H_now
  clear H_now
  subst we_now
  subst hmN
  unfold ok_past at H_past
  refine ex8 H_past ?_
  clear H_past
  intro fqp p0 p1 p2 p3 p4 p5 p6 H_past
  refine ex8 H_past ?_
  clear H_past
  intro p7 p0n p0r p0a p0b p0f p0g p1n H_past
  refine ex8 H_past ?_
  clear H_past
  intro p1r p1a p1b p1f p1g p2n p2r p2a H_past
  refine ex8 H_past ?_
  clear H_past
  intro p2b p2f p2g p3n p3r p3a p3b p3f H_past
  refine ex8 H_past ?_
  clear H_past
  intro p3g p4n p4r p4a p4b p4f p4g p5n H_past
  refine ex8 H_past ?_
  clear H_past
  intro p5r p5a p5b p5f p5g p6n p6r p6a H_past
  refine ex8 H_past ?_
  clear H_past
  intro p6b p6f p6g p7n p7r p7a p7b p7f H_past
  refine ex1 H_past ?_
  clear H_past
  intro p7g H_past
  refine an8 H_past ?_
  clear H_past
  intro we_past k_fqp_0 k_fqp_1 k_fqp_2 k_fqp_3 k_fqp_4 k_fqp_5 k_fqp_6 H_past
  refine an8 H_past ?_
  clear H_past
  intro k_fqp_7 hp0_n hp0_r hp0_w hp1_n hp1_r hp1_w hp2_n H_past
  refine an8 H_past ?_
  clear H_past
  intro hp2_r hp2_w hp3_n hp3_r hp3_w hp4_n hp4_r hp4_w H_past
  refine an8 H_past ?_
  clear H_past
  intro hp5_n hp5_r hp5_w hp6_n hp6_r hp6_w hp7_n hp7_r H_past
  refine an1 H_past ?_
  clear H_past
  intro hp7_w H_past
  have hpV := H_past
  clear H_past
  subst we_past
  subst hpV
  unfold ok_judg at H_judg
  refine ex8 H_judg ?_
  clear H_judg
  intro jt je ju ja ft fe e0 e1 H_judg
  refine ex8 H_judg ?_
  clear H_judg
  intro e2 e3 fa la0 la1 e0cs e0rc e0a H_judg
  refine ex8 H_judg ?_
  clear H_judg
  intro e0b e0c e0d e0fi e0fb e0fc e0fd e1cs H_judg
  refine ex8 H_judg ?_
  clear H_judg
  intro e1rc e1a e1b e1c e1d e1fi e1fb e1fc H_judg
  refine ex8 H_judg ?_
  clear H_judg
  intro e1fd e2cs e2rc e2a e2b e2c e2d e2fi H_judg
  refine ex8 H_judg ?_
  clear H_judg
  intro e2fb e2fc e2fd e3cs e3rc e3a e3b e3c H_judg
  refine ex8 H_judg ?_
  clear H_judg
  intro e3d e3fi e3fb e3fc e3fd la0m la0p la0w H_judg
  refine ex8 H_judg ?_
  clear H_judg
  intro la0c la0f la0q la0fc la0ff la0fq la0n la0r H_judg
  refine ex8 H_judg ?_
  clear H_judg
  intro la0x la0y la0gx la0gy la1m la1p la1w la1c H_judg
  refine ex8 H_judg ?_
  clear H_judg
  intro la1f la1q la1fc la1ff la1fq la1n la1r la1x H_judg
  refine ex8 H_judg ?_
  clear H_judg
  intro la1y la1gx la1gy fto e0T e1T e2T e3T H_judg
  refine an8 H_judg ?_
  clear H_judg
  intro we_judg k_fe_0 k_fe_1 k_fe_2 k_fe_3 k_fa_0 k_fa_1 he0cs H_judg
  refine an8 H_judg ?_
  clear H_judg
  intro he0rc he0fi he1cs he1rc he1fi he2cs he2rc he2fi H_judg
  refine an8 H_judg ?_
  clear H_judg
  intro he3cs he3rc he3fi hla0n hla0r hla1n hla1r hto H_judg
  refine an5 H_judg ?_
  clear H_judg
  intro hec her hed heT heb H_judg
  have hen := H_judg
  clear H_judg
  subst we_judg
  subst hec
  subst her
  subst hed
  subst heT
  subst heb
  subst hen
  unfold ok_rnds at H_rnds
  refine ex8 H_rnds ?_
  clear H_rnds
  intro rt rf go0 sty0 knw0 frf rtn rtr H_rnds
  refine ex4 H_rnds ?_
  clear H_rnds
  intro rx ry rtf rtg H_rnds
  refine an2 H_rnds ?_
  clear H_rnds
  intro we_rnds hrtn H_rnds
  have hrtr := H_rnds
  clear H_rnds
  subst we_rnds
  refine ww_eq (ws' := [(hx, .inr (11, [.ref h, .ref qp, .int (nI ac), .int (nI np), .ref qs, .ref qj, .ref ly, .ref qh, .ref kk, .int (nI kc), .ref rd, .ref pg, .int (nI pe), .int kn, .ref ss])), (h, .inr (4, [.int (nI n), .int (nI r), .ref a, .ref b])), (a, .inl (E.2.1 1, 24, .inl f)), (b, .inl (E.2.1 1, 96, .inl gg)), (qp, .inl (E.2.1 6, 8, .inr (.inr (.inr (.inr fqp))))), (p0, .inr (4, [.int (nI p0n), .int (nI p0r), .ref p0a, .ref p0b])), (p0a, .inl (E.2.1 1, 24, .inl p0f)), (p0b, .inl (E.2.1 1, 96, .inl p0g)), (p1, .inr (4, [.int (nI p1n), .int (nI p1r), .ref p1a, .ref p1b])), (p1a, .inl (E.2.1 1, 24, .inl p1f)), (p1b, .inl (E.2.1 1, 96, .inl p1g)), (p2, .inr (4, [.int (nI p2n), .int (nI p2r), .ref p2a, .ref p2b])), (p2a, .inl (E.2.1 1, 24, .inl p2f)), (p2b, .inl (E.2.1 1, 96, .inl p2g)), (p3, .inr (4, [.int (nI p3n), .int (nI p3r), .ref p3a, .ref p3b])), (p3a, .inl (E.2.1 1, 24, .inl p3f)), (p3b, .inl (E.2.1 1, 96, .inl p3g)), (p4, .inr (4, [.int (nI p4n), .int (nI p4r), .ref p4a, .ref p4b])), (p4a, .inl (E.2.1 1, 24, .inl p4f)), (p4b, .inl (E.2.1 1, 96, .inl p4g)), (p5, .inr (4, [.int (nI p5n), .int (nI p5r), .ref p5a, .ref p5b])), (p5a, .inl (E.2.1 1, 24, .inl p5f)), (p5b, .inl (E.2.1 1, 96, .inl p5g)), (p6, .inr (4, [.int (nI p6n), .int (nI p6r), .ref p6a, .ref p6b])), (p6a, .inl (E.2.1 1, 24, .inl p6f)), (p6b, .inl (E.2.1 1, 96, .inl p6g)), (p7, .inr (4, [.int (nI p7n), .int (nI p7r), .ref p7a, .ref p7b])), (p7a, .inl (E.2.1 1, 24, .inl p7f)), (p7b, .inl (E.2.1 1, 96, .inl p7g)), (qj, .inr (2, [.ref jt, .ref je, .ref ju, .ref ja])), (ju, .inl (E.2.1 1, 32, .inl ft)), (je, .inl (E.2.1 4, 4, .inr (.inr (.inr (.inr fe))))), (ja, .inl (E.2.1 5, 2, .inr (.inr (.inr (.inr fa))))), (e0, .inr (0, [.int (nI e0cs), .int (nI e0rc), .ref e0a, .ref e0b, .ref e0c, .ref e0d])), (e0a, .inl (E.2.1 7, 4, .inr (.inr (.inr (.inr e0fi))))), (e0b, .inl (E.2.1 1, 4, .inl e0fb)), (e0c, .inl (E.2.1 1, 4, .inl e0fc)), (e0d, .inl (E.2.1 1, 16, .inl e0fd)), (e1, .inr (0, [.int (nI e1cs), .int (nI e1rc), .ref e1a, .ref e1b, .ref e1c, .ref e1d])), (e1a, .inl (E.2.1 7, 4, .inr (.inr (.inr (.inr e1fi))))), (e1b, .inl (E.2.1 1, 4, .inl e1fb)), (e1c, .inl (E.2.1 1, 4, .inl e1fc)), (e1d, .inl (E.2.1 1, 16, .inl e1fd)), (e2, .inr (0, [.int (nI e2cs), .int (nI e2rc), .ref e2a, .ref e2b, .ref e2c, .ref e2d])), (e2a, .inl (E.2.1 7, 4, .inr (.inr (.inr (.inr e2fi))))), (e2b, .inl (E.2.1 1, 4, .inl e2fb)), (e2c, .inl (E.2.1 1, 4, .inl e2fc)), (e2d, .inl (E.2.1 1, 16, .inl e2fd)), (e3, .inr (0, [.int (nI e3cs), .int (nI e3rc), .ref e3a, .ref e3b, .ref e3c, .ref e3d])), (e3a, .inl (E.2.1 7, 4, .inr (.inr (.inr (.inr e3fi))))), (e3b, .inl (E.2.1 1, 4, .inl e3fb)), (e3c, .inl (E.2.1 1, 4, .inl e3fc)), (e3d, .inl (E.2.1 1, 16, .inl e3fd)), (la0, .inr (3, [.ref la0m, .int la0p, .int la0w, .ref la0c, .ref la0f, .ref la0q])), (la0c, .inl (E.2.1 1, 24, .inl la0fc)), (la0f, .inl (E.2.1 1, 24, .inl la0ff)), (la0q, .inl (E.2.1 1, 4, .inl la0fq)), (la0m, .inr (4, [.int (nI la0n), .int (nI la0r), .ref la0x, .ref la0y])), (la0x, .inl (E.2.1 1, 24, .inl la0gx)), (la0y, .inl (E.2.1 1, 96, .inl la0gy)), (la1, .inr (3, [.ref la1m, .int la1p, .int la1w, .ref la1c, .ref la1f, .ref la1q])), (la1c, .inl (E.2.1 1, 24, .inl la1fc)), (la1f, .inl (E.2.1 1, 24, .inl la1ff)), (la1q, .inl (E.2.1 1, 4, .inl la1fq)), (la1m, .inr (4, [.int (nI la1n), .int (nI la1r), .ref la1x, .ref la1y])), (la1x, .inl (E.2.1 1, 24, .inl la1gx)), (la1y, .inl (E.2.1 1, 96, .inl la1gy)), (jt, .inl (E.2.1 7, 8, .inr (.inr (.inr (.inr fto))))), (rd, .inr (7, [.ref rt, .ref rf, .int go0, .int sty0, .int knw0])), (rf, .inl (E.2.1 1, 4, .inl frf)), (rt, .inr (4, [.int (nI rtn), .int (nI rtr), .ref rx, .ref ry])), (rx, .inl (E.2.1 1, 24, .inl rtf)), (ry, .inl (E.2.1 1, 96, .inl rtg))] ++ wT) ?_ rfl rfl rfl
  refine ww_ciT (k' := kC) (n' := nC) (wr := []) C (run_V (As := [.int v0, .int v1]) (rest := rest) C (x_turn X.2.1 E ro hx v0 v1 h qp ac np qs qj ly qh kk kc rd pg pe kn ss fqp p0 p1 p2 p3 p4 p5 p6 p7 p0n p0r p0a p0b p0f p0g p1n p1r p1a p1b p1f p1g p2n p2r p2a p2b p2f p2g p3n p3r p3a p3b p3f p3g p4n p4r p4a p4b p4f p4g p5n p5r p5a p5b p5f p5g p6n p6r p6a p6b p6f p6g p7n p7r p7a p7b p7f p7g n r a b f gg jt je ju ja ft fe e0 e1 e2 e3 fa la0 la1 e0cs e0rc e0a e0b e0c e0d e0fi e0fb e0fc e0fd e1cs e1rc e1a e1b e1c e1d e1fi e1fb e1fc e1fd e2cs e2rc e2a e2b e2c e2d e2fi e2fb e2fc e2fd e3cs e3rc e3a e3b e3c e3d e3fi e3fb e3fc e3fd la0m la0p la0w la0c la0f la0q la0fc la0ff la0fq la0n la0r la0x la0y la0gx la0gy la1m la1p la1w la1c la1f la1q la1fc la1ff la1fq la1n la1r la1x la1y la1gx la1gy fto rt rf go0 sty0 knw0 frf rtn rtr rx ry rtf rtg e0T e1T e2T e3T tT k_fqp_0 k_fqp_1 k_fqp_2 k_fqp_3 k_fqp_4 k_fqp_5 k_fqp_6 k_fqp_7 k_fe_0 k_fe_1 k_fe_2 k_fe_3 k_fa_0 k_fa_1 (by first | assumption | omega) (by first | assumption | omega) (by first | assumption | omega) (by first | assumption | omega) (by first | assumption | omega) (by first | assumption | omega) (by first | assumption | omega) (by first | assumption | omega) (by first | assumption | omega) (by first | assumption | omega) (by first | assumption | omega) (by first | assumption | omega) (by first | assumption | omega) (by first | assumption | omega) (by first | assumption | omega) (by first | assumption | omega) (by first | assumption | omega) (by first | assumption | omega) (by first | assumption | omega) (by first | assumption | omega) (by first | assumption | omega) (by first | assumption | omega) (by first | assumption | omega) (by first | assumption | omega) (by first | assumption | omega) (by first | assumption | omega) (by first | assumption | omega) (by first | assumption | omega) (by first | assumption | omega) (by first | assumption | omega) (by first | assumption | omega) (by first | assumption | omega) (by first | assumption | omega) he0fi (by first | assumption | omega) (by first | assumption | omega) he1fi (by first | assumption | omega) (by first | assumption | omega) he2fi (by first | assumption | omega) (by first | assumption | omega) he3fi (by first | assumption | omega) (by first | assumption | omega) (by first | assumption | omega) (by first | assumption | omega) hto (by first | assumption | omega) (by first | assumption | omega)) mi_X11_turn wl_L_127 rfl 0 11 rfl rfl rfl rfl hW dL_law_1057) (roT (pre := pre) [0, 4, 5, 6, 7, 8, 9, 10, 11, 12, 13, 14, 15, 16, 17, 18, 19, 20, 21, 22, 23, 24, 25, 26, 27, 28, 1, 2, 3, 29, 30, 31, 32, 33, 34, 35, 36, 37, 38, 39, 40, 41, 42, 43, 44, 45, 46, 47, 48, 49, 50, 51, 52, 53, 54, 55, 56, 57, 58, 59, 60, 61, 62, 63, 64, 65, 66, 67, 68, 69, 70, 71, 72] rfl hT) [0, 4, 5, 6, 7, 8, 9, 10, 11, 12, 13, 14, 15, 16, 17, 18, 19, 20, 21, 22, 23, 24, 25, 26, 27, 28, 1, 2, 3, 29, 30, 31, 32, 33, 34, 35, 36, 37, 38, 39, 40, 41, 42, 43, 44, 45, 46, 47, 48, 49, 50, 51, 52, 53, 54, 55, 56, 57, 58, 59, 60, 61, 62, 63, 64, 65, 66, 67, 68, 69, 70, 71, 72] [] (gqk (by eq_refl)) rfl (plk (by decide +kernel)) ⟨by omega, by omega, hk.1, hk.2⟩ (fun rr u hw => ?_)
  refine ex8 hw ?_
  clear hw
  intro acz_1 npz_2 p0nz_3 p0rz__4 p0fz_5 p0gz_6 p1nz_7 p1rz__8 hw
  refine ex8 hw ?_
  clear hw
  intro p1fz_9 p1gz_10 p2nz_11 p2rz__12 p2fz_13 p2gz_14 p3nz_15 p3rz__16 hw
  refine ex8 hw ?_
  clear hw
  intro p3fz_17 p3gz_18 p4nz_19 p4rz__20 p4fz_21 p4gz_22 p5nz_23 p5rz__24 hw
  refine ex8 hw ?_
  clear hw
  intro p5fz_25 p5gz_26 p6nz_27 p6rz__28 p6fz_29 p6gz_30 p7nz_31 p7rz__32 hw
  refine ex8 hw ?_
  clear hw
  intro p7fz_33 p7gz_34 nz_35 rz__36 fz_37 ggz_38 ft2_39 la0zp_40 hw
  refine ex8 hw ?_
  clear hw
  intro la0zw_41 la0zn_42 la0zr_43 la0zfc_44 la0zff_45 la0zfq_46 la0zgx_47 la0zgy_48 hw
  refine ex8 hw ?_
  clear hw
  intro la1zp_49 la1zw_50 la1zn_51 la1zr_52 la1zfc_53 la1zff_54 la1zfq_55 la1zgx_56 hw
  refine ex8 hw ?_
  clear hw
  intro la1zgy_57 goz_58 stz_59 knz_60 rtnz_61 rtrz_62 frfz_63 rtfz_64 hw
  refine ex1 hw ?_
  clear hw
  intro rtgz_65 hw
  refine an8 hw ?_
  clear hw
  intro he_u h_66 h_67 h_68 h_69 h_70 h_71 h_72 hw
  refine an8 hw ?_
  clear hw
  intro h_73 h_74 h_75 h_76 h_77 h_78 h_79 h_80 hw
  refine an8 hw ?_
  clear hw
  intro h_81 h_82 h_83 h_84 h_85 h_86 h_87 h_88 hw
  refine an8 hw ?_
  clear hw
  intro h_89 h_90 h_91 h_92 h_93 h_94 h_95 h_96 hw
  refine an4 hw ?_
  clear hw
  intro h_97 h_98 h_99 h_100 hw
  have h_101 := hw
  clear hw
  subst he_u
  refine ww_subT (w1 := [(hx, .inr (11, [.ref h, .ref qp, .int (nI acz_1), .int (nI npz_2), .ref qs, .ref qj, .ref ly, .ref qh, .ref kk, .int (nI kc), .ref rd, .ref pg, .int (nI pe), .int kn, .ref ss])), (h, .inr (4, [.int (nI nz_35), .int (nI rz__36), .ref a, .ref b])), (a, .inl (E.2.1 1, 24, .inl fz_37)), (b, .inl (E.2.1 1, 96, .inl ggz_38)), (qp, .inl (E.2.1 6, 8, .inr (.inr (.inr (.inr fqp))))), (p0, .inr (4, [.int (nI p0nz_3), .int (nI p0rz__4), .ref p0a, .ref p0b])), (p0a, .inl (E.2.1 1, 24, .inl p0fz_5)), (p0b, .inl (E.2.1 1, 96, .inl p0gz_6)), (p1, .inr (4, [.int (nI p1nz_7), .int (nI p1rz__8), .ref p1a, .ref p1b])), (p1a, .inl (E.2.1 1, 24, .inl p1fz_9)), (p1b, .inl (E.2.1 1, 96, .inl p1gz_10)), (p2, .inr (4, [.int (nI p2nz_11), .int (nI p2rz__12), .ref p2a, .ref p2b])), (p2a, .inl (E.2.1 1, 24, .inl p2fz_13)), (p2b, .inl (E.2.1 1, 96, .inl p2gz_14)), (p3, .inr (4, [.int (nI p3nz_15), .int (nI p3rz__16), .ref p3a, .ref p3b])), (p3a, .inl (E.2.1 1, 24, .inl p3fz_17)), (p3b, .inl (E.2.1 1, 96, .inl p3gz_18)), (p4, .inr (4, [.int (nI p4nz_19), .int (nI p4rz__20), .ref p4a, .ref p4b])), (p4a, .inl (E.2.1 1, 24, .inl p4fz_21)), (p4b, .inl (E.2.1 1, 96, .inl p4gz_22)), (p5, .inr (4, [.int (nI p5nz_23), .int (nI p5rz__24), .ref p5a, .ref p5b])), (p5a, .inl (E.2.1 1, 24, .inl p5fz_25)), (p5b, .inl (E.2.1 1, 96, .inl p5gz_26)), (p6, .inr (4, [.int (nI p6nz_27), .int (nI p6rz__28), .ref p6a, .ref p6b])), (p6a, .inl (E.2.1 1, 24, .inl p6fz_29)), (p6b, .inl (E.2.1 1, 96, .inl p6gz_30)), (p7, .inr (4, [.int (nI p7nz_31), .int (nI p7rz__32), .ref p7a, .ref p7b])), (p7a, .inl (E.2.1 1, 24, .inl p7fz_33)), (p7b, .inl (E.2.1 1, 96, .inl p7gz_34)), (qj, .inr (2, [.ref jt, .ref je, .ref ju, .ref ja])), (ju, .inl (E.2.1 1, 32, .inl ft2_39)), (je, .inl (E.2.1 4, 4, .inr (.inr (.inr (.inr fe))))), (ja, .inl (E.2.1 5, 2, .inr (.inr (.inr (.inr fa))))), (e0, .inr (0, [.int (nI e0cs), .int (nI e0rc), .ref e0a, .ref e0b, .ref e0c, .ref e0d])), (e0a, .inl (E.2.1 7, 4, .inr (.inr (.inr (.inr e0fi))))), (e0b, .inl (E.2.1 1, 4, .inl e0fb)), (e0c, .inl (E.2.1 1, 4, .inl e0fc)), (e0d, .inl (E.2.1 1, 16, .inl e0fd)), (e1, .inr (0, [.int (nI e1cs), .int (nI e1rc), .ref e1a, .ref e1b, .ref e1c, .ref e1d])), (e1a, .inl (E.2.1 7, 4, .inr (.inr (.inr (.inr e1fi))))), (e1b, .inl (E.2.1 1, 4, .inl e1fb)), (e1c, .inl (E.2.1 1, 4, .inl e1fc)), (e1d, .inl (E.2.1 1, 16, .inl e1fd)), (e2, .inr (0, [.int (nI e2cs), .int (nI e2rc), .ref e2a, .ref e2b, .ref e2c, .ref e2d])), (e2a, .inl (E.2.1 7, 4, .inr (.inr (.inr (.inr e2fi))))), (e2b, .inl (E.2.1 1, 4, .inl e2fb)), (e2c, .inl (E.2.1 1, 4, .inl e2fc)), (e2d, .inl (E.2.1 1, 16, .inl e2fd)), (e3, .inr (0, [.int (nI e3cs), .int (nI e3rc), .ref e3a, .ref e3b, .ref e3c, .ref e3d])), (e3a, .inl (E.2.1 7, 4, .inr (.inr (.inr (.inr e3fi))))), (e3b, .inl (E.2.1 1, 4, .inl e3fb)), (e3c, .inl (E.2.1 1, 4, .inl e3fc)), (e3d, .inl (E.2.1 1, 16, .inl e3fd)), (la0, .inr (3, [.ref la0m, .int la0zp_40, .int la0zw_41, .ref la0c, .ref la0f, .ref la0q])), (la0c, .inl (E.2.1 1, 24, .inl la0zfc_44)), (la0f, .inl (E.2.1 1, 24, .inl la0zff_45)), (la0q, .inl (E.2.1 1, 4, .inl la0zfq_46)), (la0m, .inr (4, [.int (nI la0zn_42), .int (nI la0zr_43), .ref la0x, .ref la0y])), (la0x, .inl (E.2.1 1, 24, .inl la0zgx_47)), (la0y, .inl (E.2.1 1, 96, .inl la0zgy_48)), (la1, .inr (3, [.ref la1m, .int la1zp_49, .int la1zw_50, .ref la1c, .ref la1f, .ref la1q])), (la1c, .inl (E.2.1 1, 24, .inl la1zfc_53)), (la1f, .inl (E.2.1 1, 24, .inl la1zff_54)), (la1q, .inl (E.2.1 1, 4, .inl la1zfq_55)), (la1m, .inr (4, [.int (nI la1zn_51), .int (nI la1zr_52), .ref la1x, .ref la1y])), (la1x, .inl (E.2.1 1, 24, .inl la1zgx_56)), (la1y, .inl (E.2.1 1, 96, .inl la1zgy_57)), (jt, .inl (E.2.1 7, 8, .inr (.inr (.inr (.inr fto))))), (rd, .inr (7, [.ref rt, .ref rf, .int goz_58, .int stz_59, .int knz_60])), (rf, .inl (E.2.1 1, 4, .inl frfz_63)), (rt, .inr (4, [.int (nI rtnz_61), .int (nI rtrz_62), .ref rx, .ref ry])), (rx, .inl (E.2.1 1, 24, .inl rtfz_64)), (ry, .inl (E.2.1 1, 96, .inl rtgz_65))]) [0, 26, 27, 28, 1, 2, 3, 4, 5, 6, 7, 8, 9, 10, 11, 12, 13, 14, 15, 16, 17, 18, 19, 20, 21, 22, 23, 24, 25, 29, 30, 31, 32, 33, 34, 35, 36, 37, 38, 39, 40, 41, 42, 43, 44, 45, 46, 47, 48, 49, 50, 51, 52, 53, 54, 55, 56, 57, 58, 59, 60, 61, 62, 63, 64, 65, 66, 67, 68, 69, 70, 71, 72] (ndk (by decide +kernel)) (gqk (by eq_refl)) ?_
  exact kont rr acz_1 npz_2 (am nz_35 rz__36 fz_37 ggz_38) (pick8 (am p0nz_3 p0rz__4 p0fz_5 p0gz_6) (am p1nz_7 p1rz__8 p1fz_9 p1gz_10) (am p2nz_11 p2rz__12 p2fz_13 p2gz_14) (am p3nz_15 p3rz__16 p3fz_17 p3gz_18) (am p4nz_19 p4rz__20 p4fz_21 p4gz_22) (am p5nz_23 p5rz__24 p5fz_25 p5gz_26) (am p6nz_27 p6rz__28 p6fz_29 p6gz_30) (am p7nz_31 p7rz__32 p7fz_33 p7gz_34)) [(h, .inr (4, [.int (nI nz_35), .int (nI rz__36), .ref a, .ref b])), (a, .inl (E.2.1 1, 24, .inl fz_37)), (b, .inl (E.2.1 1, 96, .inl ggz_38))] [(qp, .inl (E.2.1 6, 8, .inr (.inr (.inr (.inr fqp))))), (p0, .inr (4, [.int (nI p0nz_3), .int (nI p0rz__4), .ref p0a, .ref p0b])), (p0a, .inl (E.2.1 1, 24, .inl p0fz_5)), (p0b, .inl (E.2.1 1, 96, .inl p0gz_6)), (p1, .inr (4, [.int (nI p1nz_7), .int (nI p1rz__8), .ref p1a, .ref p1b])), (p1a, .inl (E.2.1 1, 24, .inl p1fz_9)), (p1b, .inl (E.2.1 1, 96, .inl p1gz_10)), (p2, .inr (4, [.int (nI p2nz_11), .int (nI p2rz__12), .ref p2a, .ref p2b])), (p2a, .inl (E.2.1 1, 24, .inl p2fz_13)), (p2b, .inl (E.2.1 1, 96, .inl p2gz_14)), (p3, .inr (4, [.int (nI p3nz_15), .int (nI p3rz__16), .ref p3a, .ref p3b])), (p3a, .inl (E.2.1 1, 24, .inl p3fz_17)), (p3b, .inl (E.2.1 1, 96, .inl p3gz_18)), (p4, .inr (4, [.int (nI p4nz_19), .int (nI p4rz__20), .ref p4a, .ref p4b])), (p4a, .inl (E.2.1 1, 24, .inl p4fz_21)), (p4b, .inl (E.2.1 1, 96, .inl p4gz_22)), (p5, .inr (4, [.int (nI p5nz_23), .int (nI p5rz__24), .ref p5a, .ref p5b])), (p5a, .inl (E.2.1 1, 24, .inl p5fz_25)), (p5b, .inl (E.2.1 1, 96, .inl p5gz_26)), (p6, .inr (4, [.int (nI p6nz_27), .int (nI p6rz__28), .ref p6a, .ref p6b])), (p6a, .inl (E.2.1 1, 24, .inl p6fz_29)), (p6b, .inl (E.2.1 1, 96, .inl p6gz_30)), (p7, .inr (4, [.int (nI p7nz_31), .int (nI p7rz__32), .ref p7a, .ref p7b])), (p7a, .inl (E.2.1 1, 24, .inl p7fz_33)), (p7b, .inl (E.2.1 1, 96, .inl p7gz_34))] [(qj, .inr (2, [.ref jt, .ref je, .ref ju, .ref ja])), (ju, .inl (E.2.1 1, 32, .inl ft2_39)), (je, .inl (E.2.1 4, 4, .inr (.inr (.inr (.inr fe))))), (ja, .inl (E.2.1 5, 2, .inr (.inr (.inr (.inr fa))))), (e0, .inr (0, [.int (nI e0cs), .int (nI e0rc), .ref e0a, .ref e0b, .ref e0c, .ref e0d])), (e0a, .inl (E.2.1 7, 4, .inr (.inr (.inr (.inr e0fi))))), (e0b, .inl (E.2.1 1, 4, .inl e0fb)), (e0c, .inl (E.2.1 1, 4, .inl e0fc)), (e0d, .inl (E.2.1 1, 16, .inl e0fd)), (e1, .inr (0, [.int (nI e1cs), .int (nI e1rc), .ref e1a, .ref e1b, .ref e1c, .ref e1d])), (e1a, .inl (E.2.1 7, 4, .inr (.inr (.inr (.inr e1fi))))), (e1b, .inl (E.2.1 1, 4, .inl e1fb)), (e1c, .inl (E.2.1 1, 4, .inl e1fc)), (e1d, .inl (E.2.1 1, 16, .inl e1fd)), (e2, .inr (0, [.int (nI e2cs), .int (nI e2rc), .ref e2a, .ref e2b, .ref e2c, .ref e2d])), (e2a, .inl (E.2.1 7, 4, .inr (.inr (.inr (.inr e2fi))))), (e2b, .inl (E.2.1 1, 4, .inl e2fb)), (e2c, .inl (E.2.1 1, 4, .inl e2fc)), (e2d, .inl (E.2.1 1, 16, .inl e2fd)), (e3, .inr (0, [.int (nI e3cs), .int (nI e3rc), .ref e3a, .ref e3b, .ref e3c, .ref e3d])), (e3a, .inl (E.2.1 7, 4, .inr (.inr (.inr (.inr e3fi))))), (e3b, .inl (E.2.1 1, 4, .inl e3fb)), (e3c, .inl (E.2.1 1, 4, .inl e3fc)), (e3d, .inl (E.2.1 1, 16, .inl e3fd)), (la0, .inr (3, [.ref la0m, .int la0zp_40, .int la0zw_41, .ref la0c, .ref la0f, .ref la0q])), (la0c, .inl (E.2.1 1, 24, .inl la0zfc_44)), (la0f, .inl (E.2.1 1, 24, .inl la0zff_45)), (la0q, .inl (E.2.1 1, 4, .inl la0zfq_46)), (la0m, .inr (4, [.int (nI la0zn_42), .int (nI la0zr_43), .ref la0x, .ref la0y])), (la0x, .inl (E.2.1 1, 24, .inl la0zgx_47)), (la0y, .inl (E.2.1 1, 96, .inl la0zgy_48)), (la1, .inr (3, [.ref la1m, .int la1zp_49, .int la1zw_50, .ref la1c, .ref la1f, .ref la1q])), (la1c, .inl (E.2.1 1, 24, .inl la1zfc_53)), (la1f, .inl (E.2.1 1, 24, .inl la1zff_54)), (la1q, .inl (E.2.1 1, 4, .inl la1zfq_55)), (la1m, .inr (4, [.int (nI la1zn_51), .int (nI la1zr_52), .ref la1x, .ref la1y])), (la1x, .inl (E.2.1 1, 24, .inl la1zgx_56)), (la1y, .inl (E.2.1 1, 96, .inl la1zgy_57)), (jt, .inl (E.2.1 7, 8, .inr (.inr (.inr (.inr fto)))))] [(rd, .inr (7, [.ref rt, .ref rf, .int goz_58, .int stz_59, .int knz_60])), (rf, .inl (E.2.1 1, 4, .inl frfz_63)), (rt, .inr (4, [.int (nI rtnz_61), .int (nI rtrz_62), .ref rx, .ref ry])), (rx, .inl (E.2.1 1, 24, .inl rtfz_64)), (ry, .inl (E.2.1 1, 96, .inl rtgz_65))] (by first | assumption | omega) (by first | assumption | omega) ⟨nz_35, rz__36, a, b, fz_37, ggz_38, rfl, (by first | assumption | omega), (by first | assumption | omega), (by first | assumption | omega), rfl⟩ ⟨fqp, p0, p1, p2, p3, p4, p5, p6, p7, p0nz_3, p0rz__4, p0a, p0b, p0fz_5, p0gz_6, p1nz_7, p1rz__8, p1a, p1b, p1fz_9, p1gz_10, p2nz_11, p2rz__12, p2a, p2b, p2fz_13, p2gz_14, p3nz_15, p3rz__16, p3a, p3b, p3fz_17, p3gz_18, p4nz_19, p4rz__20, p4a, p4b, p4fz_21, p4gz_22, p5nz_23, p5rz__24, p5a, p5b, p5fz_25, p5gz_26, p6nz_27, p6rz__28, p6a, p6b, p6fz_29, p6gz_30, p7nz_31, p7rz__32, p7a, p7b, p7fz_33, p7gz_34, rfl, k_fqp_0, k_fqp_1, k_fqp_2, k_fqp_3, k_fqp_4, k_fqp_5, k_fqp_6, k_fqp_7, (by first | assumption | omega), (by first | assumption | omega), (by first | assumption | omega), (by first | assumption | omega), (by first | assumption | omega), (by first | assumption | omega), (by first | assumption | omega), (by first | assumption | omega), (by first | assumption | omega), (by first | assumption | omega), (by first | assumption | omega), (by first | assumption | omega), (by first | assumption | omega), (by first | assumption | omega), (by first | assumption | omega), (by first | assumption | omega), (by first | assumption | omega), (by first | assumption | omega), (by first | assumption | omega), (by first | assumption | omega), (by first | assumption | omega), (by first | assumption | omega), (by first | assumption | omega), (by first | assumption | omega), rfl⟩ ⟨jt, je, ju, ja, ft2_39, fe, e0, e1, e2, e3, fa, la0, la1, e0cs, e0rc, e0a, e0b, e0c, e0d, e0fi, e0fb, e0fc, e0fd, e1cs, e1rc, e1a, e1b, e1c, e1d, e1fi, e1fb, e1fc, e1fd, e2cs, e2rc, e2a, e2b, e2c, e2d, e2fi, e2fb, e2fc, e2fd, e3cs, e3rc, e3a, e3b, e3c, e3d, e3fi, e3fb, e3fc, e3fd, la0m, la0zp_40, la0zw_41, la0c, la0f, la0q, la0zfc_44, la0zff_45, la0zfq_46, la0zn_42, la0zr_43, la0x, la0y, la0zgx_47, la0zgy_48, la1m, la1zp_49, la1zw_50, la1c, la1f, la1q, la1zfc_53, la1zff_54, la1zfq_55, la1zn_51, la1zr_52, la1x, la1y, la1zgx_56, la1zgy_57, fto, e0T, e1T, e2T, e3T, rfl, k_fe_0, k_fe_1, k_fe_2, k_fe_3, k_fa_0, k_fa_1, (by first | assumption | omega), (by first | assumption | omega), he0fi, (by first | assumption | omega), (by first | assumption | omega), he1fi, (by first | assumption | omega), (by first | assumption | omega), he2fi, (by first | assumption | omega), (by first | assumption | omega), he3fi, (by first | assumption | omega), (by first | assumption | omega), (by first | assumption | omega), (by first | assumption | omega), hto, rfl, rfl, rfl, rfl, rfl, rfl⟩ ⟨rt, rf, goz_58, stz_59, knz_60, frfz_63, rtnz_61, rtrz_62, rx, ry, rtfz_64, rtgz_65, rfl, (by first | assumption | omega), (by first | assumption | omega)⟩ (h_101)
theorem wc_X11_turns : Cond.code yX11_turns cX11_turns 4 (some .int) ∈ TB := tbm (tq4 (List.mem_of_getElem? (i := 210) (rfl))) (by decide +kernel)
theorem wi_X11_turns : Cond.instanceMethod yX11_turns ∈ TB := tbm (tq4 (List.mem_of_getElem? (i := 208) (by decide +kernel))) (by decide +kernel)
theorem ws_X11_turns : Cond.selects RX11 yX11_turns yX11_turns ∈ TB := tbm (tq4 (List.mem_of_getElem? (i := 209) (by decide +kernel))) (by decide +kernel)
theorem mi_X11_turns : MI yX11_turns cX11_turns 4 (some .int) 3 := ⟨wc_X11_turns, wn_X11, ⟨by decide +kernel, by decide +kernel, by decide +kernel⟩, wi_X11_turns, ws_X11_turns⟩
theorem wl_L_131 : Cond.methodLink RL 131 yX11_turns ∈ TB := tbm (tq4 (List.mem_of_getElem? (i := 207) (by decide +kernel))) (by decide +kernel)
theorem dL_law_1095 : decode cL_law 1095 = .ok (.invokevirtual 131, 3) := dl_182 (by decide +kernel)
set_option maxRecDepth 100000 in
set_option maxHeartbeats 4000000 in
theorem lx_turns {X : XT} {E : EV} {ro wT pre : va_W} {lv : List (Nat × Value)} {rest : List Value} {kC nC : Nat} {hx h qp qs qj ly qh kk rd pg ss : Nat} {ac np kc pe : Nat} {kn : Int32} {mN : AM} {tT : Nat → Option SVal} {ec : Nat → Nat} {er : Nat → Nat} {ed : Nat → Nat → Int32} {eT : Nat → Nat → Option SVal} {eb : Nat → Nat → Int32} {en : Nat → Nat → Int32} {w_now : va_W} {w_judg : va_W} {w_rnds : va_W} {v0 : Int32} {v1 : Int32} {v2 : Int32}  (C : CX X room_1 cL_law 4 RL ret E) (hW : Nat.ble (rest.map fun v => v.category).sum 8 = true) (hT : wT = pre ++ ro) (hk : kC + 0 ≤ 600000 ∧ nC + 0 ≤ 7302250) (hac : ac ≤ 8) (hnp : np < 8) (hkc : kc ≤ 4) (hpe : pe ≤ 4) (H_now : ok_now E ro h mN w_now) (H_judg : ok_judg E ro qj tT ec er ed eT eb en w_judg) (H_rnds : ok_rnds E ro rd  w_rnds) (kont : ∀ (rr : Int32) (w_nowZ : va_W) (w_judgZ : va_W) (w_rndsZ : va_W), ok_now E ro h mN w_nowZ → ok_judg E ro qj tT ec er ed eT eb en w_judgZ → ok_rnds E ro rd  w_rndsZ → (TUR mN (ev6 ec er eT eb en ed) tT v0 v1 v2 rr) → WW X 4 E 1098 lv (.int rr :: rest) ([(hx, .inr (11, [.ref h, .ref qp, .int (nI ac), .int (nI np), .ref qs, .ref qj, .ref ly, .ref qh, .ref kk, .int (nI kc), .ref rd, .ref pg, .int (nI pe), .int kn, .ref ss]))] ++ (w_nowZ ++ (w_judgZ ++ (w_rndsZ ++ wT)))) kC nC) : WW X 4 E 1095 lv (.int v2 :: .int v1 :: .int v0 :: .ref hx :: rest) ([(hx, .inr (11, [.ref h, .ref qp, .int (nI ac), .int (nI np), .ref qs, .ref qj, .ref ly, .ref qh, .ref kk, .int (nI kc), .ref rd, .ref pg, .int (nI pe), .int kn, .ref ss]))] ++ (w_now ++ (w_judg ++ (w_rnds ++ wT)))) kC nC := by
  unfold ok_now at H_now
  refine ex6 H_now ?_
  clear H_now
  intro n r a b f gg H_now
  refine an4 H_now ?_
  clear H_now
  intro we_now hn hr hwfm H_now
  have hmN := H_now
  clear H_now
  subst we_now
  subst hmN
  unfold ok_judg at H_judg
  refine ex8 H_judg ?_
  clear H_judg
  intro jt je ju ja ft fe e0 e1 H_judg
  refine ex8 H_judg ?_
  clear H_judg
  intro e2 e3 fa la0 la1 e0cs e0rc e0a H_judg
  refine ex8 H_judg ?_
  clear H_judg
  intro e0b e0c e0d e0fi e0fb e0fc e0fd e1cs H_judg
  refine ex8 H_judg ?_
  clear H_judg
  intro e1rc e1a e1b e1c e1d e1fi e1fb e1fc H_judg
  refine ex8 H_judg ?_
  clear H_judg
  intro e1fd e2cs e2rc e2a e2b e2c e2d e2fi H_judg
  refine ex8 H_judg ?_
  clear H_judg
  intro e2fb e2fc e2fd e3cs e3rc e3a e3b e3c H_judg
  refine ex8 H_judg ?_
  clear H_judg
  intro e3d e3fi e3fb e3fc e3fd la0m la0p la0w H_judg
  refine ex8 H_judg ?_
  clear H_judg
  intro la0c la0f la0q la0fc la0ff la0fq la0n la0r H_judg
  refine ex8 H_judg ?_
  clear H_judg
  intro la0x la0y la0gx la0gy la1m la1p la1w la1c H_judg
  refine ex8 H_judg ?_
  clear H_judg
  intro la1f la1q la1fc la1ff la1fq la1n la1r la1x H_judg
  refine ex8 H_judg ?_
  clear H_judg
  intro la1y la1gx la1gy fto e0T e1T e2T e3T H_judg
  refine an8 H_judg ?_
  clear H_judg
  intro we_judg k_fe_0 k_fe_1 k_fe_2 k_fe_3 k_fa_0 k_fa_1 he0cs H_judg
  refine an8 H_judg ?_
  clear H_judg
  intro he0rc he0fi he1cs he1rc he1fi he2cs he2rc he2fi H_judg
  refine an8 H_judg ?_
  clear H_judg
  intro he3cs he3rc he3fi hla0n hla0r hla1n hla1r hto H_judg
  refine an5 H_judg ?_
  clear H_judg
  intro hec her hed heT heb H_judg
  have hen := H_judg
  clear H_judg
  subst we_judg
  subst hec
  subst her
  subst hed
  subst heT
  subst heb
  subst hen
  unfold ok_rnds at H_rnds
  refine ex8 H_rnds ?_
  clear H_rnds
  intro rt rf go0 sty0 knw0 frf rtn rtr H_rnds
  refine ex4 H_rnds ?_
  clear H_rnds
  intro rx ry rtf rtg H_rnds
  refine an2 H_rnds ?_
  clear H_rnds
  intro we_rnds hrtn H_rnds
  have hrtr := H_rnds
  clear H_rnds
  subst we_rnds
  refine ww_eq (ws' := [(hx, .inr (11, [.ref h, .ref qp, .int (nI ac), .int (nI np), .ref qs, .ref qj, .ref ly, .ref qh, .ref kk, .int (nI kc), .ref rd, .ref pg, .int (nI pe), .int kn, .ref ss])), (h, .inr (4, [.int (nI n), .int (nI r), .ref a, .ref b])), (a, .inl (E.2.1 1, 24, .inl f)), (b, .inl (E.2.1 1, 96, .inl gg)), (qj, .inr (2, [.ref jt, .ref je, .ref ju, .ref ja])), (ju, .inl (E.2.1 1, 32, .inl ft)), (je, .inl (E.2.1 4, 4, .inr (.inr (.inr (.inr fe))))), (ja, .inl (E.2.1 5, 2, .inr (.inr (.inr (.inr fa))))), (e0, .inr (0, [.int (nI e0cs), .int (nI e0rc), .ref e0a, .ref e0b, .ref e0c, .ref e0d])), (e0a, .inl (E.2.1 7, 4, .inr (.inr (.inr (.inr e0fi))))), (e0b, .inl (E.2.1 1, 4, .inl e0fb)), (e0c, .inl (E.2.1 1, 4, .inl e0fc)), (e0d, .inl (E.2.1 1, 16, .inl e0fd)), (e1, .inr (0, [.int (nI e1cs), .int (nI e1rc), .ref e1a, .ref e1b, .ref e1c, .ref e1d])), (e1a, .inl (E.2.1 7, 4, .inr (.inr (.inr (.inr e1fi))))), (e1b, .inl (E.2.1 1, 4, .inl e1fb)), (e1c, .inl (E.2.1 1, 4, .inl e1fc)), (e1d, .inl (E.2.1 1, 16, .inl e1fd)), (e2, .inr (0, [.int (nI e2cs), .int (nI e2rc), .ref e2a, .ref e2b, .ref e2c, .ref e2d])), (e2a, .inl (E.2.1 7, 4, .inr (.inr (.inr (.inr e2fi))))), (e2b, .inl (E.2.1 1, 4, .inl e2fb)), (e2c, .inl (E.2.1 1, 4, .inl e2fc)), (e2d, .inl (E.2.1 1, 16, .inl e2fd)), (e3, .inr (0, [.int (nI e3cs), .int (nI e3rc), .ref e3a, .ref e3b, .ref e3c, .ref e3d])), (e3a, .inl (E.2.1 7, 4, .inr (.inr (.inr (.inr e3fi))))), (e3b, .inl (E.2.1 1, 4, .inl e3fb)), (e3c, .inl (E.2.1 1, 4, .inl e3fc)), (e3d, .inl (E.2.1 1, 16, .inl e3fd)), (la0, .inr (3, [.ref la0m, .int la0p, .int la0w, .ref la0c, .ref la0f, .ref la0q])), (la0c, .inl (E.2.1 1, 24, .inl la0fc)), (la0f, .inl (E.2.1 1, 24, .inl la0ff)), (la0q, .inl (E.2.1 1, 4, .inl la0fq)), (la0m, .inr (4, [.int (nI la0n), .int (nI la0r), .ref la0x, .ref la0y])), (la0x, .inl (E.2.1 1, 24, .inl la0gx)), (la0y, .inl (E.2.1 1, 96, .inl la0gy)), (la1, .inr (3, [.ref la1m, .int la1p, .int la1w, .ref la1c, .ref la1f, .ref la1q])), (la1c, .inl (E.2.1 1, 24, .inl la1fc)), (la1f, .inl (E.2.1 1, 24, .inl la1ff)), (la1q, .inl (E.2.1 1, 4, .inl la1fq)), (la1m, .inr (4, [.int (nI la1n), .int (nI la1r), .ref la1x, .ref la1y])), (la1x, .inl (E.2.1 1, 24, .inl la1gx)), (la1y, .inl (E.2.1 1, 96, .inl la1gy)), (jt, .inl (E.2.1 7, 8, .inr (.inr (.inr (.inr fto))))), (rd, .inr (7, [.ref rt, .ref rf, .int go0, .int sty0, .int knw0])), (rf, .inl (E.2.1 1, 4, .inl frf)), (rt, .inr (4, [.int (nI rtn), .int (nI rtr), .ref rx, .ref ry])), (rx, .inl (E.2.1 1, 24, .inl rtf)), (ry, .inl (E.2.1 1, 96, .inl rtg))] ++ wT) ?_ rfl rfl rfl
  refine ww_ciT (k' := kC) (n' := nC) (wr := []) C (run_V (As := [.int v0, .int v1, .int v2]) (rest := rest) C (x_turns X.2.1 E ro hx v0 v1 v2 h qp ac np qs qj ly qh kk kc rd pg pe kn ss n r a b f gg jt je ju ja ft fe e0 e1 e2 e3 fa la0 la1 e0cs e0rc e0a e0b e0c e0d e0fi e0fb e0fc e0fd e1cs e1rc e1a e1b e1c e1d e1fi e1fb e1fc e1fd e2cs e2rc e2a e2b e2c e2d e2fi e2fb e2fc e2fd e3cs e3rc e3a e3b e3c e3d e3fi e3fb e3fc e3fd la0m la0p la0w la0c la0f la0q la0fc la0ff la0fq la0n la0r la0x la0y la0gx la0gy la1m la1p la1w la1c la1f la1q la1fc la1ff la1fq la1n la1r la1x la1y la1gx la1gy fto rt rf go0 sty0 knw0 frf rtn rtr rx ry rtf rtg e0T e1T e2T e3T tT k_fe_0 k_fe_1 k_fe_2 k_fe_3 k_fa_0 k_fa_1 (by first | assumption | omega) (by first | assumption | omega) (by first | assumption | omega) (by first | assumption | omega) (by first | assumption | omega) (by first | assumption | omega) (by first | assumption | omega) (by first | assumption | omega) (by first | assumption | omega) he0fi (by first | assumption | omega) (by first | assumption | omega) he1fi (by first | assumption | omega) (by first | assumption | omega) he2fi (by first | assumption | omega) (by first | assumption | omega) he3fi (by first | assumption | omega) (by first | assumption | omega) (by first | assumption | omega) (by first | assumption | omega) hto (by first | assumption | omega) (by first | assumption | omega)) mi_X11_turns wl_L_131 rfl 0 11 rfl rfl rfl rfl hW dL_law_1095) (roT (pre := pre) [0, 1, 2, 3, 4, 5, 6, 7, 8, 9, 10, 11, 12, 13, 14, 15, 16, 17, 18, 19, 20, 21, 22, 23, 24, 25, 26, 27, 28, 29, 30, 31, 32, 33, 34, 35, 36, 37, 38, 39, 40, 41, 42, 43, 44, 45, 46, 47] rfl hT) [0, 1, 2, 3, 4, 5, 6, 7, 8, 9, 10, 11, 12, 13, 14, 15, 16, 17, 18, 19, 20, 21, 22, 23, 24, 25, 26, 27, 28, 29, 30, 31, 32, 33, 34, 35, 36, 37, 38, 39, 40, 41, 42, 43, 44, 45, 46, 47] [] (gqk (by eq_refl)) rfl (plk (by decide +kernel)) ⟨by omega, by omega, hk.1, hk.2⟩ (fun rr u hw => ?_)
  refine ex8 hw ?_
  clear hw
  intro ft2_1 la0zp_2 la0zw_3 la0zn_4 la0zr_5 la0zfc_6 la0zff_7 la0zfq_8 hw
  refine ex8 hw ?_
  clear hw
  intro la0zgx_9 la0zgy_10 la1zp_11 la1zw_12 la1zn_13 la1zr_14 la1zfc_15 la1zff_16 hw
  refine ex8 hw ?_
  clear hw
  intro la1zfq_17 la1zgx_18 la1zgy_19 goz_20 stz_21 knz_22 rtnz_23 rtrz_24 hw
  refine ex3 hw ?_
  clear hw
  intro frfz_25 rtfz_26 rtgz_27 hw
  refine an7 hw ?_
  clear hw
  intro he_u h_28 h_29 h_30 h_31 h_32 h_33 hw
  have h_34 := hw
  clear hw
  subst he_u
  refine ww_subT (w1 := [(hx, .inr (11, [.ref h, .ref qp, .int (nI ac), .int (nI np), .ref qs, .ref qj, .ref ly, .ref qh, .ref kk, .int (nI kc), .ref rd, .ref pg, .int (nI pe), .int kn, .ref ss])), (h, .inr (4, [.int (nI n), .int (nI r), .ref a, .ref b])), (a, .inl (E.2.1 1, 24, .inl f)), (b, .inl (E.2.1 1, 96, .inl gg)), (qj, .inr (2, [.ref jt, .ref je, .ref ju, .ref ja])), (ju, .inl (E.2.1 1, 32, .inl ft2_1)), (je, .inl (E.2.1 4, 4, .inr (.inr (.inr (.inr fe))))), (ja, .inl (E.2.1 5, 2, .inr (.inr (.inr (.inr fa))))), (e0, .inr (0, [.int (nI e0cs), .int (nI e0rc), .ref e0a, .ref e0b, .ref e0c, .ref e0d])), (e0a, .inl (E.2.1 7, 4, .inr (.inr (.inr (.inr e0fi))))), (e0b, .inl (E.2.1 1, 4, .inl e0fb)), (e0c, .inl (E.2.1 1, 4, .inl e0fc)), (e0d, .inl (E.2.1 1, 16, .inl e0fd)), (e1, .inr (0, [.int (nI e1cs), .int (nI e1rc), .ref e1a, .ref e1b, .ref e1c, .ref e1d])), (e1a, .inl (E.2.1 7, 4, .inr (.inr (.inr (.inr e1fi))))), (e1b, .inl (E.2.1 1, 4, .inl e1fb)), (e1c, .inl (E.2.1 1, 4, .inl e1fc)), (e1d, .inl (E.2.1 1, 16, .inl e1fd)), (e2, .inr (0, [.int (nI e2cs), .int (nI e2rc), .ref e2a, .ref e2b, .ref e2c, .ref e2d])), (e2a, .inl (E.2.1 7, 4, .inr (.inr (.inr (.inr e2fi))))), (e2b, .inl (E.2.1 1, 4, .inl e2fb)), (e2c, .inl (E.2.1 1, 4, .inl e2fc)), (e2d, .inl (E.2.1 1, 16, .inl e2fd)), (e3, .inr (0, [.int (nI e3cs), .int (nI e3rc), .ref e3a, .ref e3b, .ref e3c, .ref e3d])), (e3a, .inl (E.2.1 7, 4, .inr (.inr (.inr (.inr e3fi))))), (e3b, .inl (E.2.1 1, 4, .inl e3fb)), (e3c, .inl (E.2.1 1, 4, .inl e3fc)), (e3d, .inl (E.2.1 1, 16, .inl e3fd)), (la0, .inr (3, [.ref la0m, .int la0zp_2, .int la0zw_3, .ref la0c, .ref la0f, .ref la0q])), (la0c, .inl (E.2.1 1, 24, .inl la0zfc_6)), (la0f, .inl (E.2.1 1, 24, .inl la0zff_7)), (la0q, .inl (E.2.1 1, 4, .inl la0zfq_8)), (la0m, .inr (4, [.int (nI la0zn_4), .int (nI la0zr_5), .ref la0x, .ref la0y])), (la0x, .inl (E.2.1 1, 24, .inl la0zgx_9)), (la0y, .inl (E.2.1 1, 96, .inl la0zgy_10)), (la1, .inr (3, [.ref la1m, .int la1zp_11, .int la1zw_12, .ref la1c, .ref la1f, .ref la1q])), (la1c, .inl (E.2.1 1, 24, .inl la1zfc_15)), (la1f, .inl (E.2.1 1, 24, .inl la1zff_16)), (la1q, .inl (E.2.1 1, 4, .inl la1zfq_17)), (la1m, .inr (4, [.int (nI la1zn_13), .int (nI la1zr_14), .ref la1x, .ref la1y])), (la1x, .inl (E.2.1 1, 24, .inl la1zgx_18)), (la1y, .inl (E.2.1 1, 96, .inl la1zgy_19)), (jt, .inl (E.2.1 7, 8, .inr (.inr (.inr (.inr fto))))), (rd, .inr (7, [.ref rt, .ref rf, .int goz_20, .int stz_21, .int knz_22])), (rf, .inl (E.2.1 1, 4, .inl frfz_25)), (rt, .inr (4, [.int (nI rtnz_23), .int (nI rtrz_24), .ref rx, .ref ry])), (rx, .inl (E.2.1 1, 24, .inl rtfz_26)), (ry, .inl (E.2.1 1, 96, .inl rtgz_27))]) [0, 1, 2, 3, 4, 5, 6, 7, 8, 9, 10, 11, 12, 13, 14, 15, 16, 17, 18, 19, 20, 21, 22, 23, 24, 25, 26, 27, 28, 29, 30, 31, 32, 33, 34, 35, 36, 37, 38, 39, 40, 41, 42, 43, 44, 45, 46, 47] (ndk (by decide +kernel)) (gqk (by eq_refl)) ?_
  exact kont rr  [(h, .inr (4, [.int (nI n), .int (nI r), .ref a, .ref b])), (a, .inl (E.2.1 1, 24, .inl f)), (b, .inl (E.2.1 1, 96, .inl gg))] [(qj, .inr (2, [.ref jt, .ref je, .ref ju, .ref ja])), (ju, .inl (E.2.1 1, 32, .inl ft2_1)), (je, .inl (E.2.1 4, 4, .inr (.inr (.inr (.inr fe))))), (ja, .inl (E.2.1 5, 2, .inr (.inr (.inr (.inr fa))))), (e0, .inr (0, [.int (nI e0cs), .int (nI e0rc), .ref e0a, .ref e0b, .ref e0c, .ref e0d])), (e0a, .inl (E.2.1 7, 4, .inr (.inr (.inr (.inr e0fi))))), (e0b, .inl (E.2.1 1, 4, .inl e0fb)), (e0c, .inl (E.2.1 1, 4, .inl e0fc)), (e0d, .inl (E.2.1 1, 16, .inl e0fd)), (e1, .inr (0, [.int (nI e1cs), .int (nI e1rc), .ref e1a, .ref e1b, .ref e1c, .ref e1d])), (e1a, .inl (E.2.1 7, 4, .inr (.inr (.inr (.inr e1fi))))), (e1b, .inl (E.2.1 1, 4, .inl e1fb)), (e1c, .inl (E.2.1 1, 4, .inl e1fc)), (e1d, .inl (E.2.1 1, 16, .inl e1fd)), (e2, .inr (0, [.int (nI e2cs), .int (nI e2rc), .ref e2a, .ref e2b, .ref e2c, .ref e2d])), (e2a, .inl (E.2.1 7, 4, .inr (.inr (.inr (.inr e2fi))))), (e2b, .inl (E.2.1 1, 4, .inl e2fb)), (e2c, .inl (E.2.1 1, 4, .inl e2fc)), (e2d, .inl (E.2.1 1, 16, .inl e2fd)), (e3, .inr (0, [.int (nI e3cs), .int (nI e3rc), .ref e3a, .ref e3b, .ref e3c, .ref e3d])), (e3a, .inl (E.2.1 7, 4, .inr (.inr (.inr (.inr e3fi))))), (e3b, .inl (E.2.1 1, 4, .inl e3fb)), (e3c, .inl (E.2.1 1, 4, .inl e3fc)), (e3d, .inl (E.2.1 1, 16, .inl e3fd)), (la0, .inr (3, [.ref la0m, .int la0zp_2, .int la0zw_3, .ref la0c, .ref la0f, .ref la0q])), (la0c, .inl (E.2.1 1, 24, .inl la0zfc_6)), (la0f, .inl (E.2.1 1, 24, .inl la0zff_7)), (la0q, .inl (E.2.1 1, 4, .inl la0zfq_8)), (la0m, .inr (4, [.int (nI la0zn_4), .int (nI la0zr_5), .ref la0x, .ref la0y])), (la0x, .inl (E.2.1 1, 24, .inl la0zgx_9)), (la0y, .inl (E.2.1 1, 96, .inl la0zgy_10)), (la1, .inr (3, [.ref la1m, .int la1zp_11, .int la1zw_12, .ref la1c, .ref la1f, .ref la1q])), (la1c, .inl (E.2.1 1, 24, .inl la1zfc_15)), (la1f, .inl (E.2.1 1, 24, .inl la1zff_16)), (la1q, .inl (E.2.1 1, 4, .inl la1zfq_17)), (la1m, .inr (4, [.int (nI la1zn_13), .int (nI la1zr_14), .ref la1x, .ref la1y])), (la1x, .inl (E.2.1 1, 24, .inl la1zgx_18)), (la1y, .inl (E.2.1 1, 96, .inl la1zgy_19)), (jt, .inl (E.2.1 7, 8, .inr (.inr (.inr (.inr fto)))))] [(rd, .inr (7, [.ref rt, .ref rf, .int goz_20, .int stz_21, .int knz_22])), (rf, .inl (E.2.1 1, 4, .inl frfz_25)), (rt, .inr (4, [.int (nI rtnz_23), .int (nI rtrz_24), .ref rx, .ref ry])), (rx, .inl (E.2.1 1, 24, .inl rtfz_26)), (ry, .inl (E.2.1 1, 96, .inl rtgz_27))]  ⟨n, r, a, b, f, gg, rfl, (by first | assumption | omega), (by first | assumption | omega), (by first | assumption | omega), rfl⟩ ⟨jt, je, ju, ja, ft2_1, fe, e0, e1, e2, e3, fa, la0, la1, e0cs, e0rc, e0a, e0b, e0c, e0d, e0fi, e0fb, e0fc, e0fd, e1cs, e1rc, e1a, e1b, e1c, e1d, e1fi, e1fb, e1fc, e1fd, e2cs, e2rc, e2a, e2b, e2c, e2d, e2fi, e2fb, e2fc, e2fd, e3cs, e3rc, e3a, e3b, e3c, e3d, e3fi, e3fb, e3fc, e3fd, la0m, la0zp_2, la0zw_3, la0c, la0f, la0q, la0zfc_6, la0zff_7, la0zfq_8, la0zn_4, la0zr_5, la0x, la0y, la0zgx_9, la0zgy_10, la1m, la1zp_11, la1zw_12, la1c, la1f, la1q, la1zfc_15, la1zff_16, la1zfq_17, la1zn_13, la1zr_14, la1x, la1y, la1zgx_18, la1zgy_19, fto, e0T, e1T, e2T, e3T, rfl, k_fe_0, k_fe_1, k_fe_2, k_fe_3, k_fa_0, k_fa_1, (by first | assumption | omega), (by first | assumption | omega), he0fi, (by first | assumption | omega), (by first | assumption | omega), he1fi, (by first | assumption | omega), (by first | assumption | omega), he2fi, (by first | assumption | omega), (by first | assumption | omega), he3fi, (by first | assumption | omega), (by first | assumption | omega), (by first | assumption | omega), (by first | assumption | omega), hto, rfl, rfl, rfl, rfl, rfl, rfl⟩ ⟨rt, rf, goz_20, stz_21, knz_22, frfz_25, rtnz_23, rtrz_24, rx, ry, rtfz_26, rtgz_27, rfl, (by first | assumption | omega), (by first | assumption | omega)⟩ (h_34)
end
