section
abbrev RL_ (tl : Nat) (ct : Nat → Int) (pe : Nat) (kn : Int32) (ac : Nat) (np : Nat) (kc : Nat) (mN : AM) (pV : Nat → AM) (kV : Nat → AM) (st : Nat → Nat) (sn : Nat → Nat) (sl : Nat → Nat) (scx : Nat → Nat → Int32) (tT : Nat → Option SVal) (ec : Nat → Nat) (er : Nat → Nat) (ed : Nat → Nat → Int32) (eT : Nat → Nat → Option SVal) (eb : Nat → Nat → Int32) (en : Nat → Nat → Int32) (q_undos : Nat) (q_models : Nat) (PGv : Nat → AM) (f_afterOf : Nat → Int32) (f_actMany : Nat → Int32) (f_actOf : Nat → Int32) (f_whom : Nat → Int32) (f_hasIf : Nat → Int32) (f_becomes : Nat → Int32) (f_goneOf : Nat → Int32) (q_taped : Nat) (cr : Nat → Int) (q_people : Nat) (f_secrets : Nat → Int32) (f_lanes : Nat → Int32) (f_lengths : Nat → Int32) (f_cells : Nat → Int32) (f_tokens : Nat → Int32) (f_afters : Nat → Int32) (f_caseMany : Nat → Int32) (f_happen : Nat → Int32) (f_heard : Nat → Int32) : Prop := tl = q_taped ∧ ct = cr ∧ pe = q_people ∧ SEC pe kn f_secrets ∧ SHE st sn sl f_lanes f_lengths ∧ CEL st sn scx f_cells ∧ EVQ ec er ed f_caseMany f_happen f_heard ∧ TLQ tT f_tokens f_afters ∧ asX mN ac np pV = asM q_undos PGv ∧ KEQ q_models kc kV PGv ∧ TVQ tT f_tokens f_actMany f_actOf f_whom f_afterOf f_afters ∧ IVQ eT eb en f_hasIf f_actMany f_actOf f_whom f_becomes f_goneOf ∧ SGQ tT f_tokens ∧ CPK pe kn
theorem ST.tl {E : EV} {hx hm : Nat} {tl : Nat} {ct : Nat → Int} {pe : Nat} {kn : Int32} {ac : Nat} {np : Nat} {kc : Nat} {mN : AM} {pV : Nat → AM} {kV : Nat → AM} {st : Nat → Nat} {sn : Nat → Nat} {sl : Nat → Nat} {scx : Nat → Nat → Int32} {tT : Nat → Option SVal} {ec : Nat → Nat} {er : Nat → Nat} {ed : Nat → Nat → Int32} {eT : Nat → Nat → Option SVal} {eb : Nat → Nat → Int32} {en : Nat → Nat → Int32} {q_undos : Nat} {q_models : Nat} {PGv : Nat → AM} {f_afterOf : Nat → Int32} {f_actMany : Nat → Int32} {f_actOf : Nat → Int32} {f_whom : Nat → Int32} {f_hasIf : Nat → Int32} {f_becomes : Nat → Int32} {f_goneOf : Nat → Int32} {q_taped : Nat} {cr : Nat → Int} {q_people : Nat} {f_secrets : Nat → Int32} {f_lanes : Nat → Int32} {f_lengths : Nat → Int32} {f_cells : Nat → Int32} {f_tokens : Nat → Int32} {f_afters : Nat → Int32} {f_caseMany : Nat → Int32} {f_happen : Nat → Int32} {f_heard : Nat → Int32} {ws : va_W} (h : ST E hx hm tl ct pe kn ac np kc mN pV kV st sn sl scx tT ec er ed eT eb en q_undos q_models PGv f_afterOf f_actMany f_actOf f_whom f_hasIf f_becomes f_goneOf q_taped cr q_people f_secrets f_lanes f_lengths f_cells f_tokens f_afters f_caseMany f_happen f_heard ws) : tl ≤ 160 ∧ q_taped ≤ 160 ∧ pe ≤ 4 ∧ kc ≤ 4 ∧ q_undos ≤ 8 := by
  unfold ST at h
  refine ex8 h ?_
  clear h
  intro h qp qs qj ly qh kk rd h
  refine ex8 h ?_
  clear h
  intro pg ss w_now w_past w_pars w_judg w_layr w_heap h
  refine ex6 h ?_
  clear h
  intro w_kept w_rnds w_plnr w_shts wm ro h
  refine an8 h ?_
  clear h
  intro hac hnp hkc hpe H_now H_past H_pars H_judg h
  refine an7 h ?_
  clear h
  intro H_layr H_heap H_kept H_rnds H_plnr H_shts H_ref h
  have we_st := h
  clear h
  subst we_st
  unfold ok_pars at H_pars
  refine ex8 H_pars ?_
  clear H_pars
  intro qt po pa pf pd nd tn an H_pars
  refine ex8 H_pars ?_
  clear H_pars
  intro wr pl tb ta tk ts fb fo H_pars
  refine ex3 H_pars ?_
  clear H_pars
  intro pfa af fd H_pars
  refine an2 H_pars ?_
  clear H_pars
  intro we_pars htl H_pars
  have hct := H_pars
  clear H_pars
  subst we_pars
  subst hct
  unfold ok_ref at H_ref
  refine ex8 H_ref ?_
  clear H_ref
  intro m_manys m_reals m_factsOf m_possible m_tape q_fault q_wrong q_wrongAt H_ref
  refine ex8 H_ref ?_
  clear H_ref
  intro q_spot q_place q_token q_value m_ends m_letters m_actOf m_whom H_ref
  refine ex8 H_ref ?_
  clear H_ref
  intro m_actMany m_tokens m_afters m_afterOf q_counted m_pile m_caseMany m_happen H_ref
  refine ex8 H_ref ?_
  clear H_ref
  intro m_hasIf m_becomes m_goneOf m_heard m_pairs m_heaps q_rounds q_heapMany H_ref
  refine ex8 H_ref ?_
  clear H_ref
  intro m_led m_newAt m_knowing m_firsts m_secrets m_tried m_lanes m_lengths H_ref
  refine ex8 H_ref ?_
  clear H_ref
  intro m_cells f_manys f_reals f_factsOf f_possible f_tape f_ends f_letters H_ref
  refine ex8 H_ref ?_
  clear H_ref
  intro f_pile f_pairs f_heaps f_led f_newAt f_knowing f_firsts f_tried H_ref
  refine an8 H_ref ?_
  clear H_ref
  intro we_ref hb_manys hb_reals hb_tape hb_ends hb_letters hb_actMany hb_afters H_ref
  refine an8 H_ref ?_
  clear H_ref
  intro hb_afterOf hb_caseMany hb_happen hb_lengths hpg hhp hsv hwf H_ref
  refine an7 H_ref ?_
  clear H_ref
  intro hq_undos hq_models hq_taped hq_people hq_token hq_value hcr H_ref
  have hPGv := H_ref
  clear H_ref
  subst we_ref
  subst hcr
  subst hPGv
  exact ⟨htl, hq_taped, hpe, hkc, hq_undos⟩
theorem eq_feed {v0 v : Int64} {r1 r2 : Int32} {tl : Nat} {ct : Nat → Int} {pe : Nat} {kn : Int32} {ac : Nat} {np : Nat} {kc : Nat} {mN : AM} {pV : Nat → AM} {kV : Nat → AM} {st : Nat → Nat} {sn : Nat → Nat} {sl : Nat → Nat} {scx : Nat → Nat → Int32} {tT : Nat → Option SVal} {ec : Nat → Nat} {er : Nat → Nat} {ed : Nat → Nat → Int32} {eT : Nat → Nat → Option SVal} {eb : Nat → Nat → Int32} {en : Nat → Nat → Int32} {q_undos : Nat} {q_models : Nat} {PGv : Nat → AM} {f_afterOf : Nat → Int32} {f_actMany : Nat → Int32} {f_actOf : Nat → Int32} {f_whom : Nat → Int32} {f_hasIf : Nat → Int32} {f_becomes : Nat → Int32} {f_goneOf : Nat → Int32} {q_taped : Nat} {cr : Nat → Int} {q_people : Nat} {f_secrets : Nat → Int32} {f_lanes : Nat → Int32} {f_lengths : Nat → Int32} {f_cells : Nat → Int32} {f_tokens : Nat → Int32} {f_afters : Nat → Int32} {f_caseMany : Nat → Int32} {f_happen : Nat → Int32} {f_heard : Nat → Int32} {tlZ : Nat} {ctZ : Nat → Int} {q_tapedZ : Nat} {crZ : Nat → Int} (hx : (tl + 8 ≤ 160 ∧ tlZ = tl + 8 ∧ ctZ = czf ct tl v0 ∧ r1 = nI (tl + 8)) ∨ (160 < tl + 8 ∧ tlZ = tl ∧ ctZ = ct ∧ r1 = -3)) (hm : (q_taped + 8 ≤ 160 ∧ q_tapedZ = q_taped + 8 ∧ crZ = czf cr q_taped v ∧ r2 = nI (q_taped + 8)) ∨ (160 < q_taped + 8 ∧ q_tapedZ = q_taped ∧ crZ = cr ∧ r2 = -3)) (hR : RL_ tl ct pe kn ac np kc mN pV kV st sn sl scx tT ec er ed eT eb en q_undos q_models PGv f_afterOf f_actMany f_actOf f_whom f_hasIf f_becomes f_goneOf q_taped cr q_people f_secrets f_lanes f_lengths f_cells f_tokens f_afters f_caseMany f_happen f_heard) (hb : tl ≤ 160 ∧ q_taped ≤ 160 ∧ pe ≤ 4 ∧ kc ≤ 4 ∧ q_undos ≤ 8) (hv : v0 = v) : r1 = r2 := by
  have h0 := hR.1
  rcases hx with ⟨a1, a2, a3, a4⟩ | ⟨a1, a2, a3, a4⟩
  · rcases hm with ⟨b1, b2, b3, b4⟩ | ⟨b1, b2, b3, b4⟩
    · rw [a4, b4, h0]
    · exfalso; omega
  · rcases hm with ⟨b1, b2, b3, b4⟩ | ⟨b1, b2, b3, b4⟩
    · exfalso; omega
    · rw [a4, b4]
theorem re_feed {v0 v : Int64} {r1 r2 : Int32} {tl : Nat} {ct : Nat → Int} {pe : Nat} {kn : Int32} {ac : Nat} {np : Nat} {kc : Nat} {mN : AM} {pV : Nat → AM} {kV : Nat → AM} {st : Nat → Nat} {sn : Nat → Nat} {sl : Nat → Nat} {scx : Nat → Nat → Int32} {tT : Nat → Option SVal} {ec : Nat → Nat} {er : Nat → Nat} {ed : Nat → Nat → Int32} {eT : Nat → Nat → Option SVal} {eb : Nat → Nat → Int32} {en : Nat → Nat → Int32} {q_undos : Nat} {q_models : Nat} {PGv : Nat → AM} {f_afterOf : Nat → Int32} {f_actMany : Nat → Int32} {f_actOf : Nat → Int32} {f_whom : Nat → Int32} {f_hasIf : Nat → Int32} {f_becomes : Nat → Int32} {f_goneOf : Nat → Int32} {q_taped : Nat} {cr : Nat → Int} {q_people : Nat} {f_secrets : Nat → Int32} {f_lanes : Nat → Int32} {f_lengths : Nat → Int32} {f_cells : Nat → Int32} {f_tokens : Nat → Int32} {f_afters : Nat → Int32} {f_caseMany : Nat → Int32} {f_happen : Nat → Int32} {f_heard : Nat → Int32} {tlZ : Nat} {ctZ : Nat → Int} {q_tapedZ : Nat} {crZ : Nat → Int} (hx : (tl + 8 ≤ 160 ∧ tlZ = tl + 8 ∧ ctZ = czf ct tl v0 ∧ r1 = nI (tl + 8)) ∨ (160 < tl + 8 ∧ tlZ = tl ∧ ctZ = ct ∧ r1 = -3)) (hm : (q_taped + 8 ≤ 160 ∧ q_tapedZ = q_taped + 8 ∧ crZ = czf cr q_taped v ∧ r2 = nI (q_taped + 8)) ∨ (160 < q_taped + 8 ∧ q_tapedZ = q_taped ∧ crZ = cr ∧ r2 = -3)) (hR : RL_ tl ct pe kn ac np kc mN pV kV st sn sl scx tT ec er ed eT eb en q_undos q_models PGv f_afterOf f_actMany f_actOf f_whom f_hasIf f_becomes f_goneOf q_taped cr q_people f_secrets f_lanes f_lengths f_cells f_tokens f_afters f_caseMany f_happen f_heard) (hb : tl ≤ 160 ∧ q_taped ≤ 160 ∧ pe ≤ 4 ∧ kc ≤ 4 ∧ q_undos ≤ 8) (hv : v0 = v) : tlZ = q_tapedZ ∧ ctZ = crZ := by
  have h0 := hR.1
  have h1 := hR.2.1
  rcases hx with ⟨a1, a2, a3, a4⟩ | ⟨a1, a2, a3, a4⟩
  · rcases hm with ⟨b1, b2, b3, b4⟩ | ⟨b1, b2, b3, b4⟩
    · exact ⟨by omega, by rw [a3, b3, h0, h1, hv]⟩
    · exfalso; omega
  · rcases hm with ⟨b1, b2, b3, b4⟩ | ⟨b1, b2, b3, b4⟩
    · exfalso; omega
    · exact ⟨by omega, by rw [a3, b3, h1]⟩
theorem re_say {v0 r1 r2 : Int32} {tl : Nat} {ct : Nat → Int} {pe : Nat} {kn : Int32} {ac : Nat} {np : Nat} {kc : Nat} {mN : AM} {pV : Nat → AM} {kV : Nat → AM} {st : Nat → Nat} {sn : Nat → Nat} {sl : Nat → Nat} {scx : Nat → Nat → Int32} {tT : Nat → Option SVal} {ec : Nat → Nat} {er : Nat → Nat} {ed : Nat → Nat → Int32} {eT : Nat → Nat → Option SVal} {eb : Nat → Nat → Int32} {en : Nat → Nat → Int32} {q_undos : Nat} {q_models : Nat} {PGv : Nat → AM} {f_afterOf : Nat → Int32} {f_actMany : Nat → Int32} {f_actOf : Nat → Int32} {f_whom : Nat → Int32} {f_hasIf : Nat → Int32} {f_becomes : Nat → Int32} {f_goneOf : Nat → Int32} {q_taped : Nat} {cr : Nat → Int} {q_people : Nat} {f_secrets : Nat → Int32} {f_lanes : Nat → Int32} {f_lengths : Nat → Int32} {f_cells : Nat → Int32} {f_tokens : Nat → Int32} {f_afters : Nat → Int32} {f_caseMany : Nat → Int32} {f_happen : Nat → Int32} {f_heard : Nat → Int32} {tlZ : Nat} {ctZ : Nat → Int} {tTZ : Nat → Option SVal} {f_afterOfZ : Nat → Int32} {f_actManyZ : Nat → Int32} {f_actOfZ : Nat → Int32} {f_whomZ : Nat → Int32} {q_tapedZ : Nat} {crZ : Nat → Int} {f_tokensZ : Nat → Int32} {f_aftersZ : Nat → Int32} (hx : ((v0.toInt < 0 ∨ 7 < v0.toInt) ∧ tlZ = tl ∧ ctZ = ct ∧ tTZ = tT ∧ r1 = -1) ∨ (0 ≤ v0.toInt ∧ v0.toInt ≤ 7 ∧ tlZ = 0 ∧ ctZ = cze ct 0 ∧ ((∃ l, SBAD ct l ∧ r1 = (-10 : Int32) - nI l ∧ tTZ = tT) ∨ ∃ jk p n v w K m S, v0 = nI jk ∧ jk ≤ 7 ∧ SOK ct p n v w K m ∧ r1 = nI m ∧ tTZ = va_up tT jk (some S) ∧ sNa S = n ∧ S.1 = K ∧ (1 ≤ K ∧ K ≤ 32) ∧ OPX ct p K S.2.1 S.2.2.1 ∧ (0 < n → S.2.2.2.1 0 = nI v) ∧ (1 < n → S.2.2.2.1 1 = nI w) ∧ AFI n S.2.2.2.1 ∧ S.2.2.2.2.1 = m ∧ S.2.2.2.2.2.1 = nI (dPl S.1 S.2.1) ∧ S.2.2.2.2.2.2.1 = nPl S.2.1 S.2.2.1 S.1))) (hm : ((v0.toInt < 0 ∨ 7 < v0.toInt) ∧ q_tapedZ = q_taped ∧ crZ = cr ∧ (f_tokensZ = f_tokens ∧ f_aftersZ = f_afters ∧ f_actOfZ = f_actOf ∧ f_whomZ = f_whom ∧ f_actManyZ = f_actMany ∧ f_afterOfZ = f_afterOf) ∧ r2 = -1) ∨ (0 ≤ v0.toInt ∧ v0.toInt ≤ 7 ∧ q_tapedZ = 0 ∧ crZ = cze cr 0 ∧ ((∃ l, SBAD cr l ∧ r2 = (-10 : Int32) - nI l ∧ f_tokensZ = f_tokens ∧ KP 8 f_afters f_aftersZ ∧ KP 768 f_actOf f_actOfZ ∧ KP 768 f_whom f_whomZ ∧ KP 24 f_actMany f_actManyZ ∧ KP 16 f_afterOf f_afterOfZ) ∨ ∃ jk p n v w K m, v0 = nI jk ∧ jk ≤ 7 ∧ SOK cr p n v w K m ∧ r2 = nI m ∧ upd f_tokens jk (nI m) = f_tokensZ ∧ (f_aftersZ jk = nI n ∧ ∀ j, j < 8 → j ≠ jk → f_aftersZ j = f_afters j) ∧ m ≤ 32 ∧ n ≤ 2 ∧ K ≤ m ∧ (∀ i, i < K → f_actOfZ (32 * jk + i) = nI (aI cr p i)) ∧ (∀ i, i < K → f_whomZ (32 * jk + i) = nI (gI cr p i)) ∧ (∀ j, j < 768 → (j < 32 * jk ∨ 32 * jk + 32 ≤ j) → f_actOfZ j = f_actOf j) ∧ (∀ j, j < 768 → (j < 32 * jk ∨ 32 * jk + 32 ≤ j) → f_whomZ j = f_whom j) ∧ (cN f_actManyZ jk = K ∧ ∀ j, j < 24 → j ≠ jk → cN f_actManyZ j = cN f_actMany j) ∧ ((0 < n → f_afterOfZ (2 * jk) = nI v) ∧ (1 < n → f_afterOfZ (2 * jk + 1) = nI w) ∧ ∀ j, j < 16 → j ≠ 2 * jk → j ≠ 2 * jk + 1 → f_afterOfZ j = f_afterOf j)))) (hR : RL_ tl ct pe kn ac np kc mN pV kV st sn sl scx tT ec er ed eT eb en q_undos q_models PGv f_afterOf f_actMany f_actOf f_whom f_hasIf f_becomes f_goneOf q_taped cr q_people f_secrets f_lanes f_lengths f_cells f_tokens f_afters f_caseMany f_happen f_heard) (hb : tl ≤ 160 ∧ q_taped ≤ 160 ∧ pe ≤ 4 ∧ kc ≤ 4 ∧ q_undos ≤ 8) : (tlZ = q_tapedZ ∧ ctZ = crZ) ∧ TLQ tTZ f_tokensZ f_aftersZ ∧ TVQ tTZ f_tokensZ f_actManyZ f_actOfZ f_whomZ f_afterOfZ f_aftersZ ∧ IVQ eT eb en f_hasIf f_actManyZ f_actOfZ f_whomZ f_becomes f_goneOf ∧ SGQ tTZ f_tokensZ := by
  have h0 := hR.1
  have h1 := hR.2.1
  have hT := hR.2.2.2.2.2.2.2.1
  have hV := hR.2.2.2.2.2.2.2.2.2.2.1
  have hI := hR.2.2.2.2.2.2.2.2.2.2.2.1
  have hG := hR.2.2.2.2.2.2.2.2.2.2.2.2.1
  rcases hx with ⟨a1, a2, a3, a6, a4⟩ | ⟨a1, a2, a3, a4, a5⟩
  · rcases hm with ⟨b1, b2, b3, ⟨e1, e2, e3, e4, e5, e6⟩, b4⟩ | ⟨b1, b2, b3, b4, b5⟩
    · rw [a6, e1, e2, e3, e4, e5, e6]
      exact ⟨⟨by omega, by rw [a3, b3, h1]⟩, hT, hV, hI, hG⟩
    · exfalso; omega
  · rcases hm with ⟨b1, b2, b3, b6, b4⟩ | ⟨b1, b2, b3, b4, b5⟩
    · exfalso; omega
    · have hz : tlZ = q_tapedZ ∧ ctZ = crZ := ⟨by omega, by rw [a4, b4, h1]⟩
      rw [h1] at a5
      rcases a5 with ⟨l, c1, c2, c3⟩ | ⟨jk, p, n, v, w, K, m, S, c0, c1, c2, c3, c4, c5, c6, c7, c8, c9, ca, cc, s1, s2, s3⟩
      · rcases b5 with ⟨l', d1, d2, d3, d4, d5, d6, d7, d8⟩ | ⟨jk', p', n', v', w', K', m', d0, d1, d2, d3, d4, d5, d6, d7, d8, d9, da, db, dc, dd, de⟩
        · rw [c3, d3]
          exact ⟨hz, TLQ.kp hT d4, TVQ.kp hV d7 d5 d6 d8 d4, IVQ.kp hI (fun j _ h => KP.at d7 h) (fun j _ h => d5 j h) (fun j _ h => d6 j h), hG⟩
        · exact absurd c1 (fun q => SOK.not d2 q)
      · rcases b5 with ⟨l', d1, d2, d3, d4, d5, d6, d7, d8⟩ | ⟨jk', p', n', v', w', K', m', d0, d1, d2, d3, d4, d5, d6, d7, d8, d9, da, db, dc, dd, de⟩
        · exact absurd d1 (fun q => SOK.not c2 q)
        · have e1 := (nI_eq (by omega) (by omega)).mp (c0.symm.trans d0)
          have e3 := SOK.pos d2
          obtain ⟨u1, u2, u3, u4, u5, u6⟩ := SOK.uniq c2 d2
          subst e1; subst u1; subst u2; subst u3; subst u4; subst u5; subst u6
          have hrun := c2
          obtain ⟨o1, o2, o3, o4, oq, o5, o6⟩ := hrun
          rw [c4]
          exact ⟨hz, TLQ.say hT c5 (by omega) d6 d7 d4 d5, TVQ.say hV d1 c7 ⟨by omega, d6⟩ d7 (run_g o4 o5) c6 c8 c5 c9 ca cc d9 da db dc dd d4 d5 de, IVQ.kp hI (fun j _ h => dd.2 j h (by omega)) (fun j _ h => db j h (by omega)) (fun j _ h => dc j h (by omega)), SGQ.say hG d4 s1 s2 s3⟩
theorem eq_say {v0 r1 r2 : Int32} {tl : Nat} {ct : Nat → Int} {pe : Nat} {kn : Int32} {ac : Nat} {np : Nat} {kc : Nat} {mN : AM} {pV : Nat → AM} {kV : Nat → AM} {st : Nat → Nat} {sn : Nat → Nat} {sl : Nat → Nat} {scx : Nat → Nat → Int32} {tT : Nat → Option SVal} {ec : Nat → Nat} {er : Nat → Nat} {ed : Nat → Nat → Int32} {eT : Nat → Nat → Option SVal} {eb : Nat → Nat → Int32} {en : Nat → Nat → Int32} {q_undos : Nat} {q_models : Nat} {PGv : Nat → AM} {f_afterOf : Nat → Int32} {f_actMany : Nat → Int32} {f_actOf : Nat → Int32} {f_whom : Nat → Int32} {f_hasIf : Nat → Int32} {f_becomes : Nat → Int32} {f_goneOf : Nat → Int32} {q_taped : Nat} {cr : Nat → Int} {q_people : Nat} {f_secrets : Nat → Int32} {f_lanes : Nat → Int32} {f_lengths : Nat → Int32} {f_cells : Nat → Int32} {f_tokens : Nat → Int32} {f_afters : Nat → Int32} {f_caseMany : Nat → Int32} {f_happen : Nat → Int32} {f_heard : Nat → Int32} {tlZ : Nat} {ctZ : Nat → Int} {tTZ : Nat → Option SVal} {f_afterOfZ : Nat → Int32} {f_actManyZ : Nat → Int32} {f_actOfZ : Nat → Int32} {f_whomZ : Nat → Int32} {q_tapedZ : Nat} {crZ : Nat → Int} {f_tokensZ : Nat → Int32} {f_aftersZ : Nat → Int32} (hx : ((v0.toInt < 0 ∨ 7 < v0.toInt) ∧ tlZ = tl ∧ ctZ = ct ∧ tTZ = tT ∧ r1 = -1) ∨ (0 ≤ v0.toInt ∧ v0.toInt ≤ 7 ∧ tlZ = 0 ∧ ctZ = cze ct 0 ∧ ((∃ l, SBAD ct l ∧ r1 = (-10 : Int32) - nI l ∧ tTZ = tT) ∨ ∃ jk p n v w K m S, v0 = nI jk ∧ jk ≤ 7 ∧ SOK ct p n v w K m ∧ r1 = nI m ∧ tTZ = va_up tT jk (some S) ∧ sNa S = n ∧ S.1 = K ∧ (1 ≤ K ∧ K ≤ 32) ∧ OPX ct p K S.2.1 S.2.2.1 ∧ (0 < n → S.2.2.2.1 0 = nI v) ∧ (1 < n → S.2.2.2.1 1 = nI w) ∧ AFI n S.2.2.2.1 ∧ S.2.2.2.2.1 = m ∧ S.2.2.2.2.2.1 = nI (dPl S.1 S.2.1) ∧ S.2.2.2.2.2.2.1 = nPl S.2.1 S.2.2.1 S.1))) (hm : ((v0.toInt < 0 ∨ 7 < v0.toInt) ∧ q_tapedZ = q_taped ∧ crZ = cr ∧ (f_tokensZ = f_tokens ∧ f_aftersZ = f_afters ∧ f_actOfZ = f_actOf ∧ f_whomZ = f_whom ∧ f_actManyZ = f_actMany ∧ f_afterOfZ = f_afterOf) ∧ r2 = -1) ∨ (0 ≤ v0.toInt ∧ v0.toInt ≤ 7 ∧ q_tapedZ = 0 ∧ crZ = cze cr 0 ∧ ((∃ l, SBAD cr l ∧ r2 = (-10 : Int32) - nI l ∧ f_tokensZ = f_tokens ∧ KP 8 f_afters f_aftersZ ∧ KP 768 f_actOf f_actOfZ ∧ KP 768 f_whom f_whomZ ∧ KP 24 f_actMany f_actManyZ ∧ KP 16 f_afterOf f_afterOfZ) ∨ ∃ jk p n v w K m, v0 = nI jk ∧ jk ≤ 7 ∧ SOK cr p n v w K m ∧ r2 = nI m ∧ upd f_tokens jk (nI m) = f_tokensZ ∧ (f_aftersZ jk = nI n ∧ ∀ j, j < 8 → j ≠ jk → f_aftersZ j = f_afters j) ∧ m ≤ 32 ∧ n ≤ 2 ∧ K ≤ m ∧ (∀ i, i < K → f_actOfZ (32 * jk + i) = nI (aI cr p i)) ∧ (∀ i, i < K → f_whomZ (32 * jk + i) = nI (gI cr p i)) ∧ (∀ j, j < 768 → (j < 32 * jk ∨ 32 * jk + 32 ≤ j) → f_actOfZ j = f_actOf j) ∧ (∀ j, j < 768 → (j < 32 * jk ∨ 32 * jk + 32 ≤ j) → f_whomZ j = f_whom j) ∧ (cN f_actManyZ jk = K ∧ ∀ j, j < 24 → j ≠ jk → cN f_actManyZ j = cN f_actMany j) ∧ ((0 < n → f_afterOfZ (2 * jk) = nI v) ∧ (1 < n → f_afterOfZ (2 * jk + 1) = nI w) ∧ ∀ j, j < 16 → j ≠ 2 * jk → j ≠ 2 * jk + 1 → f_afterOfZ j = f_afterOf j)))) (hR : RL_ tl ct pe kn ac np kc mN pV kV st sn sl scx tT ec er ed eT eb en q_undos q_models PGv f_afterOf f_actMany f_actOf f_whom f_hasIf f_becomes f_goneOf q_taped cr q_people f_secrets f_lanes f_lengths f_cells f_tokens f_afters f_caseMany f_happen f_heard) (hb : tl ≤ 160 ∧ q_taped ≤ 160 ∧ pe ≤ 4 ∧ kc ≤ 4 ∧ q_undos ≤ 8) : r1 = r2 := by
  have h1 := hR.2.1
  rcases hx with ⟨a1, a2, a3, a6, a4⟩ | ⟨a1, a2, a3, a4, a5⟩
  · rcases hm with ⟨b1, b2, b3, b6, b4⟩ | ⟨b1, b2, b3, b4, b5⟩
    · rw [a4, b4]
    · exfalso; omega
  · rcases hm with ⟨b1, b2, b3, b6, b4⟩ | ⟨b1, b2, b3, b4, b5⟩
    · exfalso; omega
    · rw [h1] at a5
      refine SAYR.uniq (c := cr) ?_ ?_
      · rcases a5 with ⟨l, c1, c2, c3⟩ | ⟨jk, p, n, v, w, K, m, S, c0, c1, c2, c3, c4, c5, c6⟩
        · exact Or.inl ⟨l, c1, c2⟩
        · exact Or.inr ⟨p, n, v, w, K, m, c2, c3⟩
      · rcases b5 with ⟨l', d1, d2, d3, d4⟩ | ⟨jk', p', n', v', w', K', m', d0, d1, d2, d3, d4, d5, d6, d7, d8⟩
        · exact Or.inl ⟨l', d1, d2⟩
        · exact Or.inr ⟨p', n', v', w', K', m', d2, d3⟩
theorem re_end {v0 r1 r2 : Int32} {tl : Nat} {ct : Nat → Int} {pe : Nat} {kn : Int32} {ac : Nat} {np : Nat} {kc : Nat} {mN : AM} {pV : Nat → AM} {kV : Nat → AM} {st : Nat → Nat} {sn : Nat → Nat} {sl : Nat → Nat} {scx : Nat → Nat → Int32} {tT : Nat → Option SVal} {ec : Nat → Nat} {er : Nat → Nat} {ed : Nat → Nat → Int32} {eT : Nat → Nat → Option SVal} {eb : Nat → Nat → Int32} {en : Nat → Nat → Int32} {q_undos : Nat} {q_models : Nat} {PGv : Nat → AM} {f_afterOf : Nat → Int32} {f_actMany : Nat → Int32} {f_actOf : Nat → Int32} {f_whom : Nat → Int32} {f_hasIf : Nat → Int32} {f_becomes : Nat → Int32} {f_goneOf : Nat → Int32} {q_taped : Nat} {cr : Nat → Int} {q_people : Nat} {f_secrets : Nat → Int32} {f_lanes : Nat → Int32} {f_lengths : Nat → Int32} {f_cells : Nat → Int32} {f_tokens : Nat → Int32} {f_afters : Nat → Int32} {f_caseMany : Nat → Int32} {f_happen : Nat → Int32} {f_heard : Nat → Int32} {tlZ : Nat} {ctZ : Nat → Int} {q_tapedZ : Nat} {crZ : Nat → Int} (hx : ((v0.toInt < 0 ∨ (tl : Int) < v0.toInt) ∧ tlZ = tl ∧ ctZ = ct ∧ r1 = -1) ∨ (v0 = nI tlZ ∧ tlZ ≤ tl ∧ ctZ = cze ct tlZ ∧ r1 = nI tl)) (hm : ((v0.toInt < 0 ∨ (q_taped : Int) < v0.toInt) ∧ q_tapedZ = q_taped ∧ crZ = cr ∧ r2 = -1) ∨ (v0 = nI q_tapedZ ∧ q_tapedZ ≤ q_taped ∧ crZ = cze cr q_tapedZ ∧ r2 = nI q_taped)) (hR : RL_ tl ct pe kn ac np kc mN pV kV st sn sl scx tT ec er ed eT eb en q_undos q_models PGv f_afterOf f_actMany f_actOf f_whom f_hasIf f_becomes f_goneOf q_taped cr q_people f_secrets f_lanes f_lengths f_cells f_tokens f_afters f_caseMany f_happen f_heard) (hb : tl ≤ 160 ∧ q_taped ≤ 160 ∧ pe ≤ 4 ∧ kc ≤ 4 ∧ q_undos ≤ 8) : tlZ = q_tapedZ ∧ ctZ = crZ := by
  have h0 := hR.1
  have h1 := hR.2.1
  rcases hx with ⟨a1, a2, a3, a4⟩ | ⟨a1, a2, a3, a4⟩
  · rcases hm with ⟨b1, b2, b3, b4⟩ | ⟨b1, b2, b3, b4⟩
    · exact ⟨by omega, by rw [a3, b3, h1]⟩
    · exfalso; rw [b1, nI_toInt (by omega)] at a1; omega
  · rcases hm with ⟨b1, b2, b3, b4⟩ | ⟨b1, b2, b3, b4⟩
    · exfalso; rw [a1, nI_toInt (by omega)] at b1; omega
    · have e := (nI_eq (by omega) (by omega)).mp (a1.symm.trans b1)
      exact ⟨e, by rw [a3, b3, h1, e]⟩
theorem eq_end {v0 r1 r2 : Int32} {tl : Nat} {ct : Nat → Int} {pe : Nat} {kn : Int32} {ac : Nat} {np : Nat} {kc : Nat} {mN : AM} {pV : Nat → AM} {kV : Nat → AM} {st : Nat → Nat} {sn : Nat → Nat} {sl : Nat → Nat} {scx : Nat → Nat → Int32} {tT : Nat → Option SVal} {ec : Nat → Nat} {er : Nat → Nat} {ed : Nat → Nat → Int32} {eT : Nat → Nat → Option SVal} {eb : Nat → Nat → Int32} {en : Nat → Nat → Int32} {q_undos : Nat} {q_models : Nat} {PGv : Nat → AM} {f_afterOf : Nat → Int32} {f_actMany : Nat → Int32} {f_actOf : Nat → Int32} {f_whom : Nat → Int32} {f_hasIf : Nat → Int32} {f_becomes : Nat → Int32} {f_goneOf : Nat → Int32} {q_taped : Nat} {cr : Nat → Int} {q_people : Nat} {f_secrets : Nat → Int32} {f_lanes : Nat → Int32} {f_lengths : Nat → Int32} {f_cells : Nat → Int32} {f_tokens : Nat → Int32} {f_afters : Nat → Int32} {f_caseMany : Nat → Int32} {f_happen : Nat → Int32} {f_heard : Nat → Int32} {tlZ : Nat} {ctZ : Nat → Int} {q_tapedZ : Nat} {crZ : Nat → Int} (hx : ((v0.toInt < 0 ∨ (tl : Int) < v0.toInt) ∧ tlZ = tl ∧ ctZ = ct ∧ r1 = -1) ∨ (v0 = nI tlZ ∧ tlZ ≤ tl ∧ ctZ = cze ct tlZ ∧ r1 = nI tl)) (hm : ((v0.toInt < 0 ∨ (q_taped : Int) < v0.toInt) ∧ q_tapedZ = q_taped ∧ crZ = cr ∧ r2 = -1) ∨ (v0 = nI q_tapedZ ∧ q_tapedZ ≤ q_taped ∧ crZ = cze cr q_tapedZ ∧ r2 = nI q_taped)) (hR : RL_ tl ct pe kn ac np kc mN pV kV st sn sl scx tT ec er ed eT eb en q_undos q_models PGv f_afterOf f_actMany f_actOf f_whom f_hasIf f_becomes f_goneOf q_taped cr q_people f_secrets f_lanes f_lengths f_cells f_tokens f_afters f_caseMany f_happen f_heard) (hb : tl ≤ 160 ∧ q_taped ≤ 160 ∧ pe ≤ 4 ∧ kc ≤ 4 ∧ q_undos ≤ 8) : r1 = r2 := by
  have h0 := hR.1
  rcases hx with ⟨a1, a2, a3, a4⟩ | ⟨a1, a2, a3, a4⟩
  · rcases hm with ⟨b1, b2, b3, b4⟩ | ⟨b1, b2, b3, b4⟩
    · rw [a4, b4]
    · exfalso; rw [b1, nI_toInt (by omega)] at a1; omega
  · rcases hm with ⟨b1, b2, b3, b4⟩ | ⟨b1, b2, b3, b4⟩
    · exfalso; rw [a1, nI_toInt (by omega)] at b1; omega
    · rw [a4, b4, h0]
theorem eq_people {v0 r1 r2 : Int32} {tl : Nat} {ct : Nat → Int} {pe : Nat} {kn : Int32} {ac : Nat} {np : Nat} {kc : Nat} {mN : AM} {pV : Nat → AM} {kV : Nat → AM} {st : Nat → Nat} {sn : Nat → Nat} {sl : Nat → Nat} {scx : Nat → Nat → Int32} {tT : Nat → Option SVal} {ec : Nat → Nat} {er : Nat → Nat} {ed : Nat → Nat → Int32} {eT : Nat → Nat → Option SVal} {eb : Nat → Nat → Int32} {en : Nat → Nat → Int32} {q_undos : Nat} {q_models : Nat} {PGv : Nat → AM} {f_afterOf : Nat → Int32} {f_actMany : Nat → Int32} {f_actOf : Nat → Int32} {f_whom : Nat → Int32} {f_hasIf : Nat → Int32} {f_becomes : Nat → Int32} {f_goneOf : Nat → Int32} {q_taped : Nat} {cr : Nat → Int} {q_people : Nat} {f_secrets : Nat → Int32} {f_lanes : Nat → Int32} {f_lengths : Nat → Int32} {f_cells : Nat → Int32} {f_tokens : Nat → Int32} {f_afters : Nat → Int32} {f_caseMany : Nat → Int32} {f_happen : Nat → Int32} {f_heard : Nat → Int32} {peZ : Nat} {knZ : Int32} {q_peopleZ : Nat} {f_secretsZ : Nat → Int32} (hx : ((v0.toInt < 2 ∨ 4 < v0.toInt) ∧ peZ = pe ∧ knZ = kn ∧ r1 = -1) ∨ (v0.toInt = 2 ∧ peZ = 2 ∧ knZ = 33 ∧ r1 = 2) ∨ (v0.toInt = 3 ∧ peZ = 3 ∧ knZ = 1057 ∧ r1 = 3) ∨ (v0.toInt = 4 ∧ peZ = 4 ∧ knZ = 33825 ∧ r1 = 4)) (hm : ((v0.toInt < 2 ∨ 4 < v0.toInt) ∧ q_peopleZ = q_people ∧ f_secretsZ = f_secrets ∧ r2 = -1) ∨ (v0.toInt = 2 ∧ q_peopleZ = 2 ∧ (∀ i, i < 2 → f_secretsZ i = nI (2 ^ i)) ∧ r2 = 2) ∨ (v0.toInt = 3 ∧ q_peopleZ = 3 ∧ (∀ i, i < 3 → f_secretsZ i = nI (2 ^ i)) ∧ r2 = 3) ∨ (v0.toInt = 4 ∧ q_peopleZ = 4 ∧ (∀ i, i < 4 → f_secretsZ i = nI (2 ^ i)) ∧ r2 = 4)) (hR : RL_ tl ct pe kn ac np kc mN pV kV st sn sl scx tT ec er ed eT eb en q_undos q_models PGv f_afterOf f_actMany f_actOf f_whom f_hasIf f_becomes f_goneOf q_taped cr q_people f_secrets f_lanes f_lengths f_cells f_tokens f_afters f_caseMany f_happen f_heard) (hb : tl ≤ 160 ∧ q_taped ≤ 160 ∧ pe ≤ 4 ∧ kc ≤ 4 ∧ q_undos ≤ 8) : r1 = r2 := by
  rcases hx with ⟨a1, a2, a3, a4⟩ | ⟨a1, a2, a3, a4⟩ | ⟨a1, a2, a3, a4⟩ | ⟨a1, a2, a3, a4⟩ <;> rcases hm with ⟨b1, b2, b3, b4⟩ | ⟨b1, b2, b3, b4⟩ | ⟨b1, b2, b3, b4⟩ | ⟨b1, b2, b3, b4⟩ <;> first | (rw [a4, b4]; done) | (exfalso; omega)
theorem sec_p {c : Nat} {k : Int32} {fs : Nat → Int32} (h : ∀ i, i < c → fs i = nI (2 ^ i)) (hk : ∀ i, i < c → nI (2 ^ i) = sc k i) : SEC c k fs := fun i hi => (h i hi).trans (hk i hi)
theorem re_people {v0 r1 r2 : Int32} {tl : Nat} {ct : Nat → Int} {pe : Nat} {kn : Int32} {ac : Nat} {np : Nat} {kc : Nat} {mN : AM} {pV : Nat → AM} {kV : Nat → AM} {st : Nat → Nat} {sn : Nat → Nat} {sl : Nat → Nat} {scx : Nat → Nat → Int32} {tT : Nat → Option SVal} {ec : Nat → Nat} {er : Nat → Nat} {ed : Nat → Nat → Int32} {eT : Nat → Nat → Option SVal} {eb : Nat → Nat → Int32} {en : Nat → Nat → Int32} {q_undos : Nat} {q_models : Nat} {PGv : Nat → AM} {f_afterOf : Nat → Int32} {f_actMany : Nat → Int32} {f_actOf : Nat → Int32} {f_whom : Nat → Int32} {f_hasIf : Nat → Int32} {f_becomes : Nat → Int32} {f_goneOf : Nat → Int32} {q_taped : Nat} {cr : Nat → Int} {q_people : Nat} {f_secrets : Nat → Int32} {f_lanes : Nat → Int32} {f_lengths : Nat → Int32} {f_cells : Nat → Int32} {f_tokens : Nat → Int32} {f_afters : Nat → Int32} {f_caseMany : Nat → Int32} {f_happen : Nat → Int32} {f_heard : Nat → Int32} {peZ : Nat} {knZ : Int32} {q_peopleZ : Nat} {f_secretsZ : Nat → Int32} (hx : ((v0.toInt < 2 ∨ 4 < v0.toInt) ∧ peZ = pe ∧ knZ = kn ∧ r1 = -1) ∨ (v0.toInt = 2 ∧ peZ = 2 ∧ knZ = 33 ∧ r1 = 2) ∨ (v0.toInt = 3 ∧ peZ = 3 ∧ knZ = 1057 ∧ r1 = 3) ∨ (v0.toInt = 4 ∧ peZ = 4 ∧ knZ = 33825 ∧ r1 = 4)) (hm : ((v0.toInt < 2 ∨ 4 < v0.toInt) ∧ q_peopleZ = q_people ∧ f_secretsZ = f_secrets ∧ r2 = -1) ∨ (v0.toInt = 2 ∧ q_peopleZ = 2 ∧ (∀ i, i < 2 → f_secretsZ i = nI (2 ^ i)) ∧ r2 = 2) ∨ (v0.toInt = 3 ∧ q_peopleZ = 3 ∧ (∀ i, i < 3 → f_secretsZ i = nI (2 ^ i)) ∧ r2 = 3) ∨ (v0.toInt = 4 ∧ q_peopleZ = 4 ∧ (∀ i, i < 4 → f_secretsZ i = nI (2 ^ i)) ∧ r2 = 4)) (hR : RL_ tl ct pe kn ac np kc mN pV kV st sn sl scx tT ec er ed eT eb en q_undos q_models PGv f_afterOf f_actMany f_actOf f_whom f_hasIf f_becomes f_goneOf q_taped cr q_people f_secrets f_lanes f_lengths f_cells f_tokens f_afters f_caseMany f_happen f_heard) (hb : tl ≤ 160 ∧ q_taped ≤ 160 ∧ pe ≤ 4 ∧ kc ≤ 4 ∧ q_undos ≤ 8) : peZ = q_peopleZ ∧ SEC peZ knZ f_secretsZ ∧ CPK peZ knZ := by
  rcases hx with ⟨a1, a2, a3, a4⟩ | ⟨a1, a2, a3, a4⟩ | ⟨a1, a2, a3, a4⟩ | ⟨a1, a2, a3, a4⟩
  · rcases hm with ⟨b1, b2, b3, b4⟩ | ⟨b1, b2, b3, b4⟩ | ⟨b1, b2, b3, b4⟩ | ⟨b1, b2, b3, b4⟩
    · rw [a2, a3, b2, b3]; exact ⟨hR.2.2.1, hR.2.2.2.1, hR.2.2.2.2.2.2.2.2.2.2.2.2.2⟩
    · exfalso; omega
    · exfalso; omega
    · exfalso; omega
  · rcases hm with ⟨b1, b2, b3, b4⟩ | ⟨b1, b2, b3, b4⟩ | ⟨b1, b2, b3, b4⟩ | ⟨b1, b2, b3, b4⟩
    · exfalso; omega
    · rw [a2, a3, b2]; exact ⟨rfl, sec_p b3 (by decide +kernel), Or.inr ⟨by decide, cpk_2⟩⟩
    · exfalso; omega
    · exfalso; omega
  · rcases hm with ⟨b1, b2, b3, b4⟩ | ⟨b1, b2, b3, b4⟩ | ⟨b1, b2, b3, b4⟩ | ⟨b1, b2, b3, b4⟩
    · exfalso; omega
    · exfalso; omega
    · rw [a2, a3, b2]; exact ⟨rfl, sec_p b3 (by decide +kernel), Or.inr ⟨by decide, cpk_3⟩⟩
    · exfalso; omega
  · rcases hm with ⟨b1, b2, b3, b4⟩ | ⟨b1, b2, b3, b4⟩ | ⟨b1, b2, b3, b4⟩ | ⟨b1, b2, b3, b4⟩
    · exfalso; omega
    · exfalso; omega
    · exfalso; omega
    · rw [a2, a3, b2]; exact ⟨rfl, sec_p b3 (by decide +kernel), Or.inr ⟨by decide, cpk_4⟩⟩
theorem eq_call {v0 v1 r1 r2 : Int32} {tl : Nat} {ct : Nat → Int} {pe : Nat} {kn : Int32} {ac : Nat} {np : Nat} {kc : Nat} {mN : AM} {pV : Nat → AM} {kV : Nat → AM} {st : Nat → Nat} {sn : Nat → Nat} {sl : Nat → Nat} {scx : Nat → Nat → Int32} {tT : Nat → Option SVal} {ec : Nat → Nat} {er : Nat → Nat} {ed : Nat → Nat → Int32} {eT : Nat → Nat → Option SVal} {eb : Nat → Nat → Int32} {en : Nat → Nat → Int32} {q_undos : Nat} {q_models : Nat} {PGv : Nat → AM} {f_afterOf : Nat → Int32} {f_actMany : Nat → Int32} {f_actOf : Nat → Int32} {f_whom : Nat → Int32} {f_hasIf : Nat → Int32} {f_becomes : Nat → Int32} {f_goneOf : Nat → Int32} {q_taped : Nat} {cr : Nat → Int} {q_people : Nat} {f_secrets : Nat → Int32} {f_lanes : Nat → Int32} {f_lengths : Nat → Int32} {f_cells : Nat → Int32} {f_tokens : Nat → Int32} {f_afters : Nat → Int32} {f_caseMany : Nat → Int32} {f_happen : Nat → Int32} {f_heard : Nat → Int32} {knZ : Int32} {f_secretsZ : Nat → Int32} (hx : ((v0.toInt < 0 ∨ (pe : Int) ≤ v0.toInt ∨ v1.toInt < 0 ∨ (pe : Int) ≤ v1.toInt ∨ v0.toInt = v1.toInt) ∧ knZ = kn ∧ r1 = -1) ∨ ∃ i j : Nat, v0 = nI i ∧ v1 = nI j ∧ i < pe ∧ j < pe ∧ i ≠ j ∧ knZ = cl kn i j ∧ r1 = bcf (sc (cl kn i j) i)) (hm : ((v0.toInt < 0 ∨ (q_people : Int) ≤ v0.toInt ∨ v1.toInt < 0 ∨ (q_people : Int) ≤ v1.toInt ∨ v0.toInt = v1.toInt) ∧ f_secretsZ = f_secrets ∧ r2 = -1) ∨ ∃ i j : Nat, v0 = nI i ∧ v1 = nI j ∧ i < q_people ∧ j < q_people ∧ i ≠ j ∧ upd (upd f_secrets i (f_secrets i ||| f_secrets j)) j (f_secrets i ||| f_secrets j) = f_secretsZ ∧ r2 = nI (cb (bt (f_secrets i ||| f_secrets j)) 24)) (hR : RL_ tl ct pe kn ac np kc mN pV kV st sn sl scx tT ec er ed eT eb en q_undos q_models PGv f_afterOf f_actMany f_actOf f_whom f_hasIf f_becomes f_goneOf q_taped cr q_people f_secrets f_lanes f_lengths f_cells f_tokens f_afters f_caseMany f_happen f_heard) (hb : tl ≤ 160 ∧ q_taped ≤ 160 ∧ pe ≤ 4 ∧ kc ≤ 4 ∧ q_undos ≤ 8) : r1 = r2 := by
  have h0 := hR.2.2.1
  rcases hx with ⟨a1, a2, a3⟩ | ⟨i, j, a1, a2, a3, a4, a5, a6, a7⟩
  · rcases hm with ⟨b1, b2, b3⟩ | ⟨i2, j2, b1, b2, b3, b4, b5, b6, b7⟩
    · rw [a3, b3]
    · exfalso; rw [b1, b2, nI_toInt (by omega), nI_toInt (by omega)] at a1; omega
  · rcases hm with ⟨b1, b2, b3⟩ | ⟨i2, j2, b1, b2, b3, b4, b5, b6, b7⟩
    · exfalso; rw [a1, a2, nI_toInt (by omega), nI_toInt (by omega)] at b1; omega
    · have e1 := (nI_eq (by omega) (by omega)).mp (a1.symm.trans b1)
      have e2 := (nI_eq (by omega) (by omega)).mp (a2.symm.trans b2)
      subst e1; subst e2
      rw [a7, b7]; exact SEC.ans hR.2.2.2.1 hb.2.2.1 a3 a4
theorem re_call {v0 v1 r1 r2 : Int32} {tl : Nat} {ct : Nat → Int} {pe : Nat} {kn : Int32} {ac : Nat} {np : Nat} {kc : Nat} {mN : AM} {pV : Nat → AM} {kV : Nat → AM} {st : Nat → Nat} {sn : Nat → Nat} {sl : Nat → Nat} {scx : Nat → Nat → Int32} {tT : Nat → Option SVal} {ec : Nat → Nat} {er : Nat → Nat} {ed : Nat → Nat → Int32} {eT : Nat → Nat → Option SVal} {eb : Nat → Nat → Int32} {en : Nat → Nat → Int32} {q_undos : Nat} {q_models : Nat} {PGv : Nat → AM} {f_afterOf : Nat → Int32} {f_actMany : Nat → Int32} {f_actOf : Nat → Int32} {f_whom : Nat → Int32} {f_hasIf : Nat → Int32} {f_becomes : Nat → Int32} {f_goneOf : Nat → Int32} {q_taped : Nat} {cr : Nat → Int} {q_people : Nat} {f_secrets : Nat → Int32} {f_lanes : Nat → Int32} {f_lengths : Nat → Int32} {f_cells : Nat → Int32} {f_tokens : Nat → Int32} {f_afters : Nat → Int32} {f_caseMany : Nat → Int32} {f_happen : Nat → Int32} {f_heard : Nat → Int32} {knZ : Int32} {f_secretsZ : Nat → Int32} (hx : ((v0.toInt < 0 ∨ (pe : Int) ≤ v0.toInt ∨ v1.toInt < 0 ∨ (pe : Int) ≤ v1.toInt ∨ v0.toInt = v1.toInt) ∧ knZ = kn ∧ r1 = -1) ∨ ∃ i j : Nat, v0 = nI i ∧ v1 = nI j ∧ i < pe ∧ j < pe ∧ i ≠ j ∧ knZ = cl kn i j ∧ r1 = bcf (sc (cl kn i j) i)) (hm : ((v0.toInt < 0 ∨ (q_people : Int) ≤ v0.toInt ∨ v1.toInt < 0 ∨ (q_people : Int) ≤ v1.toInt ∨ v0.toInt = v1.toInt) ∧ f_secretsZ = f_secrets ∧ r2 = -1) ∨ ∃ i j : Nat, v0 = nI i ∧ v1 = nI j ∧ i < q_people ∧ j < q_people ∧ i ≠ j ∧ upd (upd f_secrets i (f_secrets i ||| f_secrets j)) j (f_secrets i ||| f_secrets j) = f_secretsZ ∧ r2 = nI (cb (bt (f_secrets i ||| f_secrets j)) 24)) (hR : RL_ tl ct pe kn ac np kc mN pV kV st sn sl scx tT ec er ed eT eb en q_undos q_models PGv f_afterOf f_actMany f_actOf f_whom f_hasIf f_becomes f_goneOf q_taped cr q_people f_secrets f_lanes f_lengths f_cells f_tokens f_afters f_caseMany f_happen f_heard) (hb : tl ≤ 160 ∧ q_taped ≤ 160 ∧ pe ≤ 4 ∧ kc ≤ 4 ∧ q_undos ≤ 8) : SEC pe knZ f_secretsZ ∧ CPK pe knZ := by
  have h0 := hR.2.2.1
  rcases hx with ⟨a1, a2, a3⟩ | ⟨i, j, a1, a2, a3, a4, a5, a6, a7⟩
  · rcases hm with ⟨b1, b2, b3⟩ | ⟨i2, j2, b1, b2, b3, b4, b5, b6, b7⟩
    · rw [a2, b2]; exact ⟨hR.2.2.2.1, hR.2.2.2.2.2.2.2.2.2.2.2.2.2⟩
    · exfalso; rw [b1, b2, nI_toInt (by omega), nI_toInt (by omega)] at a1; omega
  · rcases hm with ⟨b1, b2, b3⟩ | ⟨i2, j2, b1, b2, b3, b4, b5, b6, b7⟩
    · exfalso; rw [a1, a2, nI_toInt (by omega), nI_toInt (by omega)] at b1; omega
    · have e1 := (nI_eq (by omega) (by omega)).mp (a1.symm.trans b1)
      have e2 := (nI_eq (by omega) (by omega)).mp (a2.symm.trans b2)
      subst e1; subst e2
      rw [a6]; exact ⟨SEC.call hR.2.2.2.1 hb.2.2.1 a3 a4 b6, CPK.call hR.2.2.2.2.2.2.2.2.2.2.2.2.2 hb.2.2.1 a3 a4⟩
theorem eq_fewest {v0 r1 r2 : Int32} {tl : Nat} {ct : Nat → Int} {pe : Nat} {kn : Int32} {ac : Nat} {np : Nat} {kc : Nat} {mN : AM} {pV : Nat → AM} {kV : Nat → AM} {st : Nat → Nat} {sn : Nat → Nat} {sl : Nat → Nat} {scx : Nat → Nat → Int32} {tT : Nat → Option SVal} {ec : Nat → Nat} {er : Nat → Nat} {ed : Nat → Nat → Int32} {eT : Nat → Nat → Option SVal} {eb : Nat → Nat → Int32} {en : Nat → Nat → Int32} {q_undos : Nat} {q_models : Nat} {PGv : Nat → AM} {f_afterOf : Nat → Int32} {f_actMany : Nat → Int32} {f_actOf : Nat → Int32} {f_whom : Nat → Int32} {f_hasIf : Nat → Int32} {f_becomes : Nat → Int32} {f_goneOf : Nat → Int32} {q_taped : Nat} {cr : Nat → Int} {q_people : Nat} {f_secrets : Nat → Int32} {f_lanes : Nat → Int32} {f_lengths : Nat → Int32} {f_cells : Nat → Int32} {f_tokens : Nat → Int32} {f_afters : Nat → Int32} {f_caseMany : Nat → Int32} {f_happen : Nat → Int32} {f_heard : Nat → Int32} (hx : FWx pe (cpL pe) (sc kn) v0 r1) (hm : FWQr q_people f_secrets v0 r2) (hR : RL_ tl ct pe kn ac np kc mN pV kV st sn sl scx tT ec er ed eT eb en q_undos q_models PGv f_afterOf f_actMany f_actOf f_whom f_hasIf f_becomes f_goneOf q_taped cr q_people f_secrets f_lanes f_lengths f_cells f_tokens f_afters f_caseMany f_happen f_heard) (hb : tl ≤ 160 ∧ q_taped ≤ 160 ∧ pe ≤ 4 ∧ kc ≤ 4 ∧ q_undos ≤ 8) : r1 = r2 := by
  rw [← hR.2.2.1] at hm
  exact fw_eq hx hm hR.2.2.2.1 hR.2.2.2.2.2.2.2.2.2.2.2.2.2 hb.2.2.1
theorem eq_secrets {v0 r1 r2 : Int32} {tl : Nat} {ct : Nat → Int} {pe : Nat} {kn : Int32} {ac : Nat} {np : Nat} {kc : Nat} {mN : AM} {pV : Nat → AM} {kV : Nat → AM} {st : Nat → Nat} {sn : Nat → Nat} {sl : Nat → Nat} {scx : Nat → Nat → Int32} {tT : Nat → Option SVal} {ec : Nat → Nat} {er : Nat → Nat} {ed : Nat → Nat → Int32} {eT : Nat → Nat → Option SVal} {eb : Nat → Nat → Int32} {en : Nat → Nat → Int32} {q_undos : Nat} {q_models : Nat} {PGv : Nat → AM} {f_afterOf : Nat → Int32} {f_actMany : Nat → Int32} {f_actOf : Nat → Int32} {f_whom : Nat → Int32} {f_hasIf : Nat → Int32} {f_becomes : Nat → Int32} {f_goneOf : Nat → Int32} {q_taped : Nat} {cr : Nat → Int} {q_people : Nat} {f_secrets : Nat → Int32} {f_lanes : Nat → Int32} {f_lengths : Nat → Int32} {f_cells : Nat → Int32} {f_tokens : Nat → Int32} {f_afters : Nat → Int32} {f_caseMany : Nat → Int32} {f_happen : Nat → Int32} {f_heard : Nat → Int32} (hx : ((v0.toInt < 0 ∨ (pe : Int) ≤ v0.toInt) ∧ r1 = -1) ∨ ∃ i : Nat, v0 = nI i ∧ i < pe ∧ r1 = sc kn i) (hm : ((v0.toInt < 0 ∨ (q_people : Int) ≤ v0.toInt) ∧ r2 = -1) ∨ ∃ i : Nat, v0 = nI i ∧ i < q_people ∧ r2 = f_secrets i) (hR : RL_ tl ct pe kn ac np kc mN pV kV st sn sl scx tT ec er ed eT eb en q_undos q_models PGv f_afterOf f_actMany f_actOf f_whom f_hasIf f_becomes f_goneOf q_taped cr q_people f_secrets f_lanes f_lengths f_cells f_tokens f_afters f_caseMany f_happen f_heard) (hb : tl ≤ 160 ∧ q_taped ≤ 160 ∧ pe ≤ 4 ∧ kc ≤ 4 ∧ q_undos ≤ 8) : r1 = r2 := by
  have h0 := hR.2.2.1
  rcases hx with ⟨a1, a2⟩ | ⟨i, a1, a2, a3⟩
  · rcases hm with ⟨b1, b2⟩ | ⟨i2, b1, b2, b3⟩
    · rw [a2, b2]
    · exfalso; rw [b1, nI_toInt (by omega)] at a1; omega
  · rcases hm with ⟨b1, b2⟩ | ⟨i2, b1, b2, b3⟩
    · exfalso; rw [a1, nI_toInt (by omega)] at b1; omega
    · have e1 := (nI_eq (by omega) (by omega)).mp (a1.symm.trans b1)
      subst e1
      rw [a3, b3, hR.2.2.2.1 i a2]
theorem eq_event {v0 v1 r1 r2 : Int32} {tl : Nat} {ct : Nat → Int} {pe : Nat} {kn : Int32} {ac : Nat} {np : Nat} {kc : Nat} {mN : AM} {pV : Nat → AM} {kV : Nat → AM} {st : Nat → Nat} {sn : Nat → Nat} {sl : Nat → Nat} {scx : Nat → Nat → Int32} {tT : Nat → Option SVal} {ec : Nat → Nat} {er : Nat → Nat} {ed : Nat → Nat → Int32} {eT : Nat → Nat → Option SVal} {eb : Nat → Nat → Int32} {en : Nat → Nat → Int32} {q_undos : Nat} {q_models : Nat} {PGv : Nat → AM} {f_afterOf : Nat → Int32} {f_actMany : Nat → Int32} {f_actOf : Nat → Int32} {f_whom : Nat → Int32} {f_hasIf : Nat → Int32} {f_becomes : Nat → Int32} {f_goneOf : Nat → Int32} {q_taped : Nat} {cr : Nat → Int} {q_people : Nat} {f_secrets : Nat → Int32} {f_lanes : Nat → Int32} {f_lengths : Nat → Int32} {f_cells : Nat → Int32} {f_tokens : Nat → Int32} {f_afters : Nat → Int32} {f_caseMany : Nat → Int32} {f_happen : Nat → Int32} {f_heard : Nat → Int32} {ecZ : Nat → Nat} {erZ : Nat → Nat} {edZ : Nat → Nat → Int32} {eTZ : Nat → Nat → Option SVal} {ebZ : Nat → Nat → Int32} {enZ : Nat → Nat → Int32} {f_hasIfZ : Nat → Int32} {f_becomesZ : Nat → Int32} {f_goneOfZ : Nat → Int32} {f_caseManyZ : Nat → Int32} {f_happenZ : Nat → Int32} {f_heardZ : Nat → Int32} (hx : ((v0.toInt < 0 ∨ 3 < v0.toInt ∨ v1.toInt < 1 ∨ 4 < v1.toInt) ∧ r1 = -1 ∧ ecZ = ec ∧ erZ = er ∧ edZ = ed ∧ eTZ = eT ∧ ebZ = eb ∧ enZ = en) ∨ ∃ k_ n_ : Nat, v0 = nI k_ ∧ v1 = nI n_ ∧ k_ ≤ 3 ∧ (1 ≤ n_ ∧ n_ ≤ 4) ∧ (∀ i, i < 4 → ecZ i = if i = k_ then n_ else ec i) ∧ (∀ i, i < 4 → erZ i = if i = k_ then 0 else er i) ∧ (∀ i, i < 4 → i ≠ k_ → edZ i = ed i) ∧ Z0x 16 (edZ k_) ∧ r1 = 1 ∧ (∀ i, i < 4 → i ≠ k_ → eTZ i = eT i) ∧ (∀ i, i < 4 → i ≠ k_ → ebZ i = eb i) ∧ (∀ i, i < 4 → i ≠ k_ → enZ i = en i) ∧ (∀ z, z < 4 → ebZ k_ z = 0 ∧ enZ k_ z = 0) ∧ ∀ z, z < 4 → eTZ k_ z = none) (hm : ((v0.toInt < 0 ∨ 3 < v0.toInt ∨ v1.toInt < 1 ∨ 4 < v1.toInt) ∧ r2 = -1 ∧ f_caseManyZ = f_caseMany ∧ f_happenZ = f_happen ∧ f_heardZ = f_heard ∧ f_hasIfZ = f_hasIf ∧ f_becomesZ = f_becomes ∧ f_goneOfZ = f_goneOf) ∨ ∃ k_ n_ : Nat, v0 = nI k_ ∧ v1 = nI n_ ∧ k_ ≤ 3 ∧ (1 ≤ n_ ∧ n_ ≤ 4) ∧ upd f_caseMany k_ (nI n_) = f_caseManyZ ∧ upd f_happen k_ (nI 0) = f_happenZ ∧ HZ k_ 4 0 f_heard f_heardZ ∧ r2 = 1 ∧ Z4 k_ 4 f_hasIf f_hasIfZ ∧ Z4 k_ 4 f_becomes f_becomesZ ∧ Z4 k_ 4 f_goneOf f_goneOfZ) (hR : RL_ tl ct pe kn ac np kc mN pV kV st sn sl scx tT ec er ed eT eb en q_undos q_models PGv f_afterOf f_actMany f_actOf f_whom f_hasIf f_becomes f_goneOf q_taped cr q_people f_secrets f_lanes f_lengths f_cells f_tokens f_afters f_caseMany f_happen f_heard) (hb : tl ≤ 160 ∧ q_taped ≤ 160 ∧ pe ≤ 4 ∧ kc ≤ 4 ∧ q_undos ≤ 8) : r1 = r2 := by
  have hq := hR.2.2.2.2.2.2.1
  have hI := hR.2.2.2.2.2.2.2.2.2.2.2.1
  rcases hx with ⟨a1, a2, a3⟩ | ⟨k1, n1, a1, a2, a3, a4, a5, a6, a7, a8, a9, aa, ab, ac_, ad, ae⟩
  · rcases hm with ⟨b1, b2, b3⟩ | ⟨k2, n2, b1, b2, b3, b4, b5, b6, b7, b8, b9, ba, bb⟩
    · rw [a2, b2]
    · exfalso; rw [b1, b2, nI_toInt (by omega), nI_toInt (by omega)] at a1; omega
  · rcases hm with ⟨b1, b2, b3⟩ | ⟨k2, n2, b1, b2, b3, b4, b5, b6, b7, b8, b9, ba, bb⟩
    · exfalso; rw [a1, a2, nI_toInt (by omega), nI_toInt (by omega)] at b1; omega
    · have e1 := (nI_eq (by omega) (by omega)).mp (a1.symm.trans b1)
      have e2 := (nI_eq (by omega) (by omega)).mp (a2.symm.trans b2)
      subst e1; subst e2
      rw [a9, b8]
theorem re_event {v0 v1 r1 r2 : Int32} {tl : Nat} {ct : Nat → Int} {pe : Nat} {kn : Int32} {ac : Nat} {np : Nat} {kc : Nat} {mN : AM} {pV : Nat → AM} {kV : Nat → AM} {st : Nat → Nat} {sn : Nat → Nat} {sl : Nat → Nat} {scx : Nat → Nat → Int32} {tT : Nat → Option SVal} {ec : Nat → Nat} {er : Nat → Nat} {ed : Nat → Nat → Int32} {eT : Nat → Nat → Option SVal} {eb : Nat → Nat → Int32} {en : Nat → Nat → Int32} {q_undos : Nat} {q_models : Nat} {PGv : Nat → AM} {f_afterOf : Nat → Int32} {f_actMany : Nat → Int32} {f_actOf : Nat → Int32} {f_whom : Nat → Int32} {f_hasIf : Nat → Int32} {f_becomes : Nat → Int32} {f_goneOf : Nat → Int32} {q_taped : Nat} {cr : Nat → Int} {q_people : Nat} {f_secrets : Nat → Int32} {f_lanes : Nat → Int32} {f_lengths : Nat → Int32} {f_cells : Nat → Int32} {f_tokens : Nat → Int32} {f_afters : Nat → Int32} {f_caseMany : Nat → Int32} {f_happen : Nat → Int32} {f_heard : Nat → Int32} {ecZ : Nat → Nat} {erZ : Nat → Nat} {edZ : Nat → Nat → Int32} {eTZ : Nat → Nat → Option SVal} {ebZ : Nat → Nat → Int32} {enZ : Nat → Nat → Int32} {f_hasIfZ : Nat → Int32} {f_becomesZ : Nat → Int32} {f_goneOfZ : Nat → Int32} {f_caseManyZ : Nat → Int32} {f_happenZ : Nat → Int32} {f_heardZ : Nat → Int32} (hx : ((v0.toInt < 0 ∨ 3 < v0.toInt ∨ v1.toInt < 1 ∨ 4 < v1.toInt) ∧ r1 = -1 ∧ ecZ = ec ∧ erZ = er ∧ edZ = ed ∧ eTZ = eT ∧ ebZ = eb ∧ enZ = en) ∨ ∃ k_ n_ : Nat, v0 = nI k_ ∧ v1 = nI n_ ∧ k_ ≤ 3 ∧ (1 ≤ n_ ∧ n_ ≤ 4) ∧ (∀ i, i < 4 → ecZ i = if i = k_ then n_ else ec i) ∧ (∀ i, i < 4 → erZ i = if i = k_ then 0 else er i) ∧ (∀ i, i < 4 → i ≠ k_ → edZ i = ed i) ∧ Z0x 16 (edZ k_) ∧ r1 = 1 ∧ (∀ i, i < 4 → i ≠ k_ → eTZ i = eT i) ∧ (∀ i, i < 4 → i ≠ k_ → ebZ i = eb i) ∧ (∀ i, i < 4 → i ≠ k_ → enZ i = en i) ∧ (∀ z, z < 4 → ebZ k_ z = 0 ∧ enZ k_ z = 0) ∧ ∀ z, z < 4 → eTZ k_ z = none) (hm : ((v0.toInt < 0 ∨ 3 < v0.toInt ∨ v1.toInt < 1 ∨ 4 < v1.toInt) ∧ r2 = -1 ∧ f_caseManyZ = f_caseMany ∧ f_happenZ = f_happen ∧ f_heardZ = f_heard ∧ f_hasIfZ = f_hasIf ∧ f_becomesZ = f_becomes ∧ f_goneOfZ = f_goneOf) ∨ ∃ k_ n_ : Nat, v0 = nI k_ ∧ v1 = nI n_ ∧ k_ ≤ 3 ∧ (1 ≤ n_ ∧ n_ ≤ 4) ∧ upd f_caseMany k_ (nI n_) = f_caseManyZ ∧ upd f_happen k_ (nI 0) = f_happenZ ∧ HZ k_ 4 0 f_heard f_heardZ ∧ r2 = 1 ∧ Z4 k_ 4 f_hasIf f_hasIfZ ∧ Z4 k_ 4 f_becomes f_becomesZ ∧ Z4 k_ 4 f_goneOf f_goneOfZ) (hR : RL_ tl ct pe kn ac np kc mN pV kV st sn sl scx tT ec er ed eT eb en q_undos q_models PGv f_afterOf f_actMany f_actOf f_whom f_hasIf f_becomes f_goneOf q_taped cr q_people f_secrets f_lanes f_lengths f_cells f_tokens f_afters f_caseMany f_happen f_heard) (hb : tl ≤ 160 ∧ q_taped ≤ 160 ∧ pe ≤ 4 ∧ kc ≤ 4 ∧ q_undos ≤ 8) : EVQ ecZ erZ edZ f_caseManyZ f_happenZ f_heardZ ∧ IVQ eTZ ebZ enZ f_hasIfZ f_actMany f_actOf f_whom f_becomesZ f_goneOfZ := by
  have hq := hR.2.2.2.2.2.2.1
  have hI := hR.2.2.2.2.2.2.2.2.2.2.2.1
  rcases hx with ⟨a1, a2, a3⟩ | ⟨k1, n1, a1, a2, a3, a4, a5, a6, a7, a8, a9, aa, ab, ac_, ad, ae⟩
  · rcases hm with ⟨b1, b2, b3⟩ | ⟨k2, n2, b1, b2, b3, b4, b5, b6, b7, b8, b9, ba, bb⟩
    · obtain ⟨x1, x2, x3, x4, x5, x6⟩ := a3
      obtain ⟨y1, y2, y3, y4, y5, y6⟩ := b3
      rw [x1, x2, x3, x4, x5, x6, y1, y2, y3, y4, y5, y6]; exact ⟨hq, hI⟩
    · exfalso; rw [b1, b2, nI_toInt (by omega), nI_toInt (by omega)] at a1; omega
  · rcases hm with ⟨b1, b2, b3⟩ | ⟨k2, n2, b1, b2, b3, b4, b5, b6, b7, b8, b9, ba, bb⟩
    · exfalso; rw [a1, a2, nI_toInt (by omega), nI_toInt (by omega)] at b1; omega
    · have e1 := (nI_eq (by omega) (by omega)).mp (a1.symm.trans b1)
      have e2 := (nI_eq (by omega) (by omega)).mp (a2.symm.trans b2)
      subst e1; subst e2
      exact ⟨EVQ.put hq a3 a4.2 a5 a6 a7 (fun c hc => (a8 c hc).trans (b7.1 c hc (by omega)).symm) b5 b6 b7.2, IVQ.clr hI a3 aa ab ac_ ad ae b9 ba bb⟩
theorem eq_when {v0 v1 v2 v3 v4 r1 r2 : Int32} {tl : Nat} {ct : Nat → Int} {pe : Nat} {kn : Int32} {ac : Nat} {np : Nat} {kc : Nat} {mN : AM} {pV : Nat → AM} {kV : Nat → AM} {st : Nat → Nat} {sn : Nat → Nat} {sl : Nat → Nat} {scx : Nat → Nat → Int32} {tT : Nat → Option SVal} {ec : Nat → Nat} {er : Nat → Nat} {ed : Nat → Nat → Int32} {eT : Nat → Nat → Option SVal} {eb : Nat → Nat → Int32} {en : Nat → Nat → Int32} {q_undos : Nat} {q_models : Nat} {PGv : Nat → AM} {f_afterOf : Nat → Int32} {f_actMany : Nat → Int32} {f_actOf : Nat → Int32} {f_whom : Nat → Int32} {f_hasIf : Nat → Int32} {f_becomes : Nat → Int32} {f_goneOf : Nat → Int32} {q_taped : Nat} {cr : Nat → Int} {q_people : Nat} {f_secrets : Nat → Int32} {f_lanes : Nat → Int32} {f_lengths : Nat → Int32} {f_cells : Nat → Int32} {f_tokens : Nat → Int32} {f_afters : Nat → Int32} {f_caseMany : Nat → Int32} {f_happen : Nat → Int32} {f_heard : Nat → Int32} {eTZ : Nat → Nat → Option SVal} {ebZ : Nat → Nat → Int32} {enZ : Nat → Nat → Int32} {f_actManyZ : Nat → Int32} {f_actOfZ : Nat → Int32} {f_whomZ : Nat → Int32} {f_hasIfZ : Nat → Int32} {f_becomesZ : Nat → Int32} {f_goneOfZ : Nat → Int32} (hx : ((¬ CSE ec v0 v1 ∨ (v2 ≠ -4 ∧ ¬ PLN (sNs tT) v2) ∨ v3.toInt < 0 ∨ 15 < v3.toInt ∨ v4.toInt < 0 ∨ 15 < v4.toInt) ∧ r1 = -1 ∧ eTZ = eT ∧ ebZ = eb ∧ enZ = en) ∨ ∃ k_ i_ : Nat, (CSE ec v0 v1 ∧ (v2 = -4 ∨ PLN (sNs tT) v2) ∧ 0 ≤ v3.toInt ∧ v3.toInt ≤ 15 ∧ 0 ≤ v4.toInt ∧ v4.toInt ≤ 15) ∧ r1 = 1 ∧ v0 = nI k_ ∧ v1 = nI i_ ∧ k_ ≤ 3 ∧ i_ ≤ 3 ∧ (∀ i, i < 4 → i ≠ k_ → eTZ i = eT i) ∧ (∀ i, i < 4 → i ≠ k_ → ebZ i = eb i) ∧ (∀ i, i < 4 → i ≠ k_ → enZ i = en i) ∧ ((v2 = -4 ∧ eTZ k_ = va_up (eT k_) i_ none) ∨ ∃ s_ : Nat, v2 = nI s_ ∧ s_ ≤ 7 ∧ (tT s_).isSome = true ∧ eTZ k_ = va_up (eT k_) i_ (tT s_)) ∧ upd (eb k_) i_ v3 = ebZ k_ ∧ upd (en k_) i_ v4 = enZ k_) (hm : ((¬ CSE (cN f_caseMany) v0 v1 ∨ (v2 ≠ -4 ∧ ¬ PLN (tRr f_tokens f_afters) v2) ∨ v3.toInt < 0 ∨ 15 < v3.toInt ∨ v4.toInt < 0 ∨ 15 < v4.toInt) ∧ r2 = -1 ∧ f_hasIfZ = f_hasIf ∧ f_becomesZ = f_becomes ∧ f_goneOfZ = f_goneOf ∧ f_actManyZ = f_actMany ∧ f_actOfZ = f_actOf ∧ f_whomZ = f_whom) ∨ ∃ k_ i_ : Nat, (CSE (cN f_caseMany) v0 v1 ∧ (v2 = -4 ∨ PLN (tRr f_tokens f_afters) v2) ∧ 0 ≤ v3.toInt ∧ v3.toInt ≤ 15 ∧ 0 ≤ v4.toInt ∧ v4.toInt ≤ 15) ∧ r2 = 1 ∧ v0 = nI k_ ∧ v1 = nI i_ ∧ k_ ≤ 3 ∧ i_ ≤ 3 ∧ ((v2 = -4 ∧ upd f_hasIf (4 * k_ + i_) 0 = f_hasIfZ ∧ f_actManyZ = f_actMany ∧ f_actOfZ = f_actOf ∧ f_whomZ = f_whom) ∨ ∃ s_ : Nat, v2 = nI s_ ∧ s_ ≤ 7 ∧ upd f_hasIf (4 * k_ + i_) 1 = f_hasIfZ ∧ upd f_actMany (8 + 4 * k_ + i_) (nI (cN f_actMany s_)) = f_actManyZ ∧ CPG 32 s_ (8 + 4 * k_ + i_) 32 f_actOf f_actOfZ ∧ CPG 32 s_ (8 + 4 * k_ + i_) 32 f_whom f_whomZ) ∧ upd f_becomes (4 * k_ + i_) v3 = f_becomesZ ∧ upd f_goneOf (4 * k_ + i_) v4 = f_goneOfZ) (hR : RL_ tl ct pe kn ac np kc mN pV kV st sn sl scx tT ec er ed eT eb en q_undos q_models PGv f_afterOf f_actMany f_actOf f_whom f_hasIf f_becomes f_goneOf q_taped cr q_people f_secrets f_lanes f_lengths f_cells f_tokens f_afters f_caseMany f_happen f_heard) (hb : tl ≤ 160 ∧ q_taped ≤ 160 ∧ pe ≤ 4 ∧ kc ≤ 4 ∧ q_undos ≤ 8) : r1 = r2 := by
  have hc : CSE ec v0 v1 ↔ CSE (cN f_caseMany) v0 v1 := EVQ.cse hR.2.2.2.2.2.2.1
  have hp : PLN (sNs tT) v2 ↔ PLN (tRr f_tokens f_afters) v2 := TLQ.pln hR.2.2.2.2.2.2.2.1
  have hV := hR.2.2.2.2.2.2.2.2.2.2.1
  have hI := hR.2.2.2.2.2.2.2.2.2.2.2.1
  rcases hx with ⟨a1, a2, a3, a4, a5⟩ | ⟨k1, i1, a1, a2, a3, a4, a5, a6, a7, a8, a9, aa, ab, ac_⟩
  · rcases hm with ⟨b1, b2, b3, b4, b5, b6, b7, b8⟩ | ⟨k2, i2, b1, b2, b3, b4, b5, b6, b7, b8, b9⟩
    · rw [a2, b2]
    · exfalso
      rcases a1 with q | ⟨q1, q2⟩ | q
      · exact q (hc.mpr b1.1)
      · rcases b1.2.1 with z | z
        · exact q1 z
        · exact q2 (hp.mpr z)
      · omega
  · rcases hm with ⟨b1, b2, b3, b4, b5, b6, b7, b8⟩ | ⟨k2, i2, b1, b2, b3, b4, b5, b6, b7, b8, b9⟩
    · exfalso
      rcases b1 with q | ⟨q1, q2⟩ | q
      · exact q (hc.mp a1.1)
      · rcases a1.2.1 with z | z
        · exact q1 z
        · exact q2 (hp.mp z)
      · omega
    · have e1 := (nI_eq (by omega) (by omega)).mp (a3.symm.trans b3)
      have e2 := (nI_eq (by omega) (by omega)).mp (a4.symm.trans b4)
      subst e1; subst e2
      rw [a2, b2]
theorem re_when {v0 v1 v2 v3 v4 r1 r2 : Int32} {tl : Nat} {ct : Nat → Int} {pe : Nat} {kn : Int32} {ac : Nat} {np : Nat} {kc : Nat} {mN : AM} {pV : Nat → AM} {kV : Nat → AM} {st : Nat → Nat} {sn : Nat → Nat} {sl : Nat → Nat} {scx : Nat → Nat → Int32} {tT : Nat → Option SVal} {ec : Nat → Nat} {er : Nat → Nat} {ed : Nat → Nat → Int32} {eT : Nat → Nat → Option SVal} {eb : Nat → Nat → Int32} {en : Nat → Nat → Int32} {q_undos : Nat} {q_models : Nat} {PGv : Nat → AM} {f_afterOf : Nat → Int32} {f_actMany : Nat → Int32} {f_actOf : Nat → Int32} {f_whom : Nat → Int32} {f_hasIf : Nat → Int32} {f_becomes : Nat → Int32} {f_goneOf : Nat → Int32} {q_taped : Nat} {cr : Nat → Int} {q_people : Nat} {f_secrets : Nat → Int32} {f_lanes : Nat → Int32} {f_lengths : Nat → Int32} {f_cells : Nat → Int32} {f_tokens : Nat → Int32} {f_afters : Nat → Int32} {f_caseMany : Nat → Int32} {f_happen : Nat → Int32} {f_heard : Nat → Int32} {eTZ : Nat → Nat → Option SVal} {ebZ : Nat → Nat → Int32} {enZ : Nat → Nat → Int32} {f_actManyZ : Nat → Int32} {f_actOfZ : Nat → Int32} {f_whomZ : Nat → Int32} {f_hasIfZ : Nat → Int32} {f_becomesZ : Nat → Int32} {f_goneOfZ : Nat → Int32} (hx : ((¬ CSE ec v0 v1 ∨ (v2 ≠ -4 ∧ ¬ PLN (sNs tT) v2) ∨ v3.toInt < 0 ∨ 15 < v3.toInt ∨ v4.toInt < 0 ∨ 15 < v4.toInt) ∧ r1 = -1 ∧ eTZ = eT ∧ ebZ = eb ∧ enZ = en) ∨ ∃ k_ i_ : Nat, (CSE ec v0 v1 ∧ (v2 = -4 ∨ PLN (sNs tT) v2) ∧ 0 ≤ v3.toInt ∧ v3.toInt ≤ 15 ∧ 0 ≤ v4.toInt ∧ v4.toInt ≤ 15) ∧ r1 = 1 ∧ v0 = nI k_ ∧ v1 = nI i_ ∧ k_ ≤ 3 ∧ i_ ≤ 3 ∧ (∀ i, i < 4 → i ≠ k_ → eTZ i = eT i) ∧ (∀ i, i < 4 → i ≠ k_ → ebZ i = eb i) ∧ (∀ i, i < 4 → i ≠ k_ → enZ i = en i) ∧ ((v2 = -4 ∧ eTZ k_ = va_up (eT k_) i_ none) ∨ ∃ s_ : Nat, v2 = nI s_ ∧ s_ ≤ 7 ∧ (tT s_).isSome = true ∧ eTZ k_ = va_up (eT k_) i_ (tT s_)) ∧ upd (eb k_) i_ v3 = ebZ k_ ∧ upd (en k_) i_ v4 = enZ k_) (hm : ((¬ CSE (cN f_caseMany) v0 v1 ∨ (v2 ≠ -4 ∧ ¬ PLN (tRr f_tokens f_afters) v2) ∨ v3.toInt < 0 ∨ 15 < v3.toInt ∨ v4.toInt < 0 ∨ 15 < v4.toInt) ∧ r2 = -1 ∧ f_hasIfZ = f_hasIf ∧ f_becomesZ = f_becomes ∧ f_goneOfZ = f_goneOf ∧ f_actManyZ = f_actMany ∧ f_actOfZ = f_actOf ∧ f_whomZ = f_whom) ∨ ∃ k_ i_ : Nat, (CSE (cN f_caseMany) v0 v1 ∧ (v2 = -4 ∨ PLN (tRr f_tokens f_afters) v2) ∧ 0 ≤ v3.toInt ∧ v3.toInt ≤ 15 ∧ 0 ≤ v4.toInt ∧ v4.toInt ≤ 15) ∧ r2 = 1 ∧ v0 = nI k_ ∧ v1 = nI i_ ∧ k_ ≤ 3 ∧ i_ ≤ 3 ∧ ((v2 = -4 ∧ upd f_hasIf (4 * k_ + i_) 0 = f_hasIfZ ∧ f_actManyZ = f_actMany ∧ f_actOfZ = f_actOf ∧ f_whomZ = f_whom) ∨ ∃ s_ : Nat, v2 = nI s_ ∧ s_ ≤ 7 ∧ upd f_hasIf (4 * k_ + i_) 1 = f_hasIfZ ∧ upd f_actMany (8 + 4 * k_ + i_) (nI (cN f_actMany s_)) = f_actManyZ ∧ CPG 32 s_ (8 + 4 * k_ + i_) 32 f_actOf f_actOfZ ∧ CPG 32 s_ (8 + 4 * k_ + i_) 32 f_whom f_whomZ) ∧ upd f_becomes (4 * k_ + i_) v3 = f_becomesZ ∧ upd f_goneOf (4 * k_ + i_) v4 = f_goneOfZ) (hR : RL_ tl ct pe kn ac np kc mN pV kV st sn sl scx tT ec er ed eT eb en q_undos q_models PGv f_afterOf f_actMany f_actOf f_whom f_hasIf f_becomes f_goneOf q_taped cr q_people f_secrets f_lanes f_lengths f_cells f_tokens f_afters f_caseMany f_happen f_heard) (hb : tl ≤ 160 ∧ q_taped ≤ 160 ∧ pe ≤ 4 ∧ kc ≤ 4 ∧ q_undos ≤ 8) : TVQ tT f_tokens f_actManyZ f_actOfZ f_whomZ f_afterOf f_afters ∧ IVQ eTZ ebZ enZ f_hasIfZ f_actManyZ f_actOfZ f_whomZ f_becomesZ f_goneOfZ := by
  have hc : CSE ec v0 v1 ↔ CSE (cN f_caseMany) v0 v1 := EVQ.cse hR.2.2.2.2.2.2.1
  have hp : PLN (sNs tT) v2 ↔ PLN (tRr f_tokens f_afters) v2 := TLQ.pln hR.2.2.2.2.2.2.2.1
  have hV := hR.2.2.2.2.2.2.2.2.2.2.1
  have hI := hR.2.2.2.2.2.2.2.2.2.2.2.1
  rcases hx with ⟨a1, a2, a3, a4, a5⟩ | ⟨k1, i1, a1, a2, a3, a4, a5, a6, a7, a8, a9, aa, ab, ac_⟩
  · rcases hm with ⟨b1, b2, b3, b4, b5, b6, b7, b8⟩ | ⟨k2, i2, b1, b2, b3, b4, b5, b6, b7, b8, b9⟩
    · rw [a3, a4, a5, b3, b4, b5, b6, b7, b8]; exact ⟨hV, hI⟩
    · exfalso
      rcases a1 with q | ⟨q1, q2⟩ | q
      · exact q (hc.mpr b1.1)
      · rcases b1.2.1 with z | z
        · exact q1 z
        · exact q2 (hp.mpr z)
      · omega
  · rcases hm with ⟨b1, b2, b3, b4, b5, b6, b7, b8⟩ | ⟨k2, i2, b1, b2, b3, b4, b5, b6, b7, b8, b9⟩
    · exfalso
      rcases b1 with q | ⟨q1, q2⟩ | q
      · exact q (hc.mp a1.1)
      · rcases a1.2.1 with z | z
        · exact q1 z
        · exact q2 (hp.mp z)
      · omega
    · have e1 := (nI_eq (by omega) (by omega)).mp (a3.symm.trans b3)
      have e2 := (nI_eq (by omega) (by omega)).mp (a4.symm.trans b4)
      subst e1; subst e2
      exact whn_ hV hI a5 a6 a7 a8 a9 aa ab ac_ b7 b8 b9
theorem eq_hears {v0 v1 v2 v3 v4 r1 r2 : Int32} {tl : Nat} {ct : Nat → Int} {pe : Nat} {kn : Int32} {ac : Nat} {np : Nat} {kc : Nat} {mN : AM} {pV : Nat → AM} {kV : Nat → AM} {st : Nat → Nat} {sn : Nat → Nat} {sl : Nat → Nat} {scx : Nat → Nat → Int32} {tT : Nat → Option SVal} {ec : Nat → Nat} {er : Nat → Nat} {ed : Nat → Nat → Int32} {eT : Nat → Nat → Option SVal} {eb : Nat → Nat → Int32} {en : Nat → Nat → Int32} {q_undos : Nat} {q_models : Nat} {PGv : Nat → AM} {f_afterOf : Nat → Int32} {f_actMany : Nat → Int32} {f_actOf : Nat → Int32} {f_whom : Nat → Int32} {f_hasIf : Nat → Int32} {f_becomes : Nat → Int32} {f_goneOf : Nat → Int32} {q_taped : Nat} {cr : Nat → Int} {q_people : Nat} {f_secrets : Nat → Int32} {f_lanes : Nat → Int32} {f_lengths : Nat → Int32} {f_cells : Nat → Int32} {f_tokens : Nat → Int32} {f_afters : Nat → Int32} {f_caseMany : Nat → Int32} {f_happen : Nat → Int32} {f_heard : Nat → Int32} {edZ : Nat → Nat → Int32} {f_heardZ : Nat → Int32} (hx : ((¬ CSE ec v0 v2 ∨ ¬ CSE ec v0 v3 ∨ v1.toInt < 0 ∨ 3 < v1.toInt) ∧ r1 = -1 ∧ edZ = ed) ∨ ∃ k_ n_ i_ : Nat, CSE ec v0 v2 ∧ CSE ec v0 v3 ∧ v0 = nI k_ ∧ v1 = nI n_ ∧ v2 = nI i_ ∧ k_ ≤ 3 ∧ n_ ≤ 3 ∧ i_ ≤ 3 ∧ (∀ i, i < 4 → i ≠ k_ → edZ i = ed i) ∧ upd (ed k_) (n_ * 4 + i_) (hbt (ed k_ (n_ * 4 + i_)) v3 v4) = edZ k_ ∧ r1 = ed k_ (n_ * 4 + i_) >>> (v3 &&& 31) &&& 1) (hm : ((¬ CSE (cN f_caseMany) v0 v2 ∨ ¬ CSE (cN f_caseMany) v0 v3 ∨ v1.toInt < 0 ∨ 3 < v1.toInt) ∧ r2 = -1 ∧ f_heardZ = f_heard) ∨ ∃ k_ n_ i_ : Nat, CSE (cN f_caseMany) v0 v2 ∧ CSE (cN f_caseMany) v0 v3 ∧ v0 = nI k_ ∧ v1 = nI n_ ∧ v2 = nI i_ ∧ k_ ≤ 3 ∧ n_ ≤ 3 ∧ i_ ≤ 3 ∧ upd f_heard (16 * k_ + 4 * n_ + i_) (hbt (f_heard (16 * k_ + 4 * n_ + i_)) v3 v4) = f_heardZ ∧ r2 = f_heard (16 * k_ + 4 * n_ + i_) >>> (v3 &&& 31) &&& 1) (hR : RL_ tl ct pe kn ac np kc mN pV kV st sn sl scx tT ec er ed eT eb en q_undos q_models PGv f_afterOf f_actMany f_actOf f_whom f_hasIf f_becomes f_goneOf q_taped cr q_people f_secrets f_lanes f_lengths f_cells f_tokens f_afters f_caseMany f_happen f_heard) (hb : tl ≤ 160 ∧ q_taped ≤ 160 ∧ pe ≤ 4 ∧ kc ≤ 4 ∧ q_undos ≤ 8) : r1 = r2 := by
  have hq := hR.2.2.2.2.2.2.1
  have hc : CSE ec v0 v2 ↔ CSE (cN f_caseMany) v0 v2 := EVQ.cse hq
  have hd : CSE ec v0 v3 ↔ CSE (cN f_caseMany) v0 v3 := EVQ.cse hq
  rcases hx with ⟨a1, a2, a3⟩ | ⟨k1, n1, i1, a1, a2, a3, a4, a5, a6, a7, a8, a9, aa, ab⟩
  · rcases hm with ⟨b1, b2, b3⟩ | ⟨k2, n2, i2, b1, b2, b3, b4, b5, b6, b7, b8, b9, ba⟩
    · rw [a2, b2]
    · exfalso
      rcases a1 with q | q | q
      · exact q (hc.mpr b1)
      · exact q (hd.mpr b2)
      · rw [b4, nI_toInt (by omega)] at q; omega
  · rcases hm with ⟨b1, b2, b3⟩ | ⟨k2, n2, i2, b1, b2, b3, b4, b5, b6, b7, b8, b9, ba⟩
    · exfalso
      rcases b1 with q | q | q
      · exact q (hc.mp a1)
      · exact q (hd.mp a2)
      · rw [a4, nI_toInt (by omega)] at q; omega
    · have e1 := (nI_eq (by omega) (by omega)).mp (a3.symm.trans b3)
      have e2 := (nI_eq (by omega) (by omega)).mp (a4.symm.trans b4)
      have e3 := (nI_eq (by omega) (by omega)).mp (a5.symm.trans b5)
      subst e1; subst e2; subst e3
      have hh : ed k1 (n1 * 4 + i1) = f_heard (16 * k1 + 4 * n1 + i1) := by rw [(hq k1 (by omega)).2.2 (n1 * 4 + i1) (by omega)]; congr 1; omega
      rw [ab, ba, hh]
theorem re_hears {v0 v1 v2 v3 v4 r1 r2 : Int32} {tl : Nat} {ct : Nat → Int} {pe : Nat} {kn : Int32} {ac : Nat} {np : Nat} {kc : Nat} {mN : AM} {pV : Nat → AM} {kV : Nat → AM} {st : Nat → Nat} {sn : Nat → Nat} {sl : Nat → Nat} {scx : Nat → Nat → Int32} {tT : Nat → Option SVal} {ec : Nat → Nat} {er : Nat → Nat} {ed : Nat → Nat → Int32} {eT : Nat → Nat → Option SVal} {eb : Nat → Nat → Int32} {en : Nat → Nat → Int32} {q_undos : Nat} {q_models : Nat} {PGv : Nat → AM} {f_afterOf : Nat → Int32} {f_actMany : Nat → Int32} {f_actOf : Nat → Int32} {f_whom : Nat → Int32} {f_hasIf : Nat → Int32} {f_becomes : Nat → Int32} {f_goneOf : Nat → Int32} {q_taped : Nat} {cr : Nat → Int} {q_people : Nat} {f_secrets : Nat → Int32} {f_lanes : Nat → Int32} {f_lengths : Nat → Int32} {f_cells : Nat → Int32} {f_tokens : Nat → Int32} {f_afters : Nat → Int32} {f_caseMany : Nat → Int32} {f_happen : Nat → Int32} {f_heard : Nat → Int32} {edZ : Nat → Nat → Int32} {f_heardZ : Nat → Int32} (hx : ((¬ CSE ec v0 v2 ∨ ¬ CSE ec v0 v3 ∨ v1.toInt < 0 ∨ 3 < v1.toInt) ∧ r1 = -1 ∧ edZ = ed) ∨ ∃ k_ n_ i_ : Nat, CSE ec v0 v2 ∧ CSE ec v0 v3 ∧ v0 = nI k_ ∧ v1 = nI n_ ∧ v2 = nI i_ ∧ k_ ≤ 3 ∧ n_ ≤ 3 ∧ i_ ≤ 3 ∧ (∀ i, i < 4 → i ≠ k_ → edZ i = ed i) ∧ upd (ed k_) (n_ * 4 + i_) (hbt (ed k_ (n_ * 4 + i_)) v3 v4) = edZ k_ ∧ r1 = ed k_ (n_ * 4 + i_) >>> (v3 &&& 31) &&& 1) (hm : ((¬ CSE (cN f_caseMany) v0 v2 ∨ ¬ CSE (cN f_caseMany) v0 v3 ∨ v1.toInt < 0 ∨ 3 < v1.toInt) ∧ r2 = -1 ∧ f_heardZ = f_heard) ∨ ∃ k_ n_ i_ : Nat, CSE (cN f_caseMany) v0 v2 ∧ CSE (cN f_caseMany) v0 v3 ∧ v0 = nI k_ ∧ v1 = nI n_ ∧ v2 = nI i_ ∧ k_ ≤ 3 ∧ n_ ≤ 3 ∧ i_ ≤ 3 ∧ upd f_heard (16 * k_ + 4 * n_ + i_) (hbt (f_heard (16 * k_ + 4 * n_ + i_)) v3 v4) = f_heardZ ∧ r2 = f_heard (16 * k_ + 4 * n_ + i_) >>> (v3 &&& 31) &&& 1) (hR : RL_ tl ct pe kn ac np kc mN pV kV st sn sl scx tT ec er ed eT eb en q_undos q_models PGv f_afterOf f_actMany f_actOf f_whom f_hasIf f_becomes f_goneOf q_taped cr q_people f_secrets f_lanes f_lengths f_cells f_tokens f_afters f_caseMany f_happen f_heard) (hb : tl ≤ 160 ∧ q_taped ≤ 160 ∧ pe ≤ 4 ∧ kc ≤ 4 ∧ q_undos ≤ 8) : EVQ ec er edZ f_caseMany f_happen f_heardZ := by
  have hq := hR.2.2.2.2.2.2.1
  have hc : CSE ec v0 v2 ↔ CSE (cN f_caseMany) v0 v2 := EVQ.cse hq
  have hd : CSE ec v0 v3 ↔ CSE (cN f_caseMany) v0 v3 := EVQ.cse hq
  rcases hx with ⟨a1, a2, a3⟩ | ⟨k1, n1, i1, a1, a2, a3, a4, a5, a6, a7, a8, a9, aa, ab⟩
  · rcases hm with ⟨b1, b2, b3⟩ | ⟨k2, n2, i2, b1, b2, b3, b4, b5, b6, b7, b8, b9, ba⟩
    · rw [a3, b3]; exact hq
    · exfalso
      rcases a1 with q | q | q
      · exact q (hc.mpr b1)
      · exact q (hd.mpr b2)
      · rw [b4, nI_toInt (by omega)] at q; omega
  · rcases hm with ⟨b1, b2, b3⟩ | ⟨k2, n2, i2, b1, b2, b3, b4, b5, b6, b7, b8, b9, ba⟩
    · exfalso
      rcases b1 with q | q | q
      · exact q (hc.mp a1)
      · exact q (hd.mp a2)
      · rw [a4, nI_toInt (by omega)] at q; omega
    · have e1 := (nI_eq (by omega) (by omega)).mp (a3.symm.trans b3)
      have e2 := (nI_eq (by omega) (by omega)).mp (a4.symm.trans b4)
      have e3 := (nI_eq (by omega) (by omega)).mp (a5.symm.trans b5)
      subst e1; subst e2; subst e3
      have hh : ed k1 (n1 * 4 + i1) = f_heard (16 * k1 + 4 * n1 + i1) := by rw [(hq k1 (by omega)).2.2 (n1 * 4 + i1) (by omega)]; congr 1; omega
      rw [hh] at aa; exact EVQ.hear hq a6 a7 a8 a9 aa b9
theorem eq_happens {v0 v1 r1 r2 : Int32} {tl : Nat} {ct : Nat → Int} {pe : Nat} {kn : Int32} {ac : Nat} {np : Nat} {kc : Nat} {mN : AM} {pV : Nat → AM} {kV : Nat → AM} {st : Nat → Nat} {sn : Nat → Nat} {sl : Nat → Nat} {scx : Nat → Nat → Int32} {tT : Nat → Option SVal} {ec : Nat → Nat} {er : Nat → Nat} {ed : Nat → Nat → Int32} {eT : Nat → Nat → Option SVal} {eb : Nat → Nat → Int32} {en : Nat → Nat → Int32} {q_undos : Nat} {q_models : Nat} {PGv : Nat → AM} {f_afterOf : Nat → Int32} {f_actMany : Nat → Int32} {f_actOf : Nat → Int32} {f_whom : Nat → Int32} {f_hasIf : Nat → Int32} {f_becomes : Nat → Int32} {f_goneOf : Nat → Int32} {q_taped : Nat} {cr : Nat → Int} {q_people : Nat} {f_secrets : Nat → Int32} {f_lanes : Nat → Int32} {f_lengths : Nat → Int32} {f_cells : Nat → Int32} {f_tokens : Nat → Int32} {f_afters : Nat → Int32} {f_caseMany : Nat → Int32} {f_happen : Nat → Int32} {f_heard : Nat → Int32} {erZ : Nat → Nat} {f_happenZ : Nat → Int32} (hx : (¬ CSE ec v0 v1 ∧ r1 = -1 ∧ erZ = er) ∨ ∃ k_ i_ : Nat, CSE ec v0 v1 ∧ v0 = nI k_ ∧ v1 = nI i_ ∧ k_ ≤ 3 ∧ i_ ≤ 3 ∧ (∀ i, i < 4 → erZ i = if i = k_ then i_ else er i) ∧ r1 = nI (er k_)) (hm : (¬ CSE (cN f_caseMany) v0 v1 ∧ r2 = -1 ∧ f_happenZ = f_happen) ∨ ∃ k_ i_ : Nat, CSE (cN f_caseMany) v0 v1 ∧ v0 = nI k_ ∧ v1 = nI i_ ∧ k_ ≤ 3 ∧ i_ ≤ 3 ∧ upd f_happen k_ (nI i_) = f_happenZ ∧ r2 = nI (cN f_happen k_)) (hR : RL_ tl ct pe kn ac np kc mN pV kV st sn sl scx tT ec er ed eT eb en q_undos q_models PGv f_afterOf f_actMany f_actOf f_whom f_hasIf f_becomes f_goneOf q_taped cr q_people f_secrets f_lanes f_lengths f_cells f_tokens f_afters f_caseMany f_happen f_heard) (hb : tl ≤ 160 ∧ q_taped ≤ 160 ∧ pe ≤ 4 ∧ kc ≤ 4 ∧ q_undos ≤ 8) : r1 = r2 := by
  have hq := hR.2.2.2.2.2.2.1
  have hc : CSE ec v0 v1 ↔ CSE (cN f_caseMany) v0 v1 := EVQ.cse hq
  rcases hx with ⟨a1, a2, a3⟩ | ⟨k1, i1, a1, a2, a3, a4, a5, a6, a7⟩
  · rcases hm with ⟨b1, b2, b3⟩ | ⟨k2, i2, b1, b2, b3, b4, b5, b6, b7⟩
    · rw [a2, b2]
    · exact absurd (hc.mpr b1) a1
  · rcases hm with ⟨b1, b2, b3⟩ | ⟨k2, i2, b1, b2, b3, b4, b5, b6, b7⟩
    · exact absurd (hc.mp a1) b1
    · have e1 := (nI_eq (by omega) (by omega)).mp (a2.symm.trans b2)
      have e2 := (nI_eq (by omega) (by omega)).mp (a3.symm.trans b3)
      subst e1; subst e2
      rw [a7, b7, (hq k1 (by omega)).2.1]
theorem re_happens {v0 v1 r1 r2 : Int32} {tl : Nat} {ct : Nat → Int} {pe : Nat} {kn : Int32} {ac : Nat} {np : Nat} {kc : Nat} {mN : AM} {pV : Nat → AM} {kV : Nat → AM} {st : Nat → Nat} {sn : Nat → Nat} {sl : Nat → Nat} {scx : Nat → Nat → Int32} {tT : Nat → Option SVal} {ec : Nat → Nat} {er : Nat → Nat} {ed : Nat → Nat → Int32} {eT : Nat → Nat → Option SVal} {eb : Nat → Nat → Int32} {en : Nat → Nat → Int32} {q_undos : Nat} {q_models : Nat} {PGv : Nat → AM} {f_afterOf : Nat → Int32} {f_actMany : Nat → Int32} {f_actOf : Nat → Int32} {f_whom : Nat → Int32} {f_hasIf : Nat → Int32} {f_becomes : Nat → Int32} {f_goneOf : Nat → Int32} {q_taped : Nat} {cr : Nat → Int} {q_people : Nat} {f_secrets : Nat → Int32} {f_lanes : Nat → Int32} {f_lengths : Nat → Int32} {f_cells : Nat → Int32} {f_tokens : Nat → Int32} {f_afters : Nat → Int32} {f_caseMany : Nat → Int32} {f_happen : Nat → Int32} {f_heard : Nat → Int32} {erZ : Nat → Nat} {f_happenZ : Nat → Int32} (hx : (¬ CSE ec v0 v1 ∧ r1 = -1 ∧ erZ = er) ∨ ∃ k_ i_ : Nat, CSE ec v0 v1 ∧ v0 = nI k_ ∧ v1 = nI i_ ∧ k_ ≤ 3 ∧ i_ ≤ 3 ∧ (∀ i, i < 4 → erZ i = if i = k_ then i_ else er i) ∧ r1 = nI (er k_)) (hm : (¬ CSE (cN f_caseMany) v0 v1 ∧ r2 = -1 ∧ f_happenZ = f_happen) ∨ ∃ k_ i_ : Nat, CSE (cN f_caseMany) v0 v1 ∧ v0 = nI k_ ∧ v1 = nI i_ ∧ k_ ≤ 3 ∧ i_ ≤ 3 ∧ upd f_happen k_ (nI i_) = f_happenZ ∧ r2 = nI (cN f_happen k_)) (hR : RL_ tl ct pe kn ac np kc mN pV kV st sn sl scx tT ec er ed eT eb en q_undos q_models PGv f_afterOf f_actMany f_actOf f_whom f_hasIf f_becomes f_goneOf q_taped cr q_people f_secrets f_lanes f_lengths f_cells f_tokens f_afters f_caseMany f_happen f_heard) (hb : tl ≤ 160 ∧ q_taped ≤ 160 ∧ pe ≤ 4 ∧ kc ≤ 4 ∧ q_undos ≤ 8) : EVQ ec erZ ed f_caseMany f_happenZ f_heard := by
  have hq := hR.2.2.2.2.2.2.1
  have hc : CSE ec v0 v1 ↔ CSE (cN f_caseMany) v0 v1 := EVQ.cse hq
  rcases hx with ⟨a1, a2, a3⟩ | ⟨k1, i1, a1, a2, a3, a4, a5, a6, a7⟩
  · rcases hm with ⟨b1, b2, b3⟩ | ⟨k2, i2, b1, b2, b3, b4, b5, b6, b7⟩
    · rw [a3, b3]; exact hq
    · exact absurd (hc.mpr b1) a1
  · rcases hm with ⟨b1, b2, b3⟩ | ⟨k2, i2, b1, b2, b3, b4, b5, b6, b7⟩
    · exact absurd (hc.mp a1) b1
    · have e1 := (nI_eq (by omega) (by omega)).mp (a2.symm.trans b2)
      have e2 := (nI_eq (by omega) (by omega)).mp (a3.symm.trans b3)
      subst e1; subst e2
      exact EVQ.hap hq a5 a6 b6
theorem eq_word {v0 v1 v2 v3 r1 r2 : Int32} {tl : Nat} {ct : Nat → Int} {pe : Nat} {kn : Int32} {ac : Nat} {np : Nat} {kc : Nat} {mN : AM} {pV : Nat → AM} {kV : Nat → AM} {st : Nat → Nat} {sn : Nat → Nat} {sl : Nat → Nat} {scx : Nat → Nat → Int32} {tT : Nat → Option SVal} {ec : Nat → Nat} {er : Nat → Nat} {ed : Nat → Nat → Int32} {eT : Nat → Nat → Option SVal} {eb : Nat → Nat → Int32} {en : Nat → Nat → Int32} {q_undos : Nat} {q_models : Nat} {PGv : Nat → AM} {f_afterOf : Nat → Int32} {f_actMany : Nat → Int32} {f_actOf : Nat → Int32} {f_whom : Nat → Int32} {f_hasIf : Nat → Int32} {f_becomes : Nat → Int32} {f_goneOf : Nat → Int32} {q_taped : Nat} {cr : Nat → Int} {q_people : Nat} {f_secrets : Nat → Int32} {f_lanes : Nat → Int32} {f_lengths : Nat → Int32} {f_cells : Nat → Int32} {f_tokens : Nat → Int32} {f_afters : Nat → Int32} {f_caseMany : Nat → Int32} {f_happen : Nat → Int32} {f_heard : Nat → Int32} {ecZ : Nat → Nat} {erZ : Nat → Nat} {edZ : Nat → Nat → Int32} {eTZ : Nat → Nat → Option SVal} {ebZ : Nat → Nat → Int32} {enZ : Nat → Nat → Int32} {f_actManyZ : Nat → Int32} {f_actOfZ : Nat → Int32} {f_whomZ : Nat → Int32} {f_hasIfZ : Nat → Int32} {f_becomesZ : Nat → Int32} {f_goneOfZ : Nat → Int32} {f_caseManyZ : Nat → Int32} {f_happenZ : Nat → Int32} {f_heardZ : Nat → Int32} (hx : ((v0.toInt < 0 ∨ 3 < v0.toInt ∨ v1.toInt < 0 ∨ 2 < v1.toInt ∨ ¬ PLN (sNs tT) v2 ∨ v3.toInt < 0 ∨ 15 < v3.toInt) ∧ r1 = -1 ∧ ecZ = ec ∧ erZ = er ∧ edZ = ed ∧ eTZ = eT ∧ ebZ = eb ∧ enZ = en) ∨ ∃ k_ d_ : Nat, PLN (sNs tT) v2 ∧ v0 = nI k_ ∧ v1 = nI d_ ∧ k_ ≤ 3 ∧ d_ ≤ 2 ∧ (0 ≤ v3.toInt ∧ v3.toInt ≤ 15) ∧ (∀ i, i < 4 → ecZ i = if i = k_ then (if d_ = 0 then 1 else 2) else ec i) ∧ (∀ i, i < 4 → erZ i = if i = k_ then 0 else er i) ∧ (∀ i, i < 4 → i ≠ k_ → edZ i = ed i) ∧ ((d_ = 0 ∧ SAx 4 (edZ k_)) ∨ (d_ ≠ 0 ∧ SPx v3 4 (edZ k_))) ∧ r1 = nI (if d_ = 0 then 1 else 2) ∧ (∀ i, i < 4 → i ≠ k_ → eTZ i = eT i) ∧ (∀ i, i < 4 → i ≠ k_ → ebZ i = eb i) ∧ (∀ i, i < 4 → i ≠ k_ → enZ i = en i) ∧ (∃ s_ : Nat, v2 = nI s_ ∧ s_ ≤ 7 ∧ (tT s_).isSome = true ∧ ∀ c, c < 4 → eTZ k_ c = if c = (if d_ = 2 then 1 else 0) then tT s_ else none) ∧ ∀ c, c < 4 → ebZ k_ c = 0 ∧ enZ k_ c = 0) (hm : ((v0.toInt < 0 ∨ 3 < v0.toInt ∨ v1.toInt < 0 ∨ 2 < v1.toInt ∨ ¬ PLN (tRr f_tokens f_afters) v2 ∨ v3.toInt < 0 ∨ 15 < v3.toInt) ∧ r2 = -1 ∧ f_caseManyZ = f_caseMany ∧ f_happenZ = f_happen ∧ f_heardZ = f_heard ∧ f_hasIfZ = f_hasIf ∧ f_becomesZ = f_becomes ∧ f_goneOfZ = f_goneOf ∧ f_actManyZ = f_actMany ∧ f_actOfZ = f_actOf ∧ f_whomZ = f_whom) ∨ ∃ k_ d_ : Nat, PLN (tRr f_tokens f_afters) v2 ∧ v0 = nI k_ ∧ v1 = nI d_ ∧ k_ ≤ 3 ∧ d_ ≤ 2 ∧ (0 ≤ v3.toInt ∧ v3.toInt ≤ 15) ∧ upd f_caseMany k_ (nI (if d_ = 0 then 1 else 2)) = f_caseManyZ ∧ upd f_happen k_ (nI 0) = f_happenZ ∧ WX k_ d_ v3 4 f_heard f_heardZ ∧ r2 = nI (if d_ = 0 then 1 else 2) ∧ (∃ (s_ : Nat) (h_ : Nat → Int32), v2 = nI s_ ∧ s_ ≤ 7 ∧ Z4 k_ 4 f_hasIf h_ ∧ upd h_ (4 * k_ + (if d_ = 2 then 1 else 0)) 1 = f_hasIfZ ∧ upd f_actMany (8 + 4 * k_ + (if d_ = 2 then 1 else 0)) (nI (cN f_actMany s_)) = f_actManyZ ∧ CPG 32 s_ (8 + 4 * k_ + (if d_ = 2 then 1 else 0)) 32 f_actOf f_actOfZ ∧ CPG 32 s_ (8 + 4 * k_ + (if d_ = 2 then 1 else 0)) 32 f_whom f_whomZ) ∧ Z4 k_ 4 f_becomes f_becomesZ ∧ Z4 k_ 4 f_goneOf f_goneOfZ) (hR : RL_ tl ct pe kn ac np kc mN pV kV st sn sl scx tT ec er ed eT eb en q_undos q_models PGv f_afterOf f_actMany f_actOf f_whom f_hasIf f_becomes f_goneOf q_taped cr q_people f_secrets f_lanes f_lengths f_cells f_tokens f_afters f_caseMany f_happen f_heard) (hb : tl ≤ 160 ∧ q_taped ≤ 160 ∧ pe ≤ 4 ∧ kc ≤ 4 ∧ q_undos ≤ 8) : r1 = r2 := by
  have hq := hR.2.2.2.2.2.2.1
  have hV := hR.2.2.2.2.2.2.2.2.2.2.1
  have hI := hR.2.2.2.2.2.2.2.2.2.2.2.1
  have hp : PLN (sNs tT) v2 ↔ PLN (tRr f_tokens f_afters) v2 := TLQ.pln hR.2.2.2.2.2.2.2.1
  rcases hx with ⟨a1, a2, a3⟩ | ⟨k1, d1, a1, a2, a3, a4, a5, a6, a7, a8, a9, aa, ab, ac_, ad, ae, af, ag⟩
  · rcases hm with ⟨b1, b2, b3⟩ | ⟨k2, d2, b1, b2, b3, b4, b5, b6, b7, b8, b9, ba, bc, bd, be⟩
    · rw [a2, b2]
    · exfalso
      rw [b2, b3, nI_toInt (by omega), nI_toInt (by omega)] at a1
      rcases a1 with q | q | q | q | q | q
      · omega
      · omega
      · omega
      · omega
      · exact q (hp.mpr b1)
      · omega
  · rcases hm with ⟨b1, b2, b3⟩ | ⟨k2, d2, b1, b2, b3, b4, b5, b6, b7, b8, b9, ba, bc, bd, be⟩
    · exfalso
      rw [a2, a3, nI_toInt (by omega), nI_toInt (by omega)] at b1
      rcases b1 with q | q | q | q | q | q
      · omega
      · omega
      · omega
      · omega
      · exact q (hp.mp a1)
      · omega
    · have e1 := (nI_eq (by omega) (by omega)).mp (a2.symm.trans b2)
      have e2 := (nI_eq (by omega) (by omega)).mp (a3.symm.trans b3)
      subst e1; subst e2
      rw [ab, ba]
theorem re_word {v0 v1 v2 v3 r1 r2 : Int32} {tl : Nat} {ct : Nat → Int} {pe : Nat} {kn : Int32} {ac : Nat} {np : Nat} {kc : Nat} {mN : AM} {pV : Nat → AM} {kV : Nat → AM} {st : Nat → Nat} {sn : Nat → Nat} {sl : Nat → Nat} {scx : Nat → Nat → Int32} {tT : Nat → Option SVal} {ec : Nat → Nat} {er : Nat → Nat} {ed : Nat → Nat → Int32} {eT : Nat → Nat → Option SVal} {eb : Nat → Nat → Int32} {en : Nat → Nat → Int32} {q_undos : Nat} {q_models : Nat} {PGv : Nat → AM} {f_afterOf : Nat → Int32} {f_actMany : Nat → Int32} {f_actOf : Nat → Int32} {f_whom : Nat → Int32} {f_hasIf : Nat → Int32} {f_becomes : Nat → Int32} {f_goneOf : Nat → Int32} {q_taped : Nat} {cr : Nat → Int} {q_people : Nat} {f_secrets : Nat → Int32} {f_lanes : Nat → Int32} {f_lengths : Nat → Int32} {f_cells : Nat → Int32} {f_tokens : Nat → Int32} {f_afters : Nat → Int32} {f_caseMany : Nat → Int32} {f_happen : Nat → Int32} {f_heard : Nat → Int32} {ecZ : Nat → Nat} {erZ : Nat → Nat} {edZ : Nat → Nat → Int32} {eTZ : Nat → Nat → Option SVal} {ebZ : Nat → Nat → Int32} {enZ : Nat → Nat → Int32} {f_actManyZ : Nat → Int32} {f_actOfZ : Nat → Int32} {f_whomZ : Nat → Int32} {f_hasIfZ : Nat → Int32} {f_becomesZ : Nat → Int32} {f_goneOfZ : Nat → Int32} {f_caseManyZ : Nat → Int32} {f_happenZ : Nat → Int32} {f_heardZ : Nat → Int32} (hx : ((v0.toInt < 0 ∨ 3 < v0.toInt ∨ v1.toInt < 0 ∨ 2 < v1.toInt ∨ ¬ PLN (sNs tT) v2 ∨ v3.toInt < 0 ∨ 15 < v3.toInt) ∧ r1 = -1 ∧ ecZ = ec ∧ erZ = er ∧ edZ = ed ∧ eTZ = eT ∧ ebZ = eb ∧ enZ = en) ∨ ∃ k_ d_ : Nat, PLN (sNs tT) v2 ∧ v0 = nI k_ ∧ v1 = nI d_ ∧ k_ ≤ 3 ∧ d_ ≤ 2 ∧ (0 ≤ v3.toInt ∧ v3.toInt ≤ 15) ∧ (∀ i, i < 4 → ecZ i = if i = k_ then (if d_ = 0 then 1 else 2) else ec i) ∧ (∀ i, i < 4 → erZ i = if i = k_ then 0 else er i) ∧ (∀ i, i < 4 → i ≠ k_ → edZ i = ed i) ∧ ((d_ = 0 ∧ SAx 4 (edZ k_)) ∨ (d_ ≠ 0 ∧ SPx v3 4 (edZ k_))) ∧ r1 = nI (if d_ = 0 then 1 else 2) ∧ (∀ i, i < 4 → i ≠ k_ → eTZ i = eT i) ∧ (∀ i, i < 4 → i ≠ k_ → ebZ i = eb i) ∧ (∀ i, i < 4 → i ≠ k_ → enZ i = en i) ∧ (∃ s_ : Nat, v2 = nI s_ ∧ s_ ≤ 7 ∧ (tT s_).isSome = true ∧ ∀ c, c < 4 → eTZ k_ c = if c = (if d_ = 2 then 1 else 0) then tT s_ else none) ∧ ∀ c, c < 4 → ebZ k_ c = 0 ∧ enZ k_ c = 0) (hm : ((v0.toInt < 0 ∨ 3 < v0.toInt ∨ v1.toInt < 0 ∨ 2 < v1.toInt ∨ ¬ PLN (tRr f_tokens f_afters) v2 ∨ v3.toInt < 0 ∨ 15 < v3.toInt) ∧ r2 = -1 ∧ f_caseManyZ = f_caseMany ∧ f_happenZ = f_happen ∧ f_heardZ = f_heard ∧ f_hasIfZ = f_hasIf ∧ f_becomesZ = f_becomes ∧ f_goneOfZ = f_goneOf ∧ f_actManyZ = f_actMany ∧ f_actOfZ = f_actOf ∧ f_whomZ = f_whom) ∨ ∃ k_ d_ : Nat, PLN (tRr f_tokens f_afters) v2 ∧ v0 = nI k_ ∧ v1 = nI d_ ∧ k_ ≤ 3 ∧ d_ ≤ 2 ∧ (0 ≤ v3.toInt ∧ v3.toInt ≤ 15) ∧ upd f_caseMany k_ (nI (if d_ = 0 then 1 else 2)) = f_caseManyZ ∧ upd f_happen k_ (nI 0) = f_happenZ ∧ WX k_ d_ v3 4 f_heard f_heardZ ∧ r2 = nI (if d_ = 0 then 1 else 2) ∧ (∃ (s_ : Nat) (h_ : Nat → Int32), v2 = nI s_ ∧ s_ ≤ 7 ∧ Z4 k_ 4 f_hasIf h_ ∧ upd h_ (4 * k_ + (if d_ = 2 then 1 else 0)) 1 = f_hasIfZ ∧ upd f_actMany (8 + 4 * k_ + (if d_ = 2 then 1 else 0)) (nI (cN f_actMany s_)) = f_actManyZ ∧ CPG 32 s_ (8 + 4 * k_ + (if d_ = 2 then 1 else 0)) 32 f_actOf f_actOfZ ∧ CPG 32 s_ (8 + 4 * k_ + (if d_ = 2 then 1 else 0)) 32 f_whom f_whomZ) ∧ Z4 k_ 4 f_becomes f_becomesZ ∧ Z4 k_ 4 f_goneOf f_goneOfZ) (hR : RL_ tl ct pe kn ac np kc mN pV kV st sn sl scx tT ec er ed eT eb en q_undos q_models PGv f_afterOf f_actMany f_actOf f_whom f_hasIf f_becomes f_goneOf q_taped cr q_people f_secrets f_lanes f_lengths f_cells f_tokens f_afters f_caseMany f_happen f_heard) (hb : tl ≤ 160 ∧ q_taped ≤ 160 ∧ pe ≤ 4 ∧ kc ≤ 4 ∧ q_undos ≤ 8) : EVQ ecZ erZ edZ f_caseManyZ f_happenZ f_heardZ ∧ TVQ tT f_tokens f_actManyZ f_actOfZ f_whomZ f_afterOf f_afters ∧ IVQ eTZ ebZ enZ f_hasIfZ f_actManyZ f_actOfZ f_whomZ f_becomesZ f_goneOfZ := by
  have hq := hR.2.2.2.2.2.2.1
  have hV := hR.2.2.2.2.2.2.2.2.2.2.1
  have hI := hR.2.2.2.2.2.2.2.2.2.2.2.1
  have hp : PLN (sNs tT) v2 ↔ PLN (tRr f_tokens f_afters) v2 := TLQ.pln hR.2.2.2.2.2.2.2.1
  rcases hx with ⟨a1, a2, a3⟩ | ⟨k1, d1, a1, a2, a3, a4, a5, a6, a7, a8, a9, aa, ab, ac_, ad, ae, af, ag⟩
  · rcases hm with ⟨b1, b2, b3⟩ | ⟨k2, d2, b1, b2, b3, b4, b5, b6, b7, b8, b9, ba, bc, bd, be⟩
    · obtain ⟨x1, x2, x3, x4, x5, x6⟩ := a3
      obtain ⟨y1, y2, y3, y4, y5, y6, y7, y8, y9⟩ := b3
      rw [x1, x2, x3, x4, x5, x6, y1, y2, y3, y4, y5, y6, y7, y8, y9]; exact ⟨hq, hV, hI⟩
    · exfalso
      rw [b2, b3, nI_toInt (by omega), nI_toInt (by omega)] at a1
      rcases a1 with q | q | q | q | q | q
      · omega
      · omega
      · omega
      · omega
      · exact q (hp.mpr b1)
      · omega
  · rcases hm with ⟨b1, b2, b3⟩ | ⟨k2, d2, b1, b2, b3, b4, b5, b6, b7, b8, b9, ba, bc, bd, be⟩
    · exfalso
      rw [a2, a3, nI_toInt (by omega), nI_toInt (by omega)] at b1
      rcases b1 with q | q | q | q | q | q
      · omega
      · omega
      · omega
      · omega
      · exact q (hp.mp a1)
      · omega
    · have e1 := (nI_eq (by omega) (by omega)).mp (a2.symm.trans b2)
      have e2 := (nI_eq (by omega) (by omega)).mp (a3.symm.trans b3)
      subst e1; subst e2
      exact ⟨EVQ.put hq a4 (by split <;> omega) a7 a8 a9 (EVQ.wd aa b9) b7 b8 b9.2, wrd_ hV hI a4 a5 ac_ ad ae af ag bc bd be⟩
theorem eq_sheet {v0 v1 v2 r1 r2 : Int32} {tl : Nat} {ct : Nat → Int} {pe : Nat} {kn : Int32} {ac : Nat} {np : Nat} {kc : Nat} {mN : AM} {pV : Nat → AM} {kV : Nat → AM} {st : Nat → Nat} {sn : Nat → Nat} {sl : Nat → Nat} {scx : Nat → Nat → Int32} {tT : Nat → Option SVal} {ec : Nat → Nat} {er : Nat → Nat} {ed : Nat → Nat → Int32} {eT : Nat → Nat → Option SVal} {eb : Nat → Nat → Int32} {en : Nat → Nat → Int32} {q_undos : Nat} {q_models : Nat} {PGv : Nat → AM} {f_afterOf : Nat → Int32} {f_actMany : Nat → Int32} {f_actOf : Nat → Int32} {f_whom : Nat → Int32} {f_hasIf : Nat → Int32} {f_becomes : Nat → Int32} {f_goneOf : Nat → Int32} {q_taped : Nat} {cr : Nat → Int} {q_people : Nat} {f_secrets : Nat → Int32} {f_lanes : Nat → Int32} {f_lengths : Nat → Int32} {f_cells : Nat → Int32} {f_tokens : Nat → Int32} {f_afters : Nat → Int32} {f_caseMany : Nat → Int32} {f_happen : Nat → Int32} {f_heard : Nat → Int32} {stZ : Nat → Nat} {snZ : Nat → Nat} {slZ : Nat → Nat} {scxZ : Nat → Nat → Int32} {f_lanesZ : Nat → Int32} {f_lengthsZ : Nat → Int32} {f_cellsZ : Nat → Int32} (hx : ((v0.toInt < 0 ∨ 3 < v0.toInt ∨ v1.toInt < 0 ∨ 2 < v1.toInt ∨ 48 < v2.toInt) ∧ r1 = -1 ∧ stZ = st ∧ snZ = sn ∧ slZ = sl ∧ scxZ = scx) ∨ ((0 ≤ v0.toInt ∧ v0.toInt ≤ 3 ∧ 0 ≤ v1.toInt ∧ v1.toInt ≤ 2 ∧ v2.toInt < 0) ∧ r1 = -14 ∧ stZ = st ∧ snZ = sn ∧ slZ = sl ∧ scxZ = scx) ∨ ∃ k_ l_ n_ : Nat, v0 = nI k_ ∧ v1 = nI l_ ∧ v2 = nI n_ ∧ k_ ≤ 3 ∧ l_ ≤ 2 ∧ n_ ≤ 48 ∧ (∀ i, i < 4 → stZ i = if i = k_ then 1 else st i) ∧ (∀ i, i < 4 → snZ i = if i = k_ then n_ else sn i) ∧ (∀ i, i < 4 → slZ i = if i = k_ then l_ else sl i) ∧ (∀ i, i < 4 → i ≠ k_ → scxZ i = scx i) ∧ Z0x n_ (scxZ k_) ∧ r1 = 1) (hm : ((v0.toInt < 0 ∨ 3 < v0.toInt ∨ v1.toInt < 0 ∨ 2 < v1.toInt ∨ 48 < v2.toInt) ∧ r2 = -1 ∧ f_lanesZ = f_lanes ∧ f_lengthsZ = f_lengths ∧ f_cellsZ = f_cells) ∨ ((0 ≤ v0.toInt ∧ v0.toInt ≤ 3 ∧ 0 ≤ v1.toInt ∧ v1.toInt ≤ 2 ∧ v2.toInt < 0) ∧ r2 = -14 ∧ f_lanesZ = f_lanes ∧ f_lengthsZ = f_lengths ∧ f_cellsZ = f_cells) ∨ ∃ k_ l_ n_ : Nat, v0 = nI k_ ∧ v1 = nI l_ ∧ v2 = nI n_ ∧ k_ ≤ 3 ∧ l_ ≤ 2 ∧ n_ ≤ 48 ∧ upd f_lanes k_ (nI l_) = f_lanesZ ∧ upd f_lengths k_ (nI n_) = f_lengthsZ ∧ CZR k_ 48 f_cells f_cellsZ ∧ r2 = 1) (hR : RL_ tl ct pe kn ac np kc mN pV kV st sn sl scx tT ec er ed eT eb en q_undos q_models PGv f_afterOf f_actMany f_actOf f_whom f_hasIf f_becomes f_goneOf q_taped cr q_people f_secrets f_lanes f_lengths f_cells f_tokens f_afters f_caseMany f_happen f_heard) (hb : tl ≤ 160 ∧ q_taped ≤ 160 ∧ pe ≤ 4 ∧ kc ≤ 4 ∧ q_undos ≤ 8) : r1 = r2 := by
  rcases hx with ⟨a1, a2, a3⟩ | ⟨a1, a2, a3⟩ | ⟨k1, l1, n1, a1, a2, a3, a4, a5, a6, a7, a8, a9, ac, az, a0⟩
  · rcases hm with ⟨b1, b2, b3⟩ | ⟨b1, b2, b3⟩ | ⟨k2, l2, n2, b1, b2, b3, b4, b5, b6, b7, b8, b9, b0⟩
    · rw [a2, b2]
    · exfalso; omega
    · exfalso; rw [b1, b2, b3, nI_toInt (by omega), nI_toInt (by omega), nI_toInt (by omega)] at a1; omega
  · rcases hm with ⟨b1, b2, b3⟩ | ⟨b1, b2, b3⟩ | ⟨k2, l2, n2, b1, b2, b3, b4, b5, b6, b7, b8, b9, b0⟩
    · exfalso; omega
    · rw [a2, b2]
    · exfalso; rw [b1, b2, b3, nI_toInt (by omega), nI_toInt (by omega), nI_toInt (by omega)] at a1; omega
  · rcases hm with ⟨b1, b2, b3⟩ | ⟨b1, b2, b3⟩ | ⟨k2, l2, n2, b1, b2, b3, b4, b5, b6, b7, b8, b9, b0⟩
    · exfalso; rw [a1, a2, a3, nI_toInt (by omega), nI_toInt (by omega), nI_toInt (by omega)] at b1; omega
    · exfalso; rw [a1, a2, a3, nI_toInt (by omega), nI_toInt (by omega), nI_toInt (by omega)] at b1; omega
    · rw [a0, b0]
theorem re_sheet {v0 v1 v2 r1 r2 : Int32} {tl : Nat} {ct : Nat → Int} {pe : Nat} {kn : Int32} {ac : Nat} {np : Nat} {kc : Nat} {mN : AM} {pV : Nat → AM} {kV : Nat → AM} {st : Nat → Nat} {sn : Nat → Nat} {sl : Nat → Nat} {scx : Nat → Nat → Int32} {tT : Nat → Option SVal} {ec : Nat → Nat} {er : Nat → Nat} {ed : Nat → Nat → Int32} {eT : Nat → Nat → Option SVal} {eb : Nat → Nat → Int32} {en : Nat → Nat → Int32} {q_undos : Nat} {q_models : Nat} {PGv : Nat → AM} {f_afterOf : Nat → Int32} {f_actMany : Nat → Int32} {f_actOf : Nat → Int32} {f_whom : Nat → Int32} {f_hasIf : Nat → Int32} {f_becomes : Nat → Int32} {f_goneOf : Nat → Int32} {q_taped : Nat} {cr : Nat → Int} {q_people : Nat} {f_secrets : Nat → Int32} {f_lanes : Nat → Int32} {f_lengths : Nat → Int32} {f_cells : Nat → Int32} {f_tokens : Nat → Int32} {f_afters : Nat → Int32} {f_caseMany : Nat → Int32} {f_happen : Nat → Int32} {f_heard : Nat → Int32} {stZ : Nat → Nat} {snZ : Nat → Nat} {slZ : Nat → Nat} {scxZ : Nat → Nat → Int32} {f_lanesZ : Nat → Int32} {f_lengthsZ : Nat → Int32} {f_cellsZ : Nat → Int32} (hx : ((v0.toInt < 0 ∨ 3 < v0.toInt ∨ v1.toInt < 0 ∨ 2 < v1.toInt ∨ 48 < v2.toInt) ∧ r1 = -1 ∧ stZ = st ∧ snZ = sn ∧ slZ = sl ∧ scxZ = scx) ∨ ((0 ≤ v0.toInt ∧ v0.toInt ≤ 3 ∧ 0 ≤ v1.toInt ∧ v1.toInt ≤ 2 ∧ v2.toInt < 0) ∧ r1 = -14 ∧ stZ = st ∧ snZ = sn ∧ slZ = sl ∧ scxZ = scx) ∨ ∃ k_ l_ n_ : Nat, v0 = nI k_ ∧ v1 = nI l_ ∧ v2 = nI n_ ∧ k_ ≤ 3 ∧ l_ ≤ 2 ∧ n_ ≤ 48 ∧ (∀ i, i < 4 → stZ i = if i = k_ then 1 else st i) ∧ (∀ i, i < 4 → snZ i = if i = k_ then n_ else sn i) ∧ (∀ i, i < 4 → slZ i = if i = k_ then l_ else sl i) ∧ (∀ i, i < 4 → i ≠ k_ → scxZ i = scx i) ∧ Z0x n_ (scxZ k_) ∧ r1 = 1) (hm : ((v0.toInt < 0 ∨ 3 < v0.toInt ∨ v1.toInt < 0 ∨ 2 < v1.toInt ∨ 48 < v2.toInt) ∧ r2 = -1 ∧ f_lanesZ = f_lanes ∧ f_lengthsZ = f_lengths ∧ f_cellsZ = f_cells) ∨ ((0 ≤ v0.toInt ∧ v0.toInt ≤ 3 ∧ 0 ≤ v1.toInt ∧ v1.toInt ≤ 2 ∧ v2.toInt < 0) ∧ r2 = -14 ∧ f_lanesZ = f_lanes ∧ f_lengthsZ = f_lengths ∧ f_cellsZ = f_cells) ∨ ∃ k_ l_ n_ : Nat, v0 = nI k_ ∧ v1 = nI l_ ∧ v2 = nI n_ ∧ k_ ≤ 3 ∧ l_ ≤ 2 ∧ n_ ≤ 48 ∧ upd f_lanes k_ (nI l_) = f_lanesZ ∧ upd f_lengths k_ (nI n_) = f_lengthsZ ∧ CZR k_ 48 f_cells f_cellsZ ∧ r2 = 1) (hR : RL_ tl ct pe kn ac np kc mN pV kV st sn sl scx tT ec er ed eT eb en q_undos q_models PGv f_afterOf f_actMany f_actOf f_whom f_hasIf f_becomes f_goneOf q_taped cr q_people f_secrets f_lanes f_lengths f_cells f_tokens f_afters f_caseMany f_happen f_heard) (hb : tl ≤ 160 ∧ q_taped ≤ 160 ∧ pe ≤ 4 ∧ kc ≤ 4 ∧ q_undos ≤ 8) : SHE stZ snZ slZ f_lanesZ f_lengthsZ ∧ CEL stZ snZ scxZ f_cellsZ := by
  rcases hx with ⟨a1, a2, a3⟩ | ⟨a1, a2, a3⟩ | ⟨k1, l1, n1, a1, a2, a3, a4, a5, a6, a7, a8, a9, ac, az, a0⟩
  · rcases hm with ⟨b1, b2, b3⟩ | ⟨b1, b2, b3⟩ | ⟨k2, l2, n2, b1, b2, b3, b4, b5, b6, b7, b8, b9, b0⟩
    · rw [a3.1, a3.2.1, a3.2.2.1, a3.2.2.2, b3.1, b3.2.1, b3.2.2]; exact ⟨hR.2.2.2.2.1, hR.2.2.2.2.2.1⟩
    · exfalso; omega
    · exfalso; rw [b1, b2, b3, nI_toInt (by omega), nI_toInt (by omega), nI_toInt (by omega)] at a1; omega
  · rcases hm with ⟨b1, b2, b3⟩ | ⟨b1, b2, b3⟩ | ⟨k2, l2, n2, b1, b2, b3, b4, b5, b6, b7, b8, b9, b0⟩
    · exfalso; omega
    · rw [a3.1, a3.2.1, a3.2.2.1, a3.2.2.2, b3.1, b3.2.1, b3.2.2]; exact ⟨hR.2.2.2.2.1, hR.2.2.2.2.2.1⟩
    · exfalso; rw [b1, b2, b3, nI_toInt (by omega), nI_toInt (by omega), nI_toInt (by omega)] at a1; omega
  · rcases hm with ⟨b1, b2, b3⟩ | ⟨b1, b2, b3⟩ | ⟨k2, l2, n2, b1, b2, b3, b4, b5, b6, b7, b8, b9, b0⟩
    · exfalso; rw [a1, a2, a3, nI_toInt (by omega), nI_toInt (by omega), nI_toInt (by omega)] at b1; omega
    · exfalso; rw [a1, a2, a3, nI_toInt (by omega), nI_toInt (by omega), nI_toInt (by omega)] at b1; omega
    · have e1 := (nI_eq (by omega) (by omega)).mp (a1.symm.trans b1)
      have e2 := (nI_eq (by omega) (by omega)).mp (a2.symm.trans b2)
      have e3 := (nI_eq (by omega) (by omega)).mp (a3.symm.trans b3)
      subst e1; subst e2; subst e3
      exact ⟨SHE.put hR.2.2.2.2.1 a5 a6 a7 a8 a9 b7 b8, CEL.sheet hR.2.2.2.2.2.1 hR.2.2.2.2.1 a6 a7 a8 ac az b9⟩
theorem eq_write {v0 v1 v2 r1 r2 : Int32} {tl : Nat} {ct : Nat → Int} {pe : Nat} {kn : Int32} {ac : Nat} {np : Nat} {kc : Nat} {mN : AM} {pV : Nat → AM} {kV : Nat → AM} {st : Nat → Nat} {sn : Nat → Nat} {sl : Nat → Nat} {scx : Nat → Nat → Int32} {tT : Nat → Option SVal} {ec : Nat → Nat} {er : Nat → Nat} {ed : Nat → Nat → Int32} {eT : Nat → Nat → Option SVal} {eb : Nat → Nat → Int32} {en : Nat → Nat → Int32} {q_undos : Nat} {q_models : Nat} {PGv : Nat → AM} {f_afterOf : Nat → Int32} {f_actMany : Nat → Int32} {f_actOf : Nat → Int32} {f_whom : Nat → Int32} {f_hasIf : Nat → Int32} {f_becomes : Nat → Int32} {f_goneOf : Nat → Int32} {q_taped : Nat} {cr : Nat → Int} {q_people : Nat} {f_secrets : Nat → Int32} {f_lanes : Nat → Int32} {f_lengths : Nat → Int32} {f_cells : Nat → Int32} {f_tokens : Nat → Int32} {f_afters : Nat → Int32} {f_caseMany : Nat → Int32} {f_happen : Nat → Int32} {f_heard : Nat → Int32} {scxZ : Nat → Nat → Int32} {f_cellsZ : Nat → Int32} (hx : ((v0.toInt < 0 ∨ 3 < v0.toInt) ∧ r1 = -1 ∧ scxZ = scx) ∨ ∃ k_ : Nat, v0 = nI k_ ∧ k_ ≤ 3 ∧ ((st k_ = 0 ∧ r1 = -11 ∧ scxZ = scx) ∨ (st k_ = 1 ∧ (v1.toInt < 0 ∨ ((sn k_ : Nat) : Int) ≤ v1.toInt) ∧ r1 = -12 ∧ scxZ = scx) ∨ (st k_ = 1 ∧ (0 ≤ v1.toInt ∧ v1.toInt < ((sn k_ : Nat) : Int)) ∧ r1 = 1 ∧ ∃ i_ : Nat, v1 = nI i_ ∧ i_ < 48 ∧ (∀ i, i < 4 → i ≠ k_ → scxZ i = scx i) ∧ upd (scx k_) i_ (putv (sl k_) v2) = scxZ k_))) (hm : ((v0.toInt < 0 ∨ 3 < v0.toInt) ∧ r2 = -1 ∧ f_cellsZ = f_cells) ∨ ∃ k_ : Nat, v0 = nI k_ ∧ k_ ≤ 3 ∧ ((f_lanes k_ = -4 ∧ r2 = -11 ∧ f_cellsZ = f_cells) ∨ (f_lanes k_ ≠ -4 ∧ (v1.toInt < 0 ∨ ((cN f_lengths k_ : Nat) : Int) ≤ v1.toInt) ∧ r2 = -12 ∧ f_cellsZ = f_cells) ∨ (f_lanes k_ ≠ -4 ∧ (0 ≤ v1.toInt ∧ v1.toInt < ((cN f_lengths k_ : Nat) : Int)) ∧ r2 = 1 ∧ ∃ i_ : Nat, v1 = nI i_ ∧ i_ < 48 ∧ upd f_cells (48 * k_ + i_) (putw (f_lanes k_) v2) = f_cellsZ))) (hR : RL_ tl ct pe kn ac np kc mN pV kV st sn sl scx tT ec er ed eT eb en q_undos q_models PGv f_afterOf f_actMany f_actOf f_whom f_hasIf f_becomes f_goneOf q_taped cr q_people f_secrets f_lanes f_lengths f_cells f_tokens f_afters f_caseMany f_happen f_heard) (hb : tl ≤ 160 ∧ q_taped ≤ 160 ∧ pe ≤ 4 ∧ kc ≤ 4 ∧ q_undos ≤ 8) : r1 = r2 := by
  rcases hx with ⟨a1, a2, a4⟩ | ⟨k1, a1, a2, a3⟩
  · rcases hm with ⟨b1, b2, b4⟩ | ⟨k2, b1, b2, b3⟩
    · rw [a2, b2]
    · exfalso; rw [b1, nI_toInt (by omega)] at a1; omega
  · rcases hm with ⟨b1, b2, b4⟩ | ⟨k2, b1, b2, b3⟩
    · exfalso; rw [a1, nI_toInt (by omega)] at b1; omega
    · have e1 := (nI_eq (by omega) (by omega)).mp (a1.symm.trans b1)
      subst e1
      have hl := SHE.len hR.2.2.2.2.1 (k := k1) (by omega)
      have hn := SHE.no hR.2.2.2.2.1 (k := k1) (by omega)
      rw [hl] at b3
      rcases a3 with ⟨p1, p2, p4⟩ | ⟨p1, p2, p3, p4⟩ | ⟨p1, p2, p3, p4⟩
      · rcases b3 with ⟨q1, q2, q4⟩ | ⟨q1, q2, q3, q4⟩ | ⟨q1, q2, q3, q4⟩
        · rw [p2, q2]
        · exfalso; rcases hn with ⟨h1, h2⟩ | ⟨h1, h2⟩ <;> first | exact q1 h2 | omega
        · exfalso; rcases hn with ⟨h1, h2⟩ | ⟨h1, h2⟩ <;> first | exact q1 h2 | omega
      · rcases b3 with ⟨q1, q2, q4⟩ | ⟨q1, q2, q3, q4⟩ | ⟨q1, q2, q3, q4⟩
        · exfalso; rcases hn with ⟨h1, h2⟩ | ⟨h1, h2⟩ <;> first | exact h2 q1 | omega
        · rw [p3, q3]
        · exfalso; omega
      · rcases b3 with ⟨q1, q2, q4⟩ | ⟨q1, q2, q3, q4⟩ | ⟨q1, q2, q3, q4⟩
        · exfalso; rcases hn with ⟨h1, h2⟩ | ⟨h1, h2⟩ <;> first | exact h2 q1 | omega
        · exfalso; omega
        · rw [p3, q3]
theorem re_write {v0 v1 v2 r1 r2 : Int32} {tl : Nat} {ct : Nat → Int} {pe : Nat} {kn : Int32} {ac : Nat} {np : Nat} {kc : Nat} {mN : AM} {pV : Nat → AM} {kV : Nat → AM} {st : Nat → Nat} {sn : Nat → Nat} {sl : Nat → Nat} {scx : Nat → Nat → Int32} {tT : Nat → Option SVal} {ec : Nat → Nat} {er : Nat → Nat} {ed : Nat → Nat → Int32} {eT : Nat → Nat → Option SVal} {eb : Nat → Nat → Int32} {en : Nat → Nat → Int32} {q_undos : Nat} {q_models : Nat} {PGv : Nat → AM} {f_afterOf : Nat → Int32} {f_actMany : Nat → Int32} {f_actOf : Nat → Int32} {f_whom : Nat → Int32} {f_hasIf : Nat → Int32} {f_becomes : Nat → Int32} {f_goneOf : Nat → Int32} {q_taped : Nat} {cr : Nat → Int} {q_people : Nat} {f_secrets : Nat → Int32} {f_lanes : Nat → Int32} {f_lengths : Nat → Int32} {f_cells : Nat → Int32} {f_tokens : Nat → Int32} {f_afters : Nat → Int32} {f_caseMany : Nat → Int32} {f_happen : Nat → Int32} {f_heard : Nat → Int32} {scxZ : Nat → Nat → Int32} {f_cellsZ : Nat → Int32} (hx : ((v0.toInt < 0 ∨ 3 < v0.toInt) ∧ r1 = -1 ∧ scxZ = scx) ∨ ∃ k_ : Nat, v0 = nI k_ ∧ k_ ≤ 3 ∧ ((st k_ = 0 ∧ r1 = -11 ∧ scxZ = scx) ∨ (st k_ = 1 ∧ (v1.toInt < 0 ∨ ((sn k_ : Nat) : Int) ≤ v1.toInt) ∧ r1 = -12 ∧ scxZ = scx) ∨ (st k_ = 1 ∧ (0 ≤ v1.toInt ∧ v1.toInt < ((sn k_ : Nat) : Int)) ∧ r1 = 1 ∧ ∃ i_ : Nat, v1 = nI i_ ∧ i_ < 48 ∧ (∀ i, i < 4 → i ≠ k_ → scxZ i = scx i) ∧ upd (scx k_) i_ (putv (sl k_) v2) = scxZ k_))) (hm : ((v0.toInt < 0 ∨ 3 < v0.toInt) ∧ r2 = -1 ∧ f_cellsZ = f_cells) ∨ ∃ k_ : Nat, v0 = nI k_ ∧ k_ ≤ 3 ∧ ((f_lanes k_ = -4 ∧ r2 = -11 ∧ f_cellsZ = f_cells) ∨ (f_lanes k_ ≠ -4 ∧ (v1.toInt < 0 ∨ ((cN f_lengths k_ : Nat) : Int) ≤ v1.toInt) ∧ r2 = -12 ∧ f_cellsZ = f_cells) ∨ (f_lanes k_ ≠ -4 ∧ (0 ≤ v1.toInt ∧ v1.toInt < ((cN f_lengths k_ : Nat) : Int)) ∧ r2 = 1 ∧ ∃ i_ : Nat, v1 = nI i_ ∧ i_ < 48 ∧ upd f_cells (48 * k_ + i_) (putw (f_lanes k_) v2) = f_cellsZ))) (hR : RL_ tl ct pe kn ac np kc mN pV kV st sn sl scx tT ec er ed eT eb en q_undos q_models PGv f_afterOf f_actMany f_actOf f_whom f_hasIf f_becomes f_goneOf q_taped cr q_people f_secrets f_lanes f_lengths f_cells f_tokens f_afters f_caseMany f_happen f_heard) (hb : tl ≤ 160 ∧ q_taped ≤ 160 ∧ pe ≤ 4 ∧ kc ≤ 4 ∧ q_undos ≤ 8) : CEL st sn scxZ f_cellsZ := by
  rcases hx with ⟨a1, a2, a4⟩ | ⟨k1, a1, a2, a3⟩
  · rcases hm with ⟨b1, b2, b4⟩ | ⟨k2, b1, b2, b3⟩
    · rw [a4, b4]; exact hR.2.2.2.2.2.1
    · exfalso; rw [b1, nI_toInt (by omega)] at a1; omega
  · rcases hm with ⟨b1, b2, b4⟩ | ⟨k2, b1, b2, b3⟩
    · exfalso; rw [a1, nI_toInt (by omega)] at b1; omega
    · have e1 := (nI_eq (by omega) (by omega)).mp (a1.symm.trans b1)
      subst e1
      have hl := SHE.len hR.2.2.2.2.1 (k := k1) (by omega)
      have hn := SHE.no hR.2.2.2.2.1 (k := k1) (by omega)
      rw [hl] at b3
      rcases a3 with ⟨p1, p2, p4⟩ | ⟨p1, p2, p3, p4⟩ | ⟨p1, p2, p3, p4⟩
      · rcases b3 with ⟨q1, q2, q4⟩ | ⟨q1, q2, q3, q4⟩ | ⟨q1, q2, q3, q4⟩
        · rw [p4, q4]; exact hR.2.2.2.2.2.1
        · exfalso; rcases hn with ⟨h1, h2⟩ | ⟨h1, h2⟩ <;> first | exact q1 h2 | omega
        · exfalso; rcases hn with ⟨h1, h2⟩ | ⟨h1, h2⟩ <;> first | exact q1 h2 | omega
      · rcases b3 with ⟨q1, q2, q4⟩ | ⟨q1, q2, q3, q4⟩ | ⟨q1, q2, q3, q4⟩
        · exfalso; rcases hn with ⟨h1, h2⟩ | ⟨h1, h2⟩ <;> first | exact h2 q1 | omega
        · rw [p4, q4]; exact hR.2.2.2.2.2.1
        · exfalso; omega
      · rcases b3 with ⟨q1, q2, q4⟩ | ⟨q1, q2, q3, q4⟩ | ⟨q1, q2, q3, q4⟩
        · exfalso; rcases hn with ⟨h1, h2⟩ | ⟨h1, h2⟩ <;> first | exact h2 q1 | omega
        · exfalso; omega
        · obtain ⟨i1, c1, c2, c3, c4⟩ := p4
          obtain ⟨i2, d1, d2, d4⟩ := q4
          have e2 := (nI_eq (by omega) (by omega)).mp (c1.symm.trans d1)
          subst e2
          exact CEL.write hR.2.2.2.2.2.1 hR.2.2.2.2.1 (by omega) p1 c2 c3 c4 d4
theorem eq_read {v0 v1 v2 v3 r1 r2 : Int32} {tl : Nat} {ct : Nat → Int} {pe : Nat} {kn : Int32} {ac : Nat} {np : Nat} {kc : Nat} {mN : AM} {pV : Nat → AM} {kV : Nat → AM} {st : Nat → Nat} {sn : Nat → Nat} {sl : Nat → Nat} {scx : Nat → Nat → Int32} {tT : Nat → Option SVal} {ec : Nat → Nat} {er : Nat → Nat} {ed : Nat → Nat → Int32} {eT : Nat → Nat → Option SVal} {eb : Nat → Nat → Int32} {en : Nat → Nat → Int32} {q_undos : Nat} {q_models : Nat} {PGv : Nat → AM} {f_afterOf : Nat → Int32} {f_actMany : Nat → Int32} {f_actOf : Nat → Int32} {f_whom : Nat → Int32} {f_hasIf : Nat → Int32} {f_becomes : Nat → Int32} {f_goneOf : Nat → Int32} {q_taped : Nat} {cr : Nat → Int} {q_people : Nat} {f_secrets : Nat → Int32} {f_lanes : Nat → Int32} {f_lengths : Nat → Int32} {f_cells : Nat → Int32} {f_tokens : Nat → Int32} {f_afters : Nat → Int32} {f_caseMany : Nat → Int32} {f_happen : Nat → Int32} {f_heard : Nat → Int32} {acZ : Nat} {npZ : Nat} {mNZ : AM} {pVZ : Nat → AM} {q_undosZ : Nat} {PGvZ : Nat → AM} (hx : (((v0.toInt < 0 ∨ 3 < v0.toInt ∨ v1.toInt < 0 ∨ 2 < v1.toInt ∨ v3.toInt < 0 ∨ 24 < v3.toInt) ∧ r1 = -1) ∨ ∃ k_ l_ n_ : Nat, v0 = nI k_ ∧ v1 = nI l_ ∧ v3 = nI n_ ∧ k_ ≤ 3 ∧ l_ ≤ 2 ∧ n_ ≤ 24 ∧ r1 = rdA (st k_) (sl k_) (sn k_) (scx k_) l_ v2 n_) ∧ ((r1.toInt < 0 ∧ (asX mNZ acZ npZ pVZ) = (asX mN ac np pV)) ∨ ∃ k_ n_ : Nat, v0 = nI k_ ∧ k_ ≤ 3 ∧ v3 = nI n_ ∧ n_ ≤ 24 ∧ r1 = nI n_ ∧ (∀ i, i < n_ → 0 ≤ v2.toInt ∧ v2.toInt + i < ((sn k_ : Nat) : Int)) ∧ (asX mNZ acZ npZ pVZ) = aRem (asX mN ac np pV) (aRd (fun i_ => scx k_ (v2.toInt.toNat + i_)) n_))) (hm : (((v0.toInt < 0 ∨ 3 < v0.toInt ∨ v1.toInt < 0 ∨ 2 < v1.toInt ∨ v3.toInt < 0 ∨ 24 < v3.toInt) ∧ r2 = -1) ∨ ∃ k_ l_ n_ : Nat, v0 = nI k_ ∧ v1 = nI l_ ∧ v3 = nI n_ ∧ k_ ≤ 3 ∧ l_ ≤ 2 ∧ n_ ≤ 24 ∧ r2 = rdB (f_lanes k_) (cN f_lengths k_) (fun j => f_cells (48 * k_ + j)) l_ v2 n_) ∧ ((r2.toInt < 0 ∧ asM q_undosZ PGvZ = asM q_undos PGv) ∨ ∃ k_ n_ : Nat, v0 = nI k_ ∧ k_ ≤ 3 ∧ v3 = nI n_ ∧ n_ ≤ 24 ∧ r2 = nI n_ ∧ asM q_undosZ PGvZ = aRem (asM q_undos PGv) (aRd (fun i_ => f_cells (48 * k_ + (v2.toInt.toNat + i_))) n_)) ∧ KP6 PGv PGvZ) (hR : RL_ tl ct pe kn ac np kc mN pV kV st sn sl scx tT ec er ed eT eb en q_undos q_models PGv f_afterOf f_actMany f_actOf f_whom f_hasIf f_becomes f_goneOf q_taped cr q_people f_secrets f_lanes f_lengths f_cells f_tokens f_afters f_caseMany f_happen f_heard) (hb : tl ≤ 160 ∧ q_taped ≤ 160 ∧ pe ≤ 4 ∧ kc ≤ 4 ∧ q_undos ≤ 8) : r1 = r2 := by
  replace hx := hx.1
  replace hm := hm.1
  rcases hx with ⟨a1, a2⟩ | ⟨k1, l1, n1, a1, a2, a3, a4, a5, a6, a7⟩
  · rcases hm with ⟨b1, b2⟩ | ⟨k2, l2, n2, b1, b2, b3, b4, b5, b6, b7⟩
    · rw [a2, b2]
    · exfalso; rw [b1, b2, b3, nI_toInt (by omega), nI_toInt (by omega), nI_toInt (by omega)] at a1; omega
  · rcases hm with ⟨b1, b2⟩ | ⟨k2, l2, n2, b1, b2, b3, b4, b5, b6, b7⟩
    · exfalso; rw [a1, a2, a3, nI_toInt (by omega), nI_toInt (by omega), nI_toInt (by omega)] at b1; omega
    · have e1 := (nI_eq (by omega) (by omega)).mp (a1.symm.trans b1)
      have e2 := (nI_eq (by omega) (by omega)).mp (a2.symm.trans b2)
      have e3 := (nI_eq (by omega) (by omega)).mp (a3.symm.trans b3)
      subst e1; subst e2; subst e3
      rw [a7, b7]
      exact rd_eq hR.2.2.2.2.1 hR.2.2.2.2.2.1 (by omega) a5
theorem re_read {v0 v1 v2 v3 r1 r2 : Int32} {tl : Nat} {ct : Nat → Int} {pe : Nat} {kn : Int32} {ac : Nat} {np : Nat} {kc : Nat} {mN : AM} {pV : Nat → AM} {kV : Nat → AM} {st : Nat → Nat} {sn : Nat → Nat} {sl : Nat → Nat} {scx : Nat → Nat → Int32} {tT : Nat → Option SVal} {ec : Nat → Nat} {er : Nat → Nat} {ed : Nat → Nat → Int32} {eT : Nat → Nat → Option SVal} {eb : Nat → Nat → Int32} {en : Nat → Nat → Int32} {q_undos : Nat} {q_models : Nat} {PGv : Nat → AM} {f_afterOf : Nat → Int32} {f_actMany : Nat → Int32} {f_actOf : Nat → Int32} {f_whom : Nat → Int32} {f_hasIf : Nat → Int32} {f_becomes : Nat → Int32} {f_goneOf : Nat → Int32} {q_taped : Nat} {cr : Nat → Int} {q_people : Nat} {f_secrets : Nat → Int32} {f_lanes : Nat → Int32} {f_lengths : Nat → Int32} {f_cells : Nat → Int32} {f_tokens : Nat → Int32} {f_afters : Nat → Int32} {f_caseMany : Nat → Int32} {f_happen : Nat → Int32} {f_heard : Nat → Int32} {acZ : Nat} {npZ : Nat} {mNZ : AM} {pVZ : Nat → AM} {q_undosZ : Nat} {PGvZ : Nat → AM} (hx : (((v0.toInt < 0 ∨ 3 < v0.toInt ∨ v1.toInt < 0 ∨ 2 < v1.toInt ∨ v3.toInt < 0 ∨ 24 < v3.toInt) ∧ r1 = -1) ∨ ∃ k_ l_ n_ : Nat, v0 = nI k_ ∧ v1 = nI l_ ∧ v3 = nI n_ ∧ k_ ≤ 3 ∧ l_ ≤ 2 ∧ n_ ≤ 24 ∧ r1 = rdA (st k_) (sl k_) (sn k_) (scx k_) l_ v2 n_) ∧ ((r1.toInt < 0 ∧ (asX mNZ acZ npZ pVZ) = (asX mN ac np pV)) ∨ ∃ k_ n_ : Nat, v0 = nI k_ ∧ k_ ≤ 3 ∧ v3 = nI n_ ∧ n_ ≤ 24 ∧ r1 = nI n_ ∧ (∀ i, i < n_ → 0 ≤ v2.toInt ∧ v2.toInt + i < ((sn k_ : Nat) : Int)) ∧ (asX mNZ acZ npZ pVZ) = aRem (asX mN ac np pV) (aRd (fun i_ => scx k_ (v2.toInt.toNat + i_)) n_))) (hm : (((v0.toInt < 0 ∨ 3 < v0.toInt ∨ v1.toInt < 0 ∨ 2 < v1.toInt ∨ v3.toInt < 0 ∨ 24 < v3.toInt) ∧ r2 = -1) ∨ ∃ k_ l_ n_ : Nat, v0 = nI k_ ∧ v1 = nI l_ ∧ v3 = nI n_ ∧ k_ ≤ 3 ∧ l_ ≤ 2 ∧ n_ ≤ 24 ∧ r2 = rdB (f_lanes k_) (cN f_lengths k_) (fun j => f_cells (48 * k_ + j)) l_ v2 n_) ∧ ((r2.toInt < 0 ∧ asM q_undosZ PGvZ = asM q_undos PGv) ∨ ∃ k_ n_ : Nat, v0 = nI k_ ∧ k_ ≤ 3 ∧ v3 = nI n_ ∧ n_ ≤ 24 ∧ r2 = nI n_ ∧ asM q_undosZ PGvZ = aRem (asM q_undos PGv) (aRd (fun i_ => f_cells (48 * k_ + (v2.toInt.toNat + i_))) n_)) ∧ KP6 PGv PGvZ) (hR : RL_ tl ct pe kn ac np kc mN pV kV st sn sl scx tT ec er ed eT eb en q_undos q_models PGv f_afterOf f_actMany f_actOf f_whom f_hasIf f_becomes f_goneOf q_taped cr q_people f_secrets f_lanes f_lengths f_cells f_tokens f_afters f_caseMany f_happen f_heard) (hb : tl ≤ 160 ∧ q_taped ≤ 160 ∧ pe ≤ 4 ∧ kc ≤ 4 ∧ q_undos ≤ 8) : asX mNZ acZ npZ pVZ = asM q_undosZ PGvZ ∧ KEQ q_models kc kV PGvZ := by
  have h8 := hR.2.2.2.2.2.2.2.2.1
  have e := (eq_read hx hm hR hb)
  refine ⟨?_, KEQ.kp6 hR.2.2.2.2.2.2.2.2.2.1 hb.2.2.2.1 hm.2.2⟩
  rcases hx.2 with ⟨a1, a2⟩ | ⟨k1, n1, a1, a2, a3, a4, a5, a6, a7⟩
  · rcases hm.2.1 with ⟨b1, b2⟩ | ⟨k2, n2, b1, b2, b3, b4, b5, b6⟩
    · rw [a2, b2]; exact h8
    · exfalso; rw [e, b5, nI_toInt (by omega)] at a1; omega
  · rcases hm.2.1 with ⟨b1, b2⟩ | ⟨k2, n2, b1, b2, b3, b4, b5, b6⟩
    · exfalso; rw [← e, a5, nI_toInt (by omega)] at b1; omega
    · have e1 := (nI_eq (by omega) (by omega)).mp (a1.symm.trans b1)
      have e2 := (nI_eq (by omega) (by omega)).mp (a3.symm.trans b3)
      subst e1; subst e2
      have hst : st k1 = 1 := by
        rcases hx.1 with ⟨c1, c2⟩ | ⟨k3, l3, n3, c1, c2, c3, c4, c5, c6, c7⟩
        · exfalso
          have h1 := congrArg Int32.toInt (c2.symm.trans a5)
          have e1 : (-1 : Int32).toInt = -1 := rfl
          rw [nI_toInt (by omega)] at h1; omega
        · have e3 := (nI_eq (by omega) (by omega)).mp (a1.symm.trans c1)
          subst e3
          exact rdA_st c7 a5 a4 (SHE.no hR.2.2.2.2.1 (k := k1) (by omega))
      rw [a7, b6, h8]
      congr 1
      refine aRd_cg n1 (fun i hi => ?_)
      have h6 := a6 i hi
      exact hR.2.2.2.2.2.1 k1 (by omega) hst _ (by omega)
theorem re_world {v0 r1 r2 : Int32} {tl : Nat} {ct : Nat → Int} {pe : Nat} {kn : Int32} {ac : Nat} {np : Nat} {kc : Nat} {mN : AM} {pV : Nat → AM} {kV : Nat → AM} {st : Nat → Nat} {sn : Nat → Nat} {sl : Nat → Nat} {scx : Nat → Nat → Int32} {tT : Nat → Option SVal} {ec : Nat → Nat} {er : Nat → Nat} {ed : Nat → Nat → Int32} {eT : Nat → Nat → Option SVal} {eb : Nat → Nat → Int32} {en : Nat → Nat → Int32} {q_undos : Nat} {q_models : Nat} {PGv : Nat → AM} {f_afterOf : Nat → Int32} {f_actMany : Nat → Int32} {f_actOf : Nat → Int32} {f_whom : Nat → Int32} {f_hasIf : Nat → Int32} {f_becomes : Nat → Int32} {f_goneOf : Nat → Int32} {q_taped : Nat} {cr : Nat → Int} {q_people : Nat} {f_secrets : Nat → Int32} {f_lanes : Nat → Int32} {f_lengths : Nat → Int32} {f_cells : Nat → Int32} {f_tokens : Nat → Int32} {f_afters : Nat → Int32} {f_caseMany : Nat → Int32} {f_happen : Nat → Int32} {f_heard : Nat → Int32} {acZ : Nat} {npZ : Nat} {mNZ : AM} {pVZ : Nat → AM} {q_undosZ : Nat} {PGvZ : Nat → AM} (hx : ((asX mNZ acZ npZ pVZ), r1) = opWorld (asX mN ac np pV) v0) (hm : ((asM q_undosZ PGvZ), r2) = opWorld (asM q_undos PGv) v0 ∧ KP6 PGv PGvZ) (hR : RL_ tl ct pe kn ac np kc mN pV kV st sn sl scx tT ec er ed eT eb en q_undos q_models PGv f_afterOf f_actMany f_actOf f_whom f_hasIf f_becomes f_goneOf q_taped cr q_people f_secrets f_lanes f_lengths f_cells f_tokens f_afters f_caseMany f_happen f_heard) (hb : tl ≤ 160 ∧ q_taped ≤ 160 ∧ pe ≤ 4 ∧ kc ≤ 4 ∧ q_undos ≤ 8) : asX mNZ acZ npZ pVZ = asM q_undosZ PGvZ ∧ KEQ q_models kc kV PGvZ := by
  have h8 := hR.2.2.2.2.2.2.2.2.1
  rw [← h8] at hm
  have e := hx.trans hm.1.symm
  exact ⟨congrArg Prod.fst e, KEQ.kp6 hR.2.2.2.2.2.2.2.2.2.1 hb.2.2.2.1 hm.2⟩
theorem eq_world {v0 r1 r2 : Int32} {tl : Nat} {ct : Nat → Int} {pe : Nat} {kn : Int32} {ac : Nat} {np : Nat} {kc : Nat} {mN : AM} {pV : Nat → AM} {kV : Nat → AM} {st : Nat → Nat} {sn : Nat → Nat} {sl : Nat → Nat} {scx : Nat → Nat → Int32} {tT : Nat → Option SVal} {ec : Nat → Nat} {er : Nat → Nat} {ed : Nat → Nat → Int32} {eT : Nat → Nat → Option SVal} {eb : Nat → Nat → Int32} {en : Nat → Nat → Int32} {q_undos : Nat} {q_models : Nat} {PGv : Nat → AM} {f_afterOf : Nat → Int32} {f_actMany : Nat → Int32} {f_actOf : Nat → Int32} {f_whom : Nat → Int32} {f_hasIf : Nat → Int32} {f_becomes : Nat → Int32} {f_goneOf : Nat → Int32} {q_taped : Nat} {cr : Nat → Int} {q_people : Nat} {f_secrets : Nat → Int32} {f_lanes : Nat → Int32} {f_lengths : Nat → Int32} {f_cells : Nat → Int32} {f_tokens : Nat → Int32} {f_afters : Nat → Int32} {f_caseMany : Nat → Int32} {f_happen : Nat → Int32} {f_heard : Nat → Int32} {acZ : Nat} {npZ : Nat} {mNZ : AM} {pVZ : Nat → AM} {q_undosZ : Nat} {PGvZ : Nat → AM} (hx : ((asX mNZ acZ npZ pVZ), r1) = opWorld (asX mN ac np pV) v0) (hm : ((asM q_undosZ PGvZ), r2) = opWorld (asM q_undos PGv) v0 ∧ KP6 PGv PGvZ) (hR : RL_ tl ct pe kn ac np kc mN pV kV st sn sl scx tT ec er ed eT eb en q_undos q_models PGv f_afterOf f_actMany f_actOf f_whom f_hasIf f_becomes f_goneOf q_taped cr q_people f_secrets f_lanes f_lengths f_cells f_tokens f_afters f_caseMany f_happen f_heard) (hb : tl ≤ 160 ∧ q_taped ≤ 160 ∧ pe ≤ 4 ∧ kc ≤ 4 ∧ q_undos ≤ 8) : r1 = r2 := by
  have h8 := hR.2.2.2.2.2.2.2.2.1
  rw [← h8] at hm
  exact congrArg Prod.snd (hx.trans hm.1.symm)
theorem re_sees {v0 v1 v2 v3 v4 r1 r2 : Int32} {tl : Nat} {ct : Nat → Int} {pe : Nat} {kn : Int32} {ac : Nat} {np : Nat} {kc : Nat} {mN : AM} {pV : Nat → AM} {kV : Nat → AM} {st : Nat → Nat} {sn : Nat → Nat} {sl : Nat → Nat} {scx : Nat → Nat → Int32} {tT : Nat → Option SVal} {ec : Nat → Nat} {er : Nat → Nat} {ed : Nat → Nat → Int32} {eT : Nat → Nat → Option SVal} {eb : Nat → Nat → Int32} {en : Nat → Nat → Int32} {q_undos : Nat} {q_models : Nat} {PGv : Nat → AM} {f_afterOf : Nat → Int32} {f_actMany : Nat → Int32} {f_actOf : Nat → Int32} {f_whom : Nat → Int32} {f_hasIf : Nat → Int32} {f_becomes : Nat → Int32} {f_goneOf : Nat → Int32} {q_taped : Nat} {cr : Nat → Int} {q_people : Nat} {f_secrets : Nat → Int32} {f_lanes : Nat → Int32} {f_lengths : Nat → Int32} {f_cells : Nat → Int32} {f_tokens : Nat → Int32} {f_afters : Nat → Int32} {f_caseMany : Nat → Int32} {f_happen : Nat → Int32} {f_heard : Nat → Int32} {acZ : Nat} {npZ : Nat} {mNZ : AM} {pVZ : Nat → AM} {q_undosZ : Nat} {PGvZ : Nat → AM} (hx : ((asX mNZ acZ npZ pVZ), r1) = opSees (asX mN ac np pV) v0 v1 v2 v3 v4) (hm : ((asM q_undosZ PGvZ), r2) = opSees (asM q_undos PGv) v0 v1 v2 v3 v4 ∧ KP6 PGv PGvZ) (hR : RL_ tl ct pe kn ac np kc mN pV kV st sn sl scx tT ec er ed eT eb en q_undos q_models PGv f_afterOf f_actMany f_actOf f_whom f_hasIf f_becomes f_goneOf q_taped cr q_people f_secrets f_lanes f_lengths f_cells f_tokens f_afters f_caseMany f_happen f_heard) (hb : tl ≤ 160 ∧ q_taped ≤ 160 ∧ pe ≤ 4 ∧ kc ≤ 4 ∧ q_undos ≤ 8) : asX mNZ acZ npZ pVZ = asM q_undosZ PGvZ ∧ KEQ q_models kc kV PGvZ := by
  have h8 := hR.2.2.2.2.2.2.2.2.1
  rw [← h8] at hm
  have e := hx.trans hm.1.symm
  exact ⟨congrArg Prod.fst e, KEQ.kp6 hR.2.2.2.2.2.2.2.2.2.1 hb.2.2.2.1 hm.2⟩
theorem eq_sees {v0 v1 v2 v3 v4 r1 r2 : Int32} {tl : Nat} {ct : Nat → Int} {pe : Nat} {kn : Int32} {ac : Nat} {np : Nat} {kc : Nat} {mN : AM} {pV : Nat → AM} {kV : Nat → AM} {st : Nat → Nat} {sn : Nat → Nat} {sl : Nat → Nat} {scx : Nat → Nat → Int32} {tT : Nat → Option SVal} {ec : Nat → Nat} {er : Nat → Nat} {ed : Nat → Nat → Int32} {eT : Nat → Nat → Option SVal} {eb : Nat → Nat → Int32} {en : Nat → Nat → Int32} {q_undos : Nat} {q_models : Nat} {PGv : Nat → AM} {f_afterOf : Nat → Int32} {f_actMany : Nat → Int32} {f_actOf : Nat → Int32} {f_whom : Nat → Int32} {f_hasIf : Nat → Int32} {f_becomes : Nat → Int32} {f_goneOf : Nat → Int32} {q_taped : Nat} {cr : Nat → Int} {q_people : Nat} {f_secrets : Nat → Int32} {f_lanes : Nat → Int32} {f_lengths : Nat → Int32} {f_cells : Nat → Int32} {f_tokens : Nat → Int32} {f_afters : Nat → Int32} {f_caseMany : Nat → Int32} {f_happen : Nat → Int32} {f_heard : Nat → Int32} {acZ : Nat} {npZ : Nat} {mNZ : AM} {pVZ : Nat → AM} {q_undosZ : Nat} {PGvZ : Nat → AM} (hx : ((asX mNZ acZ npZ pVZ), r1) = opSees (asX mN ac np pV) v0 v1 v2 v3 v4) (hm : ((asM q_undosZ PGvZ), r2) = opSees (asM q_undos PGv) v0 v1 v2 v3 v4 ∧ KP6 PGv PGvZ) (hR : RL_ tl ct pe kn ac np kc mN pV kV st sn sl scx tT ec er ed eT eb en q_undos q_models PGv f_afterOf f_actMany f_actOf f_whom f_hasIf f_becomes f_goneOf q_taped cr q_people f_secrets f_lanes f_lengths f_cells f_tokens f_afters f_caseMany f_happen f_heard) (hb : tl ≤ 160 ∧ q_taped ≤ 160 ∧ pe ≤ 4 ∧ kc ≤ 4 ∧ q_undos ≤ 8) : r1 = r2 := by
  have h8 := hR.2.2.2.2.2.2.2.2.1
  rw [← h8] at hm
  exact congrArg Prod.snd (hx.trans hm.1.symm)
theorem re_blind {v0 r1 r2 : Int32} {tl : Nat} {ct : Nat → Int} {pe : Nat} {kn : Int32} {ac : Nat} {np : Nat} {kc : Nat} {mN : AM} {pV : Nat → AM} {kV : Nat → AM} {st : Nat → Nat} {sn : Nat → Nat} {sl : Nat → Nat} {scx : Nat → Nat → Int32} {tT : Nat → Option SVal} {ec : Nat → Nat} {er : Nat → Nat} {ed : Nat → Nat → Int32} {eT : Nat → Nat → Option SVal} {eb : Nat → Nat → Int32} {en : Nat → Nat → Int32} {q_undos : Nat} {q_models : Nat} {PGv : Nat → AM} {f_afterOf : Nat → Int32} {f_actMany : Nat → Int32} {f_actOf : Nat → Int32} {f_whom : Nat → Int32} {f_hasIf : Nat → Int32} {f_becomes : Nat → Int32} {f_goneOf : Nat → Int32} {q_taped : Nat} {cr : Nat → Int} {q_people : Nat} {f_secrets : Nat → Int32} {f_lanes : Nat → Int32} {f_lengths : Nat → Int32} {f_cells : Nat → Int32} {f_tokens : Nat → Int32} {f_afters : Nat → Int32} {f_caseMany : Nat → Int32} {f_happen : Nat → Int32} {f_heard : Nat → Int32} {acZ : Nat} {npZ : Nat} {mNZ : AM} {pVZ : Nat → AM} {q_undosZ : Nat} {PGvZ : Nat → AM} (hx : ((asX mNZ acZ npZ pVZ), r1) = opBlind (asX mN ac np pV) v0) (hm : ((asM q_undosZ PGvZ), r2) = opBlind (asM q_undos PGv) v0 ∧ KP6 PGv PGvZ) (hR : RL_ tl ct pe kn ac np kc mN pV kV st sn sl scx tT ec er ed eT eb en q_undos q_models PGv f_afterOf f_actMany f_actOf f_whom f_hasIf f_becomes f_goneOf q_taped cr q_people f_secrets f_lanes f_lengths f_cells f_tokens f_afters f_caseMany f_happen f_heard) (hb : tl ≤ 160 ∧ q_taped ≤ 160 ∧ pe ≤ 4 ∧ kc ≤ 4 ∧ q_undos ≤ 8) : asX mNZ acZ npZ pVZ = asM q_undosZ PGvZ ∧ KEQ q_models kc kV PGvZ := by
  have h8 := hR.2.2.2.2.2.2.2.2.1
  rw [← h8] at hm
  have e := hx.trans hm.1.symm
  exact ⟨congrArg Prod.fst e, KEQ.kp6 hR.2.2.2.2.2.2.2.2.2.1 hb.2.2.2.1 hm.2⟩
theorem eq_blind {v0 r1 r2 : Int32} {tl : Nat} {ct : Nat → Int} {pe : Nat} {kn : Int32} {ac : Nat} {np : Nat} {kc : Nat} {mN : AM} {pV : Nat → AM} {kV : Nat → AM} {st : Nat → Nat} {sn : Nat → Nat} {sl : Nat → Nat} {scx : Nat → Nat → Int32} {tT : Nat → Option SVal} {ec : Nat → Nat} {er : Nat → Nat} {ed : Nat → Nat → Int32} {eT : Nat → Nat → Option SVal} {eb : Nat → Nat → Int32} {en : Nat → Nat → Int32} {q_undos : Nat} {q_models : Nat} {PGv : Nat → AM} {f_afterOf : Nat → Int32} {f_actMany : Nat → Int32} {f_actOf : Nat → Int32} {f_whom : Nat → Int32} {f_hasIf : Nat → Int32} {f_becomes : Nat → Int32} {f_goneOf : Nat → Int32} {q_taped : Nat} {cr : Nat → Int} {q_people : Nat} {f_secrets : Nat → Int32} {f_lanes : Nat → Int32} {f_lengths : Nat → Int32} {f_cells : Nat → Int32} {f_tokens : Nat → Int32} {f_afters : Nat → Int32} {f_caseMany : Nat → Int32} {f_happen : Nat → Int32} {f_heard : Nat → Int32} {acZ : Nat} {npZ : Nat} {mNZ : AM} {pVZ : Nat → AM} {q_undosZ : Nat} {PGvZ : Nat → AM} (hx : ((asX mNZ acZ npZ pVZ), r1) = opBlind (asX mN ac np pV) v0) (hm : ((asM q_undosZ PGvZ), r2) = opBlind (asM q_undos PGv) v0 ∧ KP6 PGv PGvZ) (hR : RL_ tl ct pe kn ac np kc mN pV kV st sn sl scx tT ec er ed eT eb en q_undos q_models PGv f_afterOf f_actMany f_actOf f_whom f_hasIf f_becomes f_goneOf q_taped cr q_people f_secrets f_lanes f_lengths f_cells f_tokens f_afters f_caseMany f_happen f_heard) (hb : tl ≤ 160 ∧ q_taped ≤ 160 ∧ pe ≤ 4 ∧ kc ≤ 4 ∧ q_undos ≤ 8) : r1 = r2 := by
  have h8 := hR.2.2.2.2.2.2.2.2.1
  rw [← h8] at hm
  exact congrArg Prod.snd (hx.trans hm.1.symm)
theorem re_real {v0 r1 r2 : Int32} {tl : Nat} {ct : Nat → Int} {pe : Nat} {kn : Int32} {ac : Nat} {np : Nat} {kc : Nat} {mN : AM} {pV : Nat → AM} {kV : Nat → AM} {st : Nat → Nat} {sn : Nat → Nat} {sl : Nat → Nat} {scx : Nat → Nat → Int32} {tT : Nat → Option SVal} {ec : Nat → Nat} {er : Nat → Nat} {ed : Nat → Nat → Int32} {eT : Nat → Nat → Option SVal} {eb : Nat → Nat → Int32} {en : Nat → Nat → Int32} {q_undos : Nat} {q_models : Nat} {PGv : Nat → AM} {f_afterOf : Nat → Int32} {f_actMany : Nat → Int32} {f_actOf : Nat → Int32} {f_whom : Nat → Int32} {f_hasIf : Nat → Int32} {f_becomes : Nat → Int32} {f_goneOf : Nat → Int32} {q_taped : Nat} {cr : Nat → Int} {q_people : Nat} {f_secrets : Nat → Int32} {f_lanes : Nat → Int32} {f_lengths : Nat → Int32} {f_cells : Nat → Int32} {f_tokens : Nat → Int32} {f_afters : Nat → Int32} {f_caseMany : Nat → Int32} {f_happen : Nat → Int32} {f_heard : Nat → Int32} {acZ : Nat} {npZ : Nat} {mNZ : AM} {pVZ : Nat → AM} {q_undosZ : Nat} {PGvZ : Nat → AM} (hx : ((asX mNZ acZ npZ pVZ), r1) = opReal (asX mN ac np pV) v0) (hm : ((asM q_undosZ PGvZ), r2) = opReal (asM q_undos PGv) v0 ∧ KP6 PGv PGvZ) (hR : RL_ tl ct pe kn ac np kc mN pV kV st sn sl scx tT ec er ed eT eb en q_undos q_models PGv f_afterOf f_actMany f_actOf f_whom f_hasIf f_becomes f_goneOf q_taped cr q_people f_secrets f_lanes f_lengths f_cells f_tokens f_afters f_caseMany f_happen f_heard) (hb : tl ≤ 160 ∧ q_taped ≤ 160 ∧ pe ≤ 4 ∧ kc ≤ 4 ∧ q_undos ≤ 8) : asX mNZ acZ npZ pVZ = asM q_undosZ PGvZ ∧ KEQ q_models kc kV PGvZ := by
  have h8 := hR.2.2.2.2.2.2.2.2.1
  rw [← h8] at hm
  have e := hx.trans hm.1.symm
  exact ⟨congrArg Prod.fst e, KEQ.kp6 hR.2.2.2.2.2.2.2.2.2.1 hb.2.2.2.1 hm.2⟩
theorem eq_real {v0 r1 r2 : Int32} {tl : Nat} {ct : Nat → Int} {pe : Nat} {kn : Int32} {ac : Nat} {np : Nat} {kc : Nat} {mN : AM} {pV : Nat → AM} {kV : Nat → AM} {st : Nat → Nat} {sn : Nat → Nat} {sl : Nat → Nat} {scx : Nat → Nat → Int32} {tT : Nat → Option SVal} {ec : Nat → Nat} {er : Nat → Nat} {ed : Nat → Nat → Int32} {eT : Nat → Nat → Option SVal} {eb : Nat → Nat → Int32} {en : Nat → Nat → Int32} {q_undos : Nat} {q_models : Nat} {PGv : Nat → AM} {f_afterOf : Nat → Int32} {f_actMany : Nat → Int32} {f_actOf : Nat → Int32} {f_whom : Nat → Int32} {f_hasIf : Nat → Int32} {f_becomes : Nat → Int32} {f_goneOf : Nat → Int32} {q_taped : Nat} {cr : Nat → Int} {q_people : Nat} {f_secrets : Nat → Int32} {f_lanes : Nat → Int32} {f_lengths : Nat → Int32} {f_cells : Nat → Int32} {f_tokens : Nat → Int32} {f_afters : Nat → Int32} {f_caseMany : Nat → Int32} {f_happen : Nat → Int32} {f_heard : Nat → Int32} {acZ : Nat} {npZ : Nat} {mNZ : AM} {pVZ : Nat → AM} {q_undosZ : Nat} {PGvZ : Nat → AM} (hx : ((asX mNZ acZ npZ pVZ), r1) = opReal (asX mN ac np pV) v0) (hm : ((asM q_undosZ PGvZ), r2) = opReal (asM q_undos PGv) v0 ∧ KP6 PGv PGvZ) (hR : RL_ tl ct pe kn ac np kc mN pV kV st sn sl scx tT ec er ed eT eb en q_undos q_models PGv f_afterOf f_actMany f_actOf f_whom f_hasIf f_becomes f_goneOf q_taped cr q_people f_secrets f_lanes f_lengths f_cells f_tokens f_afters f_caseMany f_happen f_heard) (hb : tl ≤ 160 ∧ q_taped ≤ 160 ∧ pe ≤ 4 ∧ kc ≤ 4 ∧ q_undos ≤ 8) : r1 = r2 := by
  have h8 := hR.2.2.2.2.2.2.2.2.1
  rw [← h8] at hm
  exact congrArg Prod.snd (hx.trans hm.1.symm)
theorem re_lay {v0 r1 r2 : Int32} {tl : Nat} {ct : Nat → Int} {pe : Nat} {kn : Int32} {ac : Nat} {np : Nat} {kc : Nat} {mN : AM} {pV : Nat → AM} {kV : Nat → AM} {st : Nat → Nat} {sn : Nat → Nat} {sl : Nat → Nat} {scx : Nat → Nat → Int32} {tT : Nat → Option SVal} {ec : Nat → Nat} {er : Nat → Nat} {ed : Nat → Nat → Int32} {eT : Nat → Nat → Option SVal} {eb : Nat → Nat → Int32} {en : Nat → Nat → Int32} {q_undos : Nat} {q_models : Nat} {PGv : Nat → AM} {f_afterOf : Nat → Int32} {f_actMany : Nat → Int32} {f_actOf : Nat → Int32} {f_whom : Nat → Int32} {f_hasIf : Nat → Int32} {f_becomes : Nat → Int32} {f_goneOf : Nat → Int32} {q_taped : Nat} {cr : Nat → Int} {q_people : Nat} {f_secrets : Nat → Int32} {f_lanes : Nat → Int32} {f_lengths : Nat → Int32} {f_cells : Nat → Int32} {f_tokens : Nat → Int32} {f_afters : Nat → Int32} {f_caseMany : Nat → Int32} {f_happen : Nat → Int32} {f_heard : Nat → Int32} {acZ : Nat} {npZ : Nat} {mNZ : AM} {pVZ : Nat → AM} {q_undosZ : Nat} {PGvZ : Nat → AM} (hx : ((asX mNZ acZ npZ pVZ), r1) = opLay (asX mN ac np pV) (ev6 ec er eT eb en ed) v0) (hm : ((asM q_undosZ PGvZ), r2) = opLay (asM q_undos PGv) (rEv f_caseMany f_happen f_hasIf f_actMany f_actOf f_whom f_becomes f_goneOf f_heard) v0 ∧ KP6 PGv PGvZ) (hR : RL_ tl ct pe kn ac np kc mN pV kV st sn sl scx tT ec er ed eT eb en q_undos q_models PGv f_afterOf f_actMany f_actOf f_whom f_hasIf f_becomes f_goneOf q_taped cr q_people f_secrets f_lanes f_lengths f_cells f_tokens f_afters f_caseMany f_happen f_heard) (hb : tl ≤ 160 ∧ q_taped ≤ 160 ∧ pe ≤ 4 ∧ kc ≤ 4 ∧ q_undos ≤ 8) : asX mNZ acZ npZ pVZ = asM q_undosZ PGvZ ∧ KEQ q_models kc kV PGvZ := by
  have h8 := hR.2.2.2.2.2.2.2.2.1
  rw [← h8, ← lay_cg (IVQ.esq hR.2.2.2.2.2.2.2.2.2.2.2.1 hR.2.2.2.2.2.2.1)] at hm
  have e := hx.trans hm.1.symm
  exact ⟨congrArg Prod.fst e, KEQ.kp6 hR.2.2.2.2.2.2.2.2.2.1 hb.2.2.2.1 hm.2⟩
theorem eq_lay {v0 r1 r2 : Int32} {tl : Nat} {ct : Nat → Int} {pe : Nat} {kn : Int32} {ac : Nat} {np : Nat} {kc : Nat} {mN : AM} {pV : Nat → AM} {kV : Nat → AM} {st : Nat → Nat} {sn : Nat → Nat} {sl : Nat → Nat} {scx : Nat → Nat → Int32} {tT : Nat → Option SVal} {ec : Nat → Nat} {er : Nat → Nat} {ed : Nat → Nat → Int32} {eT : Nat → Nat → Option SVal} {eb : Nat → Nat → Int32} {en : Nat → Nat → Int32} {q_undos : Nat} {q_models : Nat} {PGv : Nat → AM} {f_afterOf : Nat → Int32} {f_actMany : Nat → Int32} {f_actOf : Nat → Int32} {f_whom : Nat → Int32} {f_hasIf : Nat → Int32} {f_becomes : Nat → Int32} {f_goneOf : Nat → Int32} {q_taped : Nat} {cr : Nat → Int} {q_people : Nat} {f_secrets : Nat → Int32} {f_lanes : Nat → Int32} {f_lengths : Nat → Int32} {f_cells : Nat → Int32} {f_tokens : Nat → Int32} {f_afters : Nat → Int32} {f_caseMany : Nat → Int32} {f_happen : Nat → Int32} {f_heard : Nat → Int32} {acZ : Nat} {npZ : Nat} {mNZ : AM} {pVZ : Nat → AM} {q_undosZ : Nat} {PGvZ : Nat → AM} (hx : ((asX mNZ acZ npZ pVZ), r1) = opLay (asX mN ac np pV) (ev6 ec er eT eb en ed) v0) (hm : ((asM q_undosZ PGvZ), r2) = opLay (asM q_undos PGv) (rEv f_caseMany f_happen f_hasIf f_actMany f_actOf f_whom f_becomes f_goneOf f_heard) v0 ∧ KP6 PGv PGvZ) (hR : RL_ tl ct pe kn ac np kc mN pV kV st sn sl scx tT ec er ed eT eb en q_undos q_models PGv f_afterOf f_actMany f_actOf f_whom f_hasIf f_becomes f_goneOf q_taped cr q_people f_secrets f_lanes f_lengths f_cells f_tokens f_afters f_caseMany f_happen f_heard) (hb : tl ≤ 160 ∧ q_taped ≤ 160 ∧ pe ≤ 4 ∧ kc ≤ 4 ∧ q_undos ≤ 8) : r1 = r2 := by
  have h8 := hR.2.2.2.2.2.2.2.2.1
  rw [← h8, ← lay_cg (IVQ.esq hR.2.2.2.2.2.2.2.2.2.2.2.1 hR.2.2.2.2.2.2.1)] at hm
  exact congrArg Prod.snd (hx.trans hm.1.symm)
theorem re_melt {r1 r2 : Int32} {tl : Nat} {ct : Nat → Int} {pe : Nat} {kn : Int32} {ac : Nat} {np : Nat} {kc : Nat} {mN : AM} {pV : Nat → AM} {kV : Nat → AM} {st : Nat → Nat} {sn : Nat → Nat} {sl : Nat → Nat} {scx : Nat → Nat → Int32} {tT : Nat → Option SVal} {ec : Nat → Nat} {er : Nat → Nat} {ed : Nat → Nat → Int32} {eT : Nat → Nat → Option SVal} {eb : Nat → Nat → Int32} {en : Nat → Nat → Int32} {q_undos : Nat} {q_models : Nat} {PGv : Nat → AM} {f_afterOf : Nat → Int32} {f_actMany : Nat → Int32} {f_actOf : Nat → Int32} {f_whom : Nat → Int32} {f_hasIf : Nat → Int32} {f_becomes : Nat → Int32} {f_goneOf : Nat → Int32} {q_taped : Nat} {cr : Nat → Int} {q_people : Nat} {f_secrets : Nat → Int32} {f_lanes : Nat → Int32} {f_lengths : Nat → Int32} {f_cells : Nat → Int32} {f_tokens : Nat → Int32} {f_afters : Nat → Int32} {f_caseMany : Nat → Int32} {f_happen : Nat → Int32} {f_heard : Nat → Int32} {acZ : Nat} {npZ : Nat} {mNZ : AM} {pVZ : Nat → AM} {q_undosZ : Nat} {PGvZ : Nat → AM} (hx : ((asX mNZ acZ npZ pVZ), r1) = opMelt (asX mN ac np pV)) (hm : ((asM q_undosZ PGvZ), r2) = opMelt (asM q_undos PGv) ∧ KP6 PGv PGvZ) (hR : RL_ tl ct pe kn ac np kc mN pV kV st sn sl scx tT ec er ed eT eb en q_undos q_models PGv f_afterOf f_actMany f_actOf f_whom f_hasIf f_becomes f_goneOf q_taped cr q_people f_secrets f_lanes f_lengths f_cells f_tokens f_afters f_caseMany f_happen f_heard) (hb : tl ≤ 160 ∧ q_taped ≤ 160 ∧ pe ≤ 4 ∧ kc ≤ 4 ∧ q_undos ≤ 8) : asX mNZ acZ npZ pVZ = asM q_undosZ PGvZ ∧ KEQ q_models kc kV PGvZ := by
  have h8 := hR.2.2.2.2.2.2.2.2.1
  rw [← h8] at hm
  have e := hx.trans hm.1.symm
  exact ⟨congrArg Prod.fst e, KEQ.kp6 hR.2.2.2.2.2.2.2.2.2.1 hb.2.2.2.1 hm.2⟩
theorem eq_melt {r1 r2 : Int32} {tl : Nat} {ct : Nat → Int} {pe : Nat} {kn : Int32} {ac : Nat} {np : Nat} {kc : Nat} {mN : AM} {pV : Nat → AM} {kV : Nat → AM} {st : Nat → Nat} {sn : Nat → Nat} {sl : Nat → Nat} {scx : Nat → Nat → Int32} {tT : Nat → Option SVal} {ec : Nat → Nat} {er : Nat → Nat} {ed : Nat → Nat → Int32} {eT : Nat → Nat → Option SVal} {eb : Nat → Nat → Int32} {en : Nat → Nat → Int32} {q_undos : Nat} {q_models : Nat} {PGv : Nat → AM} {f_afterOf : Nat → Int32} {f_actMany : Nat → Int32} {f_actOf : Nat → Int32} {f_whom : Nat → Int32} {f_hasIf : Nat → Int32} {f_becomes : Nat → Int32} {f_goneOf : Nat → Int32} {q_taped : Nat} {cr : Nat → Int} {q_people : Nat} {f_secrets : Nat → Int32} {f_lanes : Nat → Int32} {f_lengths : Nat → Int32} {f_cells : Nat → Int32} {f_tokens : Nat → Int32} {f_afters : Nat → Int32} {f_caseMany : Nat → Int32} {f_happen : Nat → Int32} {f_heard : Nat → Int32} {acZ : Nat} {npZ : Nat} {mNZ : AM} {pVZ : Nat → AM} {q_undosZ : Nat} {PGvZ : Nat → AM} (hx : ((asX mNZ acZ npZ pVZ), r1) = opMelt (asX mN ac np pV)) (hm : ((asM q_undosZ PGvZ), r2) = opMelt (asM q_undos PGv) ∧ KP6 PGv PGvZ) (hR : RL_ tl ct pe kn ac np kc mN pV kV st sn sl scx tT ec er ed eT eb en q_undos q_models PGv f_afterOf f_actMany f_actOf f_whom f_hasIf f_becomes f_goneOf q_taped cr q_people f_secrets f_lanes f_lengths f_cells f_tokens f_afters f_caseMany f_happen f_heard) (hb : tl ≤ 160 ∧ q_taped ≤ 160 ∧ pe ≤ 4 ∧ kc ≤ 4 ∧ q_undos ≤ 8) : r1 = r2 := by
  have h8 := hR.2.2.2.2.2.2.2.2.1
  rw [← h8] at hm
  exact congrArg Prod.snd (hx.trans hm.1.symm)
theorem re_turn {v0 v1 r1 r2 : Int32} {tl : Nat} {ct : Nat → Int} {pe : Nat} {kn : Int32} {ac : Nat} {np : Nat} {kc : Nat} {mN : AM} {pV : Nat → AM} {kV : Nat → AM} {st : Nat → Nat} {sn : Nat → Nat} {sl : Nat → Nat} {scx : Nat → Nat → Int32} {tT : Nat → Option SVal} {ec : Nat → Nat} {er : Nat → Nat} {ed : Nat → Nat → Int32} {eT : Nat → Nat → Option SVal} {eb : Nat → Nat → Int32} {en : Nat → Nat → Int32} {q_undos : Nat} {q_models : Nat} {PGv : Nat → AM} {f_afterOf : Nat → Int32} {f_actMany : Nat → Int32} {f_actOf : Nat → Int32} {f_whom : Nat → Int32} {f_hasIf : Nat → Int32} {f_becomes : Nat → Int32} {f_goneOf : Nat → Int32} {q_taped : Nat} {cr : Nat → Int} {q_people : Nat} {f_secrets : Nat → Int32} {f_lanes : Nat → Int32} {f_lengths : Nat → Int32} {f_cells : Nat → Int32} {f_tokens : Nat → Int32} {f_afters : Nat → Int32} {f_caseMany : Nat → Int32} {f_happen : Nat → Int32} {f_heard : Nat → Int32} {acZ : Nat} {npZ : Nat} {mNZ : AM} {pVZ : Nat → AM} {q_undosZ : Nat} {PGvZ : Nat → AM} (hx : ((asX mNZ acZ npZ pVZ), r1) = opTurn (asX mN ac np pV) (ev6 ec er eT eb en ed) tT v0 v1) (hm : ((asM q_undosZ PGvZ), r2) = opTurn (asM q_undos PGv) (rEv f_caseMany f_happen f_hasIf f_actMany f_actOf f_whom f_becomes f_goneOf f_heard) (rTT f_tokens f_actMany f_actOf f_whom f_afterOf f_afters) v0 v1 ∧ KP6 PGv PGvZ) (hR : RL_ tl ct pe kn ac np kc mN pV kV st sn sl scx tT ec er ed eT eb en q_undos q_models PGv f_afterOf f_actMany f_actOf f_whom f_hasIf f_becomes f_goneOf q_taped cr q_people f_secrets f_lanes f_lengths f_cells f_tokens f_afters f_caseMany f_happen f_heard) (hb : tl ≤ 160 ∧ q_taped ≤ 160 ∧ pe ≤ 4 ∧ kc ≤ 4 ∧ q_undos ≤ 8) : asX mNZ acZ npZ pVZ = asM q_undosZ PGvZ ∧ KEQ q_models kc kV PGvZ := by
  have h8 := hR.2.2.2.2.2.2.2.2.1
  rw [← h8, ← turn_cg (TVQ.tq hR.2.2.2.2.2.2.2.2.2.2.1) (IVQ.esq hR.2.2.2.2.2.2.2.2.2.2.2.1 hR.2.2.2.2.2.2.1)] at hm
  have e := hx.trans hm.1.symm
  exact ⟨congrArg Prod.fst e, KEQ.kp6 hR.2.2.2.2.2.2.2.2.2.1 hb.2.2.2.1 hm.2⟩
theorem eq_turn {v0 v1 r1 r2 : Int32} {tl : Nat} {ct : Nat → Int} {pe : Nat} {kn : Int32} {ac : Nat} {np : Nat} {kc : Nat} {mN : AM} {pV : Nat → AM} {kV : Nat → AM} {st : Nat → Nat} {sn : Nat → Nat} {sl : Nat → Nat} {scx : Nat → Nat → Int32} {tT : Nat → Option SVal} {ec : Nat → Nat} {er : Nat → Nat} {ed : Nat → Nat → Int32} {eT : Nat → Nat → Option SVal} {eb : Nat → Nat → Int32} {en : Nat → Nat → Int32} {q_undos : Nat} {q_models : Nat} {PGv : Nat → AM} {f_afterOf : Nat → Int32} {f_actMany : Nat → Int32} {f_actOf : Nat → Int32} {f_whom : Nat → Int32} {f_hasIf : Nat → Int32} {f_becomes : Nat → Int32} {f_goneOf : Nat → Int32} {q_taped : Nat} {cr : Nat → Int} {q_people : Nat} {f_secrets : Nat → Int32} {f_lanes : Nat → Int32} {f_lengths : Nat → Int32} {f_cells : Nat → Int32} {f_tokens : Nat → Int32} {f_afters : Nat → Int32} {f_caseMany : Nat → Int32} {f_happen : Nat → Int32} {f_heard : Nat → Int32} {acZ : Nat} {npZ : Nat} {mNZ : AM} {pVZ : Nat → AM} {q_undosZ : Nat} {PGvZ : Nat → AM} (hx : ((asX mNZ acZ npZ pVZ), r1) = opTurn (asX mN ac np pV) (ev6 ec er eT eb en ed) tT v0 v1) (hm : ((asM q_undosZ PGvZ), r2) = opTurn (asM q_undos PGv) (rEv f_caseMany f_happen f_hasIf f_actMany f_actOf f_whom f_becomes f_goneOf f_heard) (rTT f_tokens f_actMany f_actOf f_whom f_afterOf f_afters) v0 v1 ∧ KP6 PGv PGvZ) (hR : RL_ tl ct pe kn ac np kc mN pV kV st sn sl scx tT ec er ed eT eb en q_undos q_models PGv f_afterOf f_actMany f_actOf f_whom f_hasIf f_becomes f_goneOf q_taped cr q_people f_secrets f_lanes f_lengths f_cells f_tokens f_afters f_caseMany f_happen f_heard) (hb : tl ≤ 160 ∧ q_taped ≤ 160 ∧ pe ≤ 4 ∧ kc ≤ 4 ∧ q_undos ≤ 8) : r1 = r2 := by
  have h8 := hR.2.2.2.2.2.2.2.2.1
  rw [← h8, ← turn_cg (TVQ.tq hR.2.2.2.2.2.2.2.2.2.2.1) (IVQ.esq hR.2.2.2.2.2.2.2.2.2.2.2.1 hR.2.2.2.2.2.2.1)] at hm
  exact congrArg Prod.snd (hx.trans hm.1.symm)
theorem re_undo {r1 r2 : Int32} {tl : Nat} {ct : Nat → Int} {pe : Nat} {kn : Int32} {ac : Nat} {np : Nat} {kc : Nat} {mN : AM} {pV : Nat → AM} {kV : Nat → AM} {st : Nat → Nat} {sn : Nat → Nat} {sl : Nat → Nat} {scx : Nat → Nat → Int32} {tT : Nat → Option SVal} {ec : Nat → Nat} {er : Nat → Nat} {ed : Nat → Nat → Int32} {eT : Nat → Nat → Option SVal} {eb : Nat → Nat → Int32} {en : Nat → Nat → Int32} {q_undos : Nat} {q_models : Nat} {PGv : Nat → AM} {f_afterOf : Nat → Int32} {f_actMany : Nat → Int32} {f_actOf : Nat → Int32} {f_whom : Nat → Int32} {f_hasIf : Nat → Int32} {f_becomes : Nat → Int32} {f_goneOf : Nat → Int32} {q_taped : Nat} {cr : Nat → Int} {q_people : Nat} {f_secrets : Nat → Int32} {f_lanes : Nat → Int32} {f_lengths : Nat → Int32} {f_cells : Nat → Int32} {f_tokens : Nat → Int32} {f_afters : Nat → Int32} {f_caseMany : Nat → Int32} {f_happen : Nat → Int32} {f_heard : Nat → Int32} {acZ : Nat} {npZ : Nat} {mNZ : AM} {pVZ : Nat → AM} {q_undosZ : Nat} {PGvZ : Nat → AM} (hx : ((asX mNZ acZ npZ pVZ), r1) = opUndo (asX mN ac np pV)) (hm : ((asM q_undosZ PGvZ), r2) = opUndo (asM q_undos PGv) ∧ KP6 PGv PGvZ) (hR : RL_ tl ct pe kn ac np kc mN pV kV st sn sl scx tT ec er ed eT eb en q_undos q_models PGv f_afterOf f_actMany f_actOf f_whom f_hasIf f_becomes f_goneOf q_taped cr q_people f_secrets f_lanes f_lengths f_cells f_tokens f_afters f_caseMany f_happen f_heard) (hb : tl ≤ 160 ∧ q_taped ≤ 160 ∧ pe ≤ 4 ∧ kc ≤ 4 ∧ q_undos ≤ 8) : asX mNZ acZ npZ pVZ = asM q_undosZ PGvZ ∧ KEQ q_models kc kV PGvZ := by
  have h8 := hR.2.2.2.2.2.2.2.2.1
  rw [← h8] at hm
  have e := hx.trans hm.1.symm
  exact ⟨congrArg Prod.fst e, KEQ.kp6 hR.2.2.2.2.2.2.2.2.2.1 hb.2.2.2.1 hm.2⟩
theorem eq_undo {r1 r2 : Int32} {tl : Nat} {ct : Nat → Int} {pe : Nat} {kn : Int32} {ac : Nat} {np : Nat} {kc : Nat} {mN : AM} {pV : Nat → AM} {kV : Nat → AM} {st : Nat → Nat} {sn : Nat → Nat} {sl : Nat → Nat} {scx : Nat → Nat → Int32} {tT : Nat → Option SVal} {ec : Nat → Nat} {er : Nat → Nat} {ed : Nat → Nat → Int32} {eT : Nat → Nat → Option SVal} {eb : Nat → Nat → Int32} {en : Nat → Nat → Int32} {q_undos : Nat} {q_models : Nat} {PGv : Nat → AM} {f_afterOf : Nat → Int32} {f_actMany : Nat → Int32} {f_actOf : Nat → Int32} {f_whom : Nat → Int32} {f_hasIf : Nat → Int32} {f_becomes : Nat → Int32} {f_goneOf : Nat → Int32} {q_taped : Nat} {cr : Nat → Int} {q_people : Nat} {f_secrets : Nat → Int32} {f_lanes : Nat → Int32} {f_lengths : Nat → Int32} {f_cells : Nat → Int32} {f_tokens : Nat → Int32} {f_afters : Nat → Int32} {f_caseMany : Nat → Int32} {f_happen : Nat → Int32} {f_heard : Nat → Int32} {acZ : Nat} {npZ : Nat} {mNZ : AM} {pVZ : Nat → AM} {q_undosZ : Nat} {PGvZ : Nat → AM} (hx : ((asX mNZ acZ npZ pVZ), r1) = opUndo (asX mN ac np pV)) (hm : ((asM q_undosZ PGvZ), r2) = opUndo (asM q_undos PGv) ∧ KP6 PGv PGvZ) (hR : RL_ tl ct pe kn ac np kc mN pV kV st sn sl scx tT ec er ed eT eb en q_undos q_models PGv f_afterOf f_actMany f_actOf f_whom f_hasIf f_becomes f_goneOf q_taped cr q_people f_secrets f_lanes f_lengths f_cells f_tokens f_afters f_caseMany f_happen f_heard) (hb : tl ≤ 160 ∧ q_taped ≤ 160 ∧ pe ≤ 4 ∧ kc ≤ 4 ∧ q_undos ≤ 8) : r1 = r2 := by
  have h8 := hR.2.2.2.2.2.2.2.2.1
  rw [← h8] at hm
  exact congrArg Prod.snd (hx.trans hm.1.symm)
theorem re_stand {v0 r1 r2 : Int32} {tl : Nat} {ct : Nat → Int} {pe : Nat} {kn : Int32} {ac : Nat} {np : Nat} {kc : Nat} {mN : AM} {pV : Nat → AM} {kV : Nat → AM} {st : Nat → Nat} {sn : Nat → Nat} {sl : Nat → Nat} {scx : Nat → Nat → Int32} {tT : Nat → Option SVal} {ec : Nat → Nat} {er : Nat → Nat} {ed : Nat → Nat → Int32} {eT : Nat → Nat → Option SVal} {eb : Nat → Nat → Int32} {en : Nat → Nat → Int32} {q_undos : Nat} {q_models : Nat} {PGv : Nat → AM} {f_afterOf : Nat → Int32} {f_actMany : Nat → Int32} {f_actOf : Nat → Int32} {f_whom : Nat → Int32} {f_hasIf : Nat → Int32} {f_becomes : Nat → Int32} {f_goneOf : Nat → Int32} {q_taped : Nat} {cr : Nat → Int} {q_people : Nat} {f_secrets : Nat → Int32} {f_lanes : Nat → Int32} {f_lengths : Nat → Int32} {f_cells : Nat → Int32} {f_tokens : Nat → Int32} {f_afters : Nat → Int32} {f_caseMany : Nat → Int32} {f_happen : Nat → Int32} {f_heard : Nat → Int32} {acZ : Nat} {npZ : Nat} {mNZ : AM} {pVZ : Nat → AM} {q_undosZ : Nat} {PGvZ : Nat → AM} (hx : ((asX mNZ acZ npZ pVZ), r1) = opStand (asX mN ac np pV) kc kV v0) (hm : ((asM q_undosZ PGvZ), r2) = opStand (asM q_undos PGv) q_models (fun i => PGv (6 + i)) v0 ∧ KP6 PGv PGvZ) (hR : RL_ tl ct pe kn ac np kc mN pV kV st sn sl scx tT ec er ed eT eb en q_undos q_models PGv f_afterOf f_actMany f_actOf f_whom f_hasIf f_becomes f_goneOf q_taped cr q_people f_secrets f_lanes f_lengths f_cells f_tokens f_afters f_caseMany f_happen f_heard) (hb : tl ≤ 160 ∧ q_taped ≤ 160 ∧ pe ≤ 4 ∧ kc ≤ 4 ∧ q_undos ≤ 8) : asX mNZ acZ npZ pVZ = asM q_undosZ PGvZ ∧ KEQ q_models kc kV PGvZ := by
  have h8 := hR.2.2.2.2.2.2.2.2.1
  rw [← h8, ← KEQ.stand hR.2.2.2.2.2.2.2.2.2.1 hb.2.2.2.1] at hm
  have e := hx.trans hm.1.symm
  exact ⟨congrArg Prod.fst e, KEQ.kp6 hR.2.2.2.2.2.2.2.2.2.1 hb.2.2.2.1 hm.2⟩
theorem eq_stand {v0 r1 r2 : Int32} {tl : Nat} {ct : Nat → Int} {pe : Nat} {kn : Int32} {ac : Nat} {np : Nat} {kc : Nat} {mN : AM} {pV : Nat → AM} {kV : Nat → AM} {st : Nat → Nat} {sn : Nat → Nat} {sl : Nat → Nat} {scx : Nat → Nat → Int32} {tT : Nat → Option SVal} {ec : Nat → Nat} {er : Nat → Nat} {ed : Nat → Nat → Int32} {eT : Nat → Nat → Option SVal} {eb : Nat → Nat → Int32} {en : Nat → Nat → Int32} {q_undos : Nat} {q_models : Nat} {PGv : Nat → AM} {f_afterOf : Nat → Int32} {f_actMany : Nat → Int32} {f_actOf : Nat → Int32} {f_whom : Nat → Int32} {f_hasIf : Nat → Int32} {f_becomes : Nat → Int32} {f_goneOf : Nat → Int32} {q_taped : Nat} {cr : Nat → Int} {q_people : Nat} {f_secrets : Nat → Int32} {f_lanes : Nat → Int32} {f_lengths : Nat → Int32} {f_cells : Nat → Int32} {f_tokens : Nat → Int32} {f_afters : Nat → Int32} {f_caseMany : Nat → Int32} {f_happen : Nat → Int32} {f_heard : Nat → Int32} {acZ : Nat} {npZ : Nat} {mNZ : AM} {pVZ : Nat → AM} {q_undosZ : Nat} {PGvZ : Nat → AM} (hx : ((asX mNZ acZ npZ pVZ), r1) = opStand (asX mN ac np pV) kc kV v0) (hm : ((asM q_undosZ PGvZ), r2) = opStand (asM q_undos PGv) q_models (fun i => PGv (6 + i)) v0 ∧ KP6 PGv PGvZ) (hR : RL_ tl ct pe kn ac np kc mN pV kV st sn sl scx tT ec er ed eT eb en q_undos q_models PGv f_afterOf f_actMany f_actOf f_whom f_hasIf f_becomes f_goneOf q_taped cr q_people f_secrets f_lanes f_lengths f_cells f_tokens f_afters f_caseMany f_happen f_heard) (hb : tl ≤ 160 ∧ q_taped ≤ 160 ∧ pe ≤ 4 ∧ kc ≤ 4 ∧ q_undos ≤ 8) : r1 = r2 := by
  have h8 := hR.2.2.2.2.2.2.2.2.1
  rw [← h8, ← KEQ.stand hR.2.2.2.2.2.2.2.2.2.1 hb.2.2.2.1] at hm
  exact congrArg Prod.snd (hx.trans hm.1.symm)
theorem eq_of {v0 v1 r1 r2 : Int32} {tl : Nat} {ct : Nat → Int} {pe : Nat} {kn : Int32} {ac : Nat} {np : Nat} {kc : Nat} {mN : AM} {pV : Nat → AM} {kV : Nat → AM} {st : Nat → Nat} {sn : Nat → Nat} {sl : Nat → Nat} {scx : Nat → Nat → Int32} {tT : Nat → Option SVal} {ec : Nat → Nat} {er : Nat → Nat} {ed : Nat → Nat → Int32} {eT : Nat → Nat → Option SVal} {eb : Nat → Nat → Int32} {en : Nat → Nat → Int32} {q_undos : Nat} {q_models : Nat} {PGv : Nat → AM} {f_afterOf : Nat → Int32} {f_actMany : Nat → Int32} {f_actOf : Nat → Int32} {f_whom : Nat → Int32} {f_hasIf : Nat → Int32} {f_becomes : Nat → Int32} {f_goneOf : Nat → Int32} {q_taped : Nat} {cr : Nat → Int} {q_people : Nat} {f_secrets : Nat → Int32} {f_lanes : Nat → Int32} {f_lengths : Nat → Int32} {f_cells : Nat → Int32} {f_tokens : Nat → Int32} {f_afters : Nat → Int32} {f_caseMany : Nat → Int32} {f_happen : Nat → Int32} {f_heard : Nat → Int32} (hx : r1 = ansOf mN v0 v1) (hm : r2 = ansOf (PGv 0) v0 v1) (hR : RL_ tl ct pe kn ac np kc mN pV kV st sn sl scx tT ec er ed eT eb en q_undos q_models PGv f_afterOf f_actMany f_actOf f_whom f_hasIf f_becomes f_goneOf q_taped cr q_people f_secrets f_lanes f_lengths f_cells f_tokens f_afters f_caseMany f_happen f_heard) (hb : tl ≤ 160 ∧ q_taped ≤ 160 ∧ pe ≤ 4 ∧ kc ≤ 4 ∧ q_undos ≤ 8) : r1 = r2 := by
  have hM : mN = PGv 0 := congrArg Prod.fst hR.2.2.2.2.2.2.2.2.1
  rw [hx, hm, hM]
theorem eq_reach {v0 v1 r1 r2 : Int32} {tl : Nat} {ct : Nat → Int} {pe : Nat} {kn : Int32} {ac : Nat} {np : Nat} {kc : Nat} {mN : AM} {pV : Nat → AM} {kV : Nat → AM} {st : Nat → Nat} {sn : Nat → Nat} {sl : Nat → Nat} {scx : Nat → Nat → Int32} {tT : Nat → Option SVal} {ec : Nat → Nat} {er : Nat → Nat} {ed : Nat → Nat → Int32} {eT : Nat → Nat → Option SVal} {eb : Nat → Nat → Int32} {en : Nat → Nat → Int32} {q_undos : Nat} {q_models : Nat} {PGv : Nat → AM} {f_afterOf : Nat → Int32} {f_actMany : Nat → Int32} {f_actOf : Nat → Int32} {f_whom : Nat → Int32} {f_hasIf : Nat → Int32} {f_becomes : Nat → Int32} {f_goneOf : Nat → Int32} {q_taped : Nat} {cr : Nat → Int} {q_people : Nat} {f_secrets : Nat → Int32} {f_lanes : Nat → Int32} {f_lengths : Nat → Int32} {f_cells : Nat → Int32} {f_tokens : Nat → Int32} {f_afters : Nat → Int32} {f_caseMany : Nat → Int32} {f_happen : Nat → Int32} {f_heard : Nat → Int32} (hx : r1 = ansReach mN v0 v1) (hm : r2 = ansReach (PGv 0) v0 v1) (hR : RL_ tl ct pe kn ac np kc mN pV kV st sn sl scx tT ec er ed eT eb en q_undos q_models PGv f_afterOf f_actMany f_actOf f_whom f_hasIf f_becomes f_goneOf q_taped cr q_people f_secrets f_lanes f_lengths f_cells f_tokens f_afters f_caseMany f_happen f_heard) (hb : tl ≤ 160 ∧ q_taped ≤ 160 ∧ pe ≤ 4 ∧ kc ≤ 4 ∧ q_undos ≤ 8) : r1 = r2 := by
  have hM : mN = PGv 0 := congrArg Prod.fst hR.2.2.2.2.2.2.2.2.1
  rw [hx, hm, hM]
theorem eq_classes {r1 r2 : Int32} {tl : Nat} {ct : Nat → Int} {pe : Nat} {kn : Int32} {ac : Nat} {np : Nat} {kc : Nat} {mN : AM} {pV : Nat → AM} {kV : Nat → AM} {st : Nat → Nat} {sn : Nat → Nat} {sl : Nat → Nat} {scx : Nat → Nat → Int32} {tT : Nat → Option SVal} {ec : Nat → Nat} {er : Nat → Nat} {ed : Nat → Nat → Int32} {eT : Nat → Nat → Option SVal} {eb : Nat → Nat → Int32} {en : Nat → Nat → Int32} {q_undos : Nat} {q_models : Nat} {PGv : Nat → AM} {f_afterOf : Nat → Int32} {f_actMany : Nat → Int32} {f_actOf : Nat → Int32} {f_whom : Nat → Int32} {f_hasIf : Nat → Int32} {f_becomes : Nat → Int32} {f_goneOf : Nat → Int32} {q_taped : Nat} {cr : Nat → Int} {q_people : Nat} {f_secrets : Nat → Int32} {f_lanes : Nat → Int32} {f_lengths : Nat → Int32} {f_cells : Nat → Int32} {f_tokens : Nat → Int32} {f_afters : Nat → Int32} {f_caseMany : Nat → Int32} {f_happen : Nat → Int32} {f_heard : Nat → Int32} (hx : r1 = ansClasses mN) (hm : r2 = ansClasses (PGv 0)) (hR : RL_ tl ct pe kn ac np kc mN pV kV st sn sl scx tT ec er ed eT eb en q_undos q_models PGv f_afterOf f_actMany f_actOf f_whom f_hasIf f_becomes f_goneOf q_taped cr q_people f_secrets f_lanes f_lengths f_cells f_tokens f_afters f_caseMany f_happen f_heard) (hb : tl ≤ 160 ∧ q_taped ≤ 160 ∧ pe ≤ 4 ∧ kc ≤ 4 ∧ q_undos ≤ 8) : r1 = r2 := by
  have hM : mN = PGv 0 := congrArg Prod.fst hR.2.2.2.2.2.2.2.2.1
  rw [hx, hm, hM]
theorem eq_classOf {v0 r1 r2 : Int32} {tl : Nat} {ct : Nat → Int} {pe : Nat} {kn : Int32} {ac : Nat} {np : Nat} {kc : Nat} {mN : AM} {pV : Nat → AM} {kV : Nat → AM} {st : Nat → Nat} {sn : Nat → Nat} {sl : Nat → Nat} {scx : Nat → Nat → Int32} {tT : Nat → Option SVal} {ec : Nat → Nat} {er : Nat → Nat} {ed : Nat → Nat → Int32} {eT : Nat → Nat → Option SVal} {eb : Nat → Nat → Int32} {en : Nat → Nat → Int32} {q_undos : Nat} {q_models : Nat} {PGv : Nat → AM} {f_afterOf : Nat → Int32} {f_actMany : Nat → Int32} {f_actOf : Nat → Int32} {f_whom : Nat → Int32} {f_hasIf : Nat → Int32} {f_becomes : Nat → Int32} {f_goneOf : Nat → Int32} {q_taped : Nat} {cr : Nat → Int} {q_people : Nat} {f_secrets : Nat → Int32} {f_lanes : Nat → Int32} {f_lengths : Nat → Int32} {f_cells : Nat → Int32} {f_tokens : Nat → Int32} {f_afters : Nat → Int32} {f_caseMany : Nat → Int32} {f_happen : Nat → Int32} {f_heard : Nat → Int32} (hx : r1 = ansClassOf mN v0) (hm : r2 = ansClassOf (PGv 0) v0) (hR : RL_ tl ct pe kn ac np kc mN pV kV st sn sl scx tT ec er ed eT eb en q_undos q_models PGv f_afterOf f_actMany f_actOf f_whom f_hasIf f_becomes f_goneOf q_taped cr q_people f_secrets f_lanes f_lengths f_cells f_tokens f_afters f_caseMany f_happen f_heard) (hb : tl ≤ 160 ∧ q_taped ≤ 160 ∧ pe ≤ 4 ∧ kc ≤ 4 ∧ q_undos ≤ 8) : r1 = r2 := by
  have hM : mN = PGv 0 := congrArg Prod.fst hR.2.2.2.2.2.2.2.2.1
  rw [hx, hm, hM]
theorem eq_depth {v0 v1 r1 r2 : Int32} {tl : Nat} {ct : Nat → Int} {pe : Nat} {kn : Int32} {ac : Nat} {np : Nat} {kc : Nat} {mN : AM} {pV : Nat → AM} {kV : Nat → AM} {st : Nat → Nat} {sn : Nat → Nat} {sl : Nat → Nat} {scx : Nat → Nat → Int32} {tT : Nat → Option SVal} {ec : Nat → Nat} {er : Nat → Nat} {ed : Nat → Nat → Int32} {eT : Nat → Nat → Option SVal} {eb : Nat → Nat → Int32} {en : Nat → Nat → Int32} {q_undos : Nat} {q_models : Nat} {PGv : Nat → AM} {f_afterOf : Nat → Int32} {f_actMany : Nat → Int32} {f_actOf : Nat → Int32} {f_whom : Nat → Int32} {f_hasIf : Nat → Int32} {f_becomes : Nat → Int32} {f_goneOf : Nat → Int32} {q_taped : Nat} {cr : Nat → Int} {q_people : Nat} {f_secrets : Nat → Int32} {f_lanes : Nat → Int32} {f_lengths : Nat → Int32} {f_cells : Nat → Int32} {f_tokens : Nat → Int32} {f_afters : Nat → Int32} {f_caseMany : Nat → Int32} {f_happen : Nat → Int32} {f_heard : Nat → Int32} (hx : ansDep mN v0 v1 r1) (hm : ansDep (PGv 0) v0 v1 r2) (hR : RL_ tl ct pe kn ac np kc mN pV kV st sn sl scx tT ec er ed eT eb en q_undos q_models PGv f_afterOf f_actMany f_actOf f_whom f_hasIf f_becomes f_goneOf q_taped cr q_people f_secrets f_lanes f_lengths f_cells f_tokens f_afters f_caseMany f_happen f_heard) (hb : tl ≤ 160 ∧ q_taped ≤ 160 ∧ pe ≤ 4 ∧ kc ≤ 4 ∧ q_undos ≤ 8) : r1 = r2 := by
  have hM : mN = PGv 0 := congrArg Prod.fst hR.2.2.2.2.2.2.2.2.1
  rw [hM] at hx
  exact dep_un hx hm
theorem eq_truth {v0 r1 r2 : Int32} {tl : Nat} {ct : Nat → Int} {pe : Nat} {kn : Int32} {ac : Nat} {np : Nat} {kc : Nat} {mN : AM} {pV : Nat → AM} {kV : Nat → AM} {st : Nat → Nat} {sn : Nat → Nat} {sl : Nat → Nat} {scx : Nat → Nat → Int32} {tT : Nat → Option SVal} {ec : Nat → Nat} {er : Nat → Nat} {ed : Nat → Nat → Int32} {eT : Nat → Nat → Option SVal} {eb : Nat → Nat → Int32} {en : Nat → Nat → Int32} {q_undos : Nat} {q_models : Nat} {PGv : Nat → AM} {f_afterOf : Nat → Int32} {f_actMany : Nat → Int32} {f_actOf : Nat → Int32} {f_whom : Nat → Int32} {f_hasIf : Nat → Int32} {f_becomes : Nat → Int32} {f_goneOf : Nat → Int32} {q_taped : Nat} {cr : Nat → Int} {q_people : Nat} {f_secrets : Nat → Int32} {f_lanes : Nat → Int32} {f_lengths : Nat → Int32} {f_cells : Nat → Int32} {f_tokens : Nat → Int32} {f_afters : Nat → Int32} {f_caseMany : Nat → Int32} {f_happen : Nat → Int32} {f_heard : Nat → Int32} {PGvZ : Nat → AM} (hx : r1 = ansTruth mN (ev6 ec er eT eb en ed) tT v0) (hm : r2 = ansTruth (PGv 0) (rEv f_caseMany f_happen f_hasIf f_actMany f_actOf f_whom f_becomes f_goneOf f_heard) (rTT f_tokens f_actMany f_actOf f_whom f_afterOf f_afters) v0 ∧ KPA 0 PGv PGvZ) (hR : RL_ tl ct pe kn ac np kc mN pV kV st sn sl scx tT ec er ed eT eb en q_undos q_models PGv f_afterOf f_actMany f_actOf f_whom f_hasIf f_becomes f_goneOf q_taped cr q_people f_secrets f_lanes f_lengths f_cells f_tokens f_afters f_caseMany f_happen f_heard) (hb : tl ≤ 160 ∧ q_taped ≤ 160 ∧ pe ≤ 4 ∧ kc ≤ 4 ∧ q_undos ≤ 8) : r1 = r2 := by
  have hM : mN = PGv 0 := congrArg Prod.fst hR.2.2.2.2.2.2.2.2.1
  rw [hx, hm.1, hM]
  exact tru_cg (TVQ.tq hR.2.2.2.2.2.2.2.2.2.2.1) (IVQ.esq hR.2.2.2.2.2.2.2.2.2.2.2.1 hR.2.2.2.2.2.2.1)
theorem eq_holds {v0 r1 r2 : Int32} {tl : Nat} {ct : Nat → Int} {pe : Nat} {kn : Int32} {ac : Nat} {np : Nat} {kc : Nat} {mN : AM} {pV : Nat → AM} {kV : Nat → AM} {st : Nat → Nat} {sn : Nat → Nat} {sl : Nat → Nat} {scx : Nat → Nat → Int32} {tT : Nat → Option SVal} {ec : Nat → Nat} {er : Nat → Nat} {ed : Nat → Nat → Int32} {eT : Nat → Nat → Option SVal} {eb : Nat → Nat → Int32} {en : Nat → Nat → Int32} {q_undos : Nat} {q_models : Nat} {PGv : Nat → AM} {f_afterOf : Nat → Int32} {f_actMany : Nat → Int32} {f_actOf : Nat → Int32} {f_whom : Nat → Int32} {f_hasIf : Nat → Int32} {f_becomes : Nat → Int32} {f_goneOf : Nat → Int32} {q_taped : Nat} {cr : Nat → Int} {q_people : Nat} {f_secrets : Nat → Int32} {f_lanes : Nat → Int32} {f_lengths : Nat → Int32} {f_cells : Nat → Int32} {f_tokens : Nat → Int32} {f_afters : Nat → Int32} {f_caseMany : Nat → Int32} {f_happen : Nat → Int32} {f_heard : Nat → Int32} {PGvZ : Nat → AM} (hx : r1 = ansHolds mN (ev6 ec er eT eb en ed) tT v0) (hm : r2 = ansHolds (PGv 0) (rEv f_caseMany f_happen f_hasIf f_actMany f_actOf f_whom f_becomes f_goneOf f_heard) (rTT f_tokens f_actMany f_actOf f_whom f_afterOf f_afters) v0 ∧ KPA 0 PGv PGvZ) (hR : RL_ tl ct pe kn ac np kc mN pV kV st sn sl scx tT ec er ed eT eb en q_undos q_models PGv f_afterOf f_actMany f_actOf f_whom f_hasIf f_becomes f_goneOf q_taped cr q_people f_secrets f_lanes f_lengths f_cells f_tokens f_afters f_caseMany f_happen f_heard) (hb : tl ≤ 160 ∧ q_taped ≤ 160 ∧ pe ≤ 4 ∧ kc ≤ 4 ∧ q_undos ≤ 8) : r1 = r2 := by
  have hM : mN = PGv 0 := congrArg Prod.fst hR.2.2.2.2.2.2.2.2.1
  rw [hx, hm.1, hM]
  exact hol_cg (TVQ.tq hR.2.2.2.2.2.2.2.2.2.2.1) (IVQ.esq hR.2.2.2.2.2.2.2.2.2.2.2.1 hR.2.2.2.2.2.2.1)
theorem eq_turns {v0 v1 v2 r1 r2 : Int32} {tl : Nat} {ct : Nat → Int} {pe : Nat} {kn : Int32} {ac : Nat} {np : Nat} {kc : Nat} {mN : AM} {pV : Nat → AM} {kV : Nat → AM} {st : Nat → Nat} {sn : Nat → Nat} {sl : Nat → Nat} {scx : Nat → Nat → Int32} {tT : Nat → Option SVal} {ec : Nat → Nat} {er : Nat → Nat} {ed : Nat → Nat → Int32} {eT : Nat → Nat → Option SVal} {eb : Nat → Nat → Int32} {en : Nat → Nat → Int32} {q_undos : Nat} {q_models : Nat} {PGv : Nat → AM} {f_afterOf : Nat → Int32} {f_actMany : Nat → Int32} {f_actOf : Nat → Int32} {f_whom : Nat → Int32} {f_hasIf : Nat → Int32} {f_becomes : Nat → Int32} {f_goneOf : Nat → Int32} {q_taped : Nat} {cr : Nat → Int} {q_people : Nat} {f_secrets : Nat → Int32} {f_lanes : Nat → Int32} {f_lengths : Nat → Int32} {f_cells : Nat → Int32} {f_tokens : Nat → Int32} {f_afters : Nat → Int32} {f_caseMany : Nat → Int32} {f_happen : Nat → Int32} {f_heard : Nat → Int32} {PGvZ : Nat → AM} (hx : TUR mN (ev6 ec er eT eb en ed) tT v0 v1 v2 r1) (hm : TUR (PGv 0) (rEv f_caseMany f_happen f_hasIf f_actMany f_actOf f_whom f_becomes f_goneOf f_heard) (rTT f_tokens f_actMany f_actOf f_whom f_afterOf f_afters) v0 v1 v2 r2 ∧ KPA 0 PGv PGvZ) (hR : RL_ tl ct pe kn ac np kc mN pV kV st sn sl scx tT ec er ed eT eb en q_undos q_models PGv f_afterOf f_actMany f_actOf f_whom f_hasIf f_becomes f_goneOf q_taped cr q_people f_secrets f_lanes f_lengths f_cells f_tokens f_afters f_caseMany f_happen f_heard) (hb : tl ≤ 160 ∧ q_taped ≤ 160 ∧ pe ≤ 4 ∧ kc ≤ 4 ∧ q_undos ≤ 8) : r1 = r2 := by
  have hM : mN = PGv 0 := congrArg Prod.fst hR.2.2.2.2.2.2.2.2.1
  rw [hM] at hx
  exact TUR.uniq (TUR_cg (TVQ.tq hR.2.2.2.2.2.2.2.2.2.2.1) (IVQ.esq hR.2.2.2.2.2.2.2.2.2.2.2.1 hR.2.2.2.2.2.2.1) hx) hm.1
theorem eq_plan {v0 v1 v2 v3 r1 r2 : Int32} {tl : Nat} {ct : Nat → Int} {pe : Nat} {kn : Int32} {ac : Nat} {np : Nat} {kc : Nat} {mN : AM} {pV : Nat → AM} {kV : Nat → AM} {st : Nat → Nat} {sn : Nat → Nat} {sl : Nat → Nat} {scx : Nat → Nat → Int32} {tT : Nat → Option SVal} {ec : Nat → Nat} {er : Nat → Nat} {ed : Nat → Nat → Int32} {eT : Nat → Nat → Option SVal} {eb : Nat → Nat → Int32} {en : Nat → Nat → Int32} {q_undos : Nat} {q_models : Nat} {PGv : Nat → AM} {f_afterOf : Nat → Int32} {f_actMany : Nat → Int32} {f_actOf : Nat → Int32} {f_whom : Nat → Int32} {f_hasIf : Nat → Int32} {f_becomes : Nat → Int32} {f_goneOf : Nat → Int32} {q_taped : Nat} {cr : Nat → Int} {q_people : Nat} {f_secrets : Nat → Int32} {f_lanes : Nat → Int32} {f_lengths : Nat → Int32} {f_cells : Nat → Int32} {f_tokens : Nat → Int32} {f_afters : Nat → Int32} {f_caseMany : Nat → Int32} {f_happen : Nat → Int32} {f_heard : Nat → Int32} {PGvZ : Nat → AM} (hx : PLA mN (ev6 ec er eT eb en ed) tT v0 v1 v2 v3 r1) (hm : PLA (PGv 0) (rEv f_caseMany f_happen f_hasIf f_actMany f_actOf f_whom f_becomes f_goneOf f_heard) (rTT f_tokens f_actMany f_actOf f_whom f_afterOf f_afters) v0 v1 v2 v3 r2 ∧ KPA 0 PGv PGvZ) (hR : RL_ tl ct pe kn ac np kc mN pV kV st sn sl scx tT ec er ed eT eb en q_undos q_models PGv f_afterOf f_actMany f_actOf f_whom f_hasIf f_becomes f_goneOf q_taped cr q_people f_secrets f_lanes f_lengths f_cells f_tokens f_afters f_caseMany f_happen f_heard) (hb : tl ≤ 160 ∧ q_taped ≤ 160 ∧ pe ≤ 4 ∧ kc ≤ 4 ∧ q_undos ≤ 8) : r1 = r2 := by
  have hM : mN = PGv 0 := congrArg Prod.fst hR.2.2.2.2.2.2.2.2.1
  rw [hM] at hx
  exact PLA.uniq (PLA_cg (TVQ.tq hR.2.2.2.2.2.2.2.2.2.2.1) (IVQ.esq hR.2.2.2.2.2.2.2.2.2.2.2.1 hR.2.2.2.2.2.2.1) hx) hm.1
theorem eq_same {v0 r1 r2 : Int32} {tl : Nat} {ct : Nat → Int} {pe : Nat} {kn : Int32} {ac : Nat} {np : Nat} {kc : Nat} {mN : AM} {pV : Nat → AM} {kV : Nat → AM} {st : Nat → Nat} {sn : Nat → Nat} {sl : Nat → Nat} {scx : Nat → Nat → Int32} {tT : Nat → Option SVal} {ec : Nat → Nat} {er : Nat → Nat} {ed : Nat → Nat → Int32} {eT : Nat → Nat → Option SVal} {eb : Nat → Nat → Int32} {en : Nat → Nat → Int32} {q_undos : Nat} {q_models : Nat} {PGv : Nat → AM} {f_afterOf : Nat → Int32} {f_actMany : Nat → Int32} {f_actOf : Nat → Int32} {f_whom : Nat → Int32} {f_hasIf : Nat → Int32} {f_becomes : Nat → Int32} {f_goneOf : Nat → Int32} {q_taped : Nat} {cr : Nat → Int} {q_people : Nat} {f_secrets : Nat → Int32} {f_lanes : Nat → Int32} {f_lengths : Nat → Int32} {f_cells : Nat → Int32} {f_tokens : Nat → Int32} {f_afters : Nat → Int32} {f_caseMany : Nat → Int32} {f_happen : Nat → Int32} {f_heard : Nat → Int32} (hx : r1 = ansSame mN kc kV v0) (hm : r2 = ansSame (PGv 0) q_models (fun i => PGv (6 + i)) v0) (hR : RL_ tl ct pe kn ac np kc mN pV kV st sn sl scx tT ec er ed eT eb en q_undos q_models PGv f_afterOf f_actMany f_actOf f_whom f_hasIf f_becomes f_goneOf q_taped cr q_people f_secrets f_lanes f_lengths f_cells f_tokens f_afters f_caseMany f_happen f_heard) (hb : tl ≤ 160 ∧ q_taped ≤ 160 ∧ pe ≤ 4 ∧ kc ≤ 4 ∧ q_undos ≤ 8) : r1 = r2 := by
  have hM : mN = PGv 0 := congrArg Prod.fst hR.2.2.2.2.2.2.2.2.1
  rw [hx, hm, hM]
  exact KEQ.same hR.2.2.2.2.2.2.2.2.2.1 hb.2.2.2.1
theorem re_truth {v0 r1 r2 : Int32} {tl : Nat} {ct : Nat → Int} {pe : Nat} {kn : Int32} {ac : Nat} {np : Nat} {kc : Nat} {mN : AM} {pV : Nat → AM} {kV : Nat → AM} {st : Nat → Nat} {sn : Nat → Nat} {sl : Nat → Nat} {scx : Nat → Nat → Int32} {tT : Nat → Option SVal} {ec : Nat → Nat} {er : Nat → Nat} {ed : Nat → Nat → Int32} {eT : Nat → Nat → Option SVal} {eb : Nat → Nat → Int32} {en : Nat → Nat → Int32} {q_undos : Nat} {q_models : Nat} {PGv : Nat → AM} {f_afterOf : Nat → Int32} {f_actMany : Nat → Int32} {f_actOf : Nat → Int32} {f_whom : Nat → Int32} {f_hasIf : Nat → Int32} {f_becomes : Nat → Int32} {f_goneOf : Nat → Int32} {q_taped : Nat} {cr : Nat → Int} {q_people : Nat} {f_secrets : Nat → Int32} {f_lanes : Nat → Int32} {f_lengths : Nat → Int32} {f_cells : Nat → Int32} {f_tokens : Nat → Int32} {f_afters : Nat → Int32} {f_caseMany : Nat → Int32} {f_happen : Nat → Int32} {f_heard : Nat → Int32} {PGvZ : Nat → AM} (hx : r1 = ansTruth mN (ev6 ec er eT eb en ed) tT v0) (hm : r2 = ansTruth (PGv 0) (rEv f_caseMany f_happen f_hasIf f_actMany f_actOf f_whom f_becomes f_goneOf f_heard) (rTT f_tokens f_actMany f_actOf f_whom f_afterOf f_afters) v0 ∧ KPA 0 PGv PGvZ) (hR : RL_ tl ct pe kn ac np kc mN pV kV st sn sl scx tT ec er ed eT eb en q_undos q_models PGv f_afterOf f_actMany f_actOf f_whom f_hasIf f_becomes f_goneOf q_taped cr q_people f_secrets f_lanes f_lengths f_cells f_tokens f_afters f_caseMany f_happen f_heard) (hb : tl ≤ 160 ∧ q_taped ≤ 160 ∧ pe ≤ 4 ∧ kc ≤ 4 ∧ q_undos ≤ 8) : asX mN ac np pV = asM q_undos PGvZ ∧ KEQ q_models kc kV PGvZ := by
  exact ⟨hR.2.2.2.2.2.2.2.2.1.trans (asM_kpa hb.2.2.2.2 hm.2).symm, KEQ.kp6 hR.2.2.2.2.2.2.2.2.2.1 hb.2.2.2.1 (KP6.of hm.2)⟩
theorem re_holds {v0 r1 r2 : Int32} {tl : Nat} {ct : Nat → Int} {pe : Nat} {kn : Int32} {ac : Nat} {np : Nat} {kc : Nat} {mN : AM} {pV : Nat → AM} {kV : Nat → AM} {st : Nat → Nat} {sn : Nat → Nat} {sl : Nat → Nat} {scx : Nat → Nat → Int32} {tT : Nat → Option SVal} {ec : Nat → Nat} {er : Nat → Nat} {ed : Nat → Nat → Int32} {eT : Nat → Nat → Option SVal} {eb : Nat → Nat → Int32} {en : Nat → Nat → Int32} {q_undos : Nat} {q_models : Nat} {PGv : Nat → AM} {f_afterOf : Nat → Int32} {f_actMany : Nat → Int32} {f_actOf : Nat → Int32} {f_whom : Nat → Int32} {f_hasIf : Nat → Int32} {f_becomes : Nat → Int32} {f_goneOf : Nat → Int32} {q_taped : Nat} {cr : Nat → Int} {q_people : Nat} {f_secrets : Nat → Int32} {f_lanes : Nat → Int32} {f_lengths : Nat → Int32} {f_cells : Nat → Int32} {f_tokens : Nat → Int32} {f_afters : Nat → Int32} {f_caseMany : Nat → Int32} {f_happen : Nat → Int32} {f_heard : Nat → Int32} {PGvZ : Nat → AM} (hx : r1 = ansHolds mN (ev6 ec er eT eb en ed) tT v0) (hm : r2 = ansHolds (PGv 0) (rEv f_caseMany f_happen f_hasIf f_actMany f_actOf f_whom f_becomes f_goneOf f_heard) (rTT f_tokens f_actMany f_actOf f_whom f_afterOf f_afters) v0 ∧ KPA 0 PGv PGvZ) (hR : RL_ tl ct pe kn ac np kc mN pV kV st sn sl scx tT ec er ed eT eb en q_undos q_models PGv f_afterOf f_actMany f_actOf f_whom f_hasIf f_becomes f_goneOf q_taped cr q_people f_secrets f_lanes f_lengths f_cells f_tokens f_afters f_caseMany f_happen f_heard) (hb : tl ≤ 160 ∧ q_taped ≤ 160 ∧ pe ≤ 4 ∧ kc ≤ 4 ∧ q_undos ≤ 8) : asX mN ac np pV = asM q_undos PGvZ ∧ KEQ q_models kc kV PGvZ := by
  exact ⟨hR.2.2.2.2.2.2.2.2.1.trans (asM_kpa hb.2.2.2.2 hm.2).symm, KEQ.kp6 hR.2.2.2.2.2.2.2.2.2.1 hb.2.2.2.1 (KP6.of hm.2)⟩
theorem re_turns {v0 v1 v2 r1 r2 : Int32} {tl : Nat} {ct : Nat → Int} {pe : Nat} {kn : Int32} {ac : Nat} {np : Nat} {kc : Nat} {mN : AM} {pV : Nat → AM} {kV : Nat → AM} {st : Nat → Nat} {sn : Nat → Nat} {sl : Nat → Nat} {scx : Nat → Nat → Int32} {tT : Nat → Option SVal} {ec : Nat → Nat} {er : Nat → Nat} {ed : Nat → Nat → Int32} {eT : Nat → Nat → Option SVal} {eb : Nat → Nat → Int32} {en : Nat → Nat → Int32} {q_undos : Nat} {q_models : Nat} {PGv : Nat → AM} {f_afterOf : Nat → Int32} {f_actMany : Nat → Int32} {f_actOf : Nat → Int32} {f_whom : Nat → Int32} {f_hasIf : Nat → Int32} {f_becomes : Nat → Int32} {f_goneOf : Nat → Int32} {q_taped : Nat} {cr : Nat → Int} {q_people : Nat} {f_secrets : Nat → Int32} {f_lanes : Nat → Int32} {f_lengths : Nat → Int32} {f_cells : Nat → Int32} {f_tokens : Nat → Int32} {f_afters : Nat → Int32} {f_caseMany : Nat → Int32} {f_happen : Nat → Int32} {f_heard : Nat → Int32} {PGvZ : Nat → AM} (hx : TUR mN (ev6 ec er eT eb en ed) tT v0 v1 v2 r1) (hm : TUR (PGv 0) (rEv f_caseMany f_happen f_hasIf f_actMany f_actOf f_whom f_becomes f_goneOf f_heard) (rTT f_tokens f_actMany f_actOf f_whom f_afterOf f_afters) v0 v1 v2 r2 ∧ KPA 0 PGv PGvZ) (hR : RL_ tl ct pe kn ac np kc mN pV kV st sn sl scx tT ec er ed eT eb en q_undos q_models PGv f_afterOf f_actMany f_actOf f_whom f_hasIf f_becomes f_goneOf q_taped cr q_people f_secrets f_lanes f_lengths f_cells f_tokens f_afters f_caseMany f_happen f_heard) (hb : tl ≤ 160 ∧ q_taped ≤ 160 ∧ pe ≤ 4 ∧ kc ≤ 4 ∧ q_undos ≤ 8) : asX mN ac np pV = asM q_undos PGvZ ∧ KEQ q_models kc kV PGvZ := by
  exact ⟨hR.2.2.2.2.2.2.2.2.1.trans (asM_kpa hb.2.2.2.2 hm.2).symm, KEQ.kp6 hR.2.2.2.2.2.2.2.2.2.1 hb.2.2.2.1 (KP6.of hm.2)⟩
theorem re_plan {v0 v1 v2 v3 r1 r2 : Int32} {tl : Nat} {ct : Nat → Int} {pe : Nat} {kn : Int32} {ac : Nat} {np : Nat} {kc : Nat} {mN : AM} {pV : Nat → AM} {kV : Nat → AM} {st : Nat → Nat} {sn : Nat → Nat} {sl : Nat → Nat} {scx : Nat → Nat → Int32} {tT : Nat → Option SVal} {ec : Nat → Nat} {er : Nat → Nat} {ed : Nat → Nat → Int32} {eT : Nat → Nat → Option SVal} {eb : Nat → Nat → Int32} {en : Nat → Nat → Int32} {q_undos : Nat} {q_models : Nat} {PGv : Nat → AM} {f_afterOf : Nat → Int32} {f_actMany : Nat → Int32} {f_actOf : Nat → Int32} {f_whom : Nat → Int32} {f_hasIf : Nat → Int32} {f_becomes : Nat → Int32} {f_goneOf : Nat → Int32} {q_taped : Nat} {cr : Nat → Int} {q_people : Nat} {f_secrets : Nat → Int32} {f_lanes : Nat → Int32} {f_lengths : Nat → Int32} {f_cells : Nat → Int32} {f_tokens : Nat → Int32} {f_afters : Nat → Int32} {f_caseMany : Nat → Int32} {f_happen : Nat → Int32} {f_heard : Nat → Int32} {PGvZ : Nat → AM} (hx : PLA mN (ev6 ec er eT eb en ed) tT v0 v1 v2 v3 r1) (hm : PLA (PGv 0) (rEv f_caseMany f_happen f_hasIf f_actMany f_actOf f_whom f_becomes f_goneOf f_heard) (rTT f_tokens f_actMany f_actOf f_whom f_afterOf f_afters) v0 v1 v2 v3 r2 ∧ KPA 0 PGv PGvZ) (hR : RL_ tl ct pe kn ac np kc mN pV kV st sn sl scx tT ec er ed eT eb en q_undos q_models PGv f_afterOf f_actMany f_actOf f_whom f_hasIf f_becomes f_goneOf q_taped cr q_people f_secrets f_lanes f_lengths f_cells f_tokens f_afters f_caseMany f_happen f_heard) (hb : tl ≤ 160 ∧ q_taped ≤ 160 ∧ pe ≤ 4 ∧ kc ≤ 4 ∧ q_undos ≤ 8) : asX mN ac np pV = asM q_undos PGvZ ∧ KEQ q_models kc kV PGvZ := by
  exact ⟨hR.2.2.2.2.2.2.2.2.1.trans (asM_kpa hb.2.2.2.2 hm.2).symm, KEQ.kp6 hR.2.2.2.2.2.2.2.2.2.1 hb.2.2.2.1 (KP6.of hm.2)⟩
theorem eq_keep {r1 r2 : Int32} {tl : Nat} {ct : Nat → Int} {pe : Nat} {kn : Int32} {ac : Nat} {np : Nat} {kc : Nat} {mN : AM} {pV : Nat → AM} {kV : Nat → AM} {st : Nat → Nat} {sn : Nat → Nat} {sl : Nat → Nat} {scx : Nat → Nat → Int32} {tT : Nat → Option SVal} {ec : Nat → Nat} {er : Nat → Nat} {ed : Nat → Nat → Int32} {eT : Nat → Nat → Option SVal} {eb : Nat → Nat → Int32} {en : Nat → Nat → Int32} {q_undos : Nat} {q_models : Nat} {PGv : Nat → AM} {f_afterOf : Nat → Int32} {f_actMany : Nat → Int32} {f_actOf : Nat → Int32} {f_whom : Nat → Int32} {f_hasIf : Nat → Int32} {f_becomes : Nat → Int32} {f_goneOf : Nat → Int32} {q_taped : Nat} {cr : Nat → Int} {q_people : Nat} {f_secrets : Nat → Int32} {f_lanes : Nat → Int32} {f_lengths : Nat → Int32} {f_cells : Nat → Int32} {f_tokens : Nat → Int32} {f_afters : Nat → Int32} {f_caseMany : Nat → Int32} {f_happen : Nat → Int32} {f_heard : Nat → Int32} {kcZ : Nat} {kVZ : Nat → AM} {q_modelsZ : Nat} {PGvZ : Nat → AM} (hx : KPx mN.1 kc kcZ mN kV kVZ r1) (hm : KPx (PGv 0).1 q_models q_modelsZ (PGv 0) (fun i => PGv (6 + i)) (fun i => PGvZ (6 + i)) r2 ∧ KPU PGv PGvZ) (hR : RL_ tl ct pe kn ac np kc mN pV kV st sn sl scx tT ec er ed eT eb en q_undos q_models PGv f_afterOf f_actMany f_actOf f_whom f_hasIf f_becomes f_goneOf q_taped cr q_people f_secrets f_lanes f_lengths f_cells f_tokens f_afters f_caseMany f_happen f_heard) (hb : tl ≤ 160 ∧ q_taped ≤ 160 ∧ pe ≤ 4 ∧ kc ≤ 4 ∧ q_undos ≤ 8) : r1 = r2 := by
  have hM : mN = PGv 0 := congrArg Prod.fst hR.2.2.2.2.2.2.2.2.1
  rw [hM] at hx
  have h := KEQ.keep hR.2.2.2.2.2.2.2.2.2.1 hb.2.2.2.1 hx hm.1
  exact h.1
theorem re_keep {r1 r2 : Int32} {tl : Nat} {ct : Nat → Int} {pe : Nat} {kn : Int32} {ac : Nat} {np : Nat} {kc : Nat} {mN : AM} {pV : Nat → AM} {kV : Nat → AM} {st : Nat → Nat} {sn : Nat → Nat} {sl : Nat → Nat} {scx : Nat → Nat → Int32} {tT : Nat → Option SVal} {ec : Nat → Nat} {er : Nat → Nat} {ed : Nat → Nat → Int32} {eT : Nat → Nat → Option SVal} {eb : Nat → Nat → Int32} {en : Nat → Nat → Int32} {q_undos : Nat} {q_models : Nat} {PGv : Nat → AM} {f_afterOf : Nat → Int32} {f_actMany : Nat → Int32} {f_actOf : Nat → Int32} {f_whom : Nat → Int32} {f_hasIf : Nat → Int32} {f_becomes : Nat → Int32} {f_goneOf : Nat → Int32} {q_taped : Nat} {cr : Nat → Int} {q_people : Nat} {f_secrets : Nat → Int32} {f_lanes : Nat → Int32} {f_lengths : Nat → Int32} {f_cells : Nat → Int32} {f_tokens : Nat → Int32} {f_afters : Nat → Int32} {f_caseMany : Nat → Int32} {f_happen : Nat → Int32} {f_heard : Nat → Int32} {kcZ : Nat} {kVZ : Nat → AM} {q_modelsZ : Nat} {PGvZ : Nat → AM} (hx : KPx mN.1 kc kcZ mN kV kVZ r1) (hm : KPx (PGv 0).1 q_models q_modelsZ (PGv 0) (fun i => PGv (6 + i)) (fun i => PGvZ (6 + i)) r2 ∧ KPU PGv PGvZ) (hR : RL_ tl ct pe kn ac np kc mN pV kV st sn sl scx tT ec er ed eT eb en q_undos q_models PGv f_afterOf f_actMany f_actOf f_whom f_hasIf f_becomes f_goneOf q_taped cr q_people f_secrets f_lanes f_lengths f_cells f_tokens f_afters f_caseMany f_happen f_heard) (hb : tl ≤ 160 ∧ q_taped ≤ 160 ∧ pe ≤ 4 ∧ kc ≤ 4 ∧ q_undos ≤ 8) : asX mN ac np pV = asM q_undos PGvZ ∧ KEQ q_modelsZ kcZ kVZ PGvZ := by
  have hM : mN = PGv 0 := congrArg Prod.fst hR.2.2.2.2.2.2.2.2.1
  rw [hM] at hx
  have h := KEQ.keep hR.2.2.2.2.2.2.2.2.2.1 hb.2.2.2.1 hx hm.1
  exact ⟨hR.2.2.2.2.2.2.2.2.1.trans (asM_kpu hb.2.2.2.2 hm.2).symm, h.2⟩
theorem eq_saying {v0 v1 r1 r2 : Int32} {tl : Nat} {ct : Nat → Int} {pe : Nat} {kn : Int32} {ac : Nat} {np : Nat} {kc : Nat} {mN : AM} {pV : Nat → AM} {kV : Nat → AM} {st : Nat → Nat} {sn : Nat → Nat} {sl : Nat → Nat} {scx : Nat → Nat → Int32} {tT : Nat → Option SVal} {ec : Nat → Nat} {er : Nat → Nat} {ed : Nat → Nat → Int32} {eT : Nat → Nat → Option SVal} {eb : Nat → Nat → Int32} {en : Nat → Nat → Int32} {q_undos : Nat} {q_models : Nat} {PGv : Nat → AM} {f_afterOf : Nat → Int32} {f_actMany : Nat → Int32} {f_actOf : Nat → Int32} {f_whom : Nat → Int32} {f_hasIf : Nat → Int32} {f_becomes : Nat → Int32} {f_goneOf : Nat → Int32} {q_taped : Nat} {cr : Nat → Int} {q_people : Nat} {f_secrets : Nat → Int32} {f_lanes : Nat → Int32} {f_lengths : Nat → Int32} {f_cells : Nat → Int32} {f_tokens : Nat → Int32} {f_afters : Nat → Int32} {f_caseMany : Nat → Int32} {f_happen : Nat → Int32} {f_heard : Nat → Int32} (hx : r1 = ansSy (sy4T tT) v0 v1) (hm : r2 = ansSy (rSy f_tokens f_actMany f_actOf f_whom f_afters) v0 v1) (hR : RL_ tl ct pe kn ac np kc mN pV kV st sn sl scx tT ec er ed eT eb en q_undos q_models PGv f_afterOf f_actMany f_actOf f_whom f_hasIf f_becomes f_goneOf q_taped cr q_people f_secrets f_lanes f_lengths f_cells f_tokens f_afters f_caseMany f_happen f_heard) (hb : tl ≤ 160 ∧ q_taped ≤ 160 ∧ pe ≤ 4 ∧ kc ≤ 4 ∧ q_undos ≤ 8) : r1 = r2 := by
  rw [hx, hm]
  exact sy_cg (SGQ.eq hR.2.2.2.2.2.2.2.2.2.2.2.2.1 hR.2.2.2.2.2.2.2.2.2.2.1)
theorem eq_count {v0 r1 r2 : Int32} {tl : Nat} {ct : Nat → Int} {pe : Nat} {kn : Int32} {ac : Nat} {np : Nat} {kc : Nat} {mN : AM} {pV : Nat → AM} {kV : Nat → AM} {st : Nat → Nat} {sn : Nat → Nat} {sl : Nat → Nat} {scx : Nat → Nat → Int32} {tT : Nat → Option SVal} {ec : Nat → Nat} {er : Nat → Nat} {ed : Nat → Nat → Int32} {eT : Nat → Nat → Option SVal} {eb : Nat → Nat → Int32} {en : Nat → Nat → Int32} {q_undos : Nat} {q_models : Nat} {PGv : Nat → AM} {f_afterOf : Nat → Int32} {f_actMany : Nat → Int32} {f_actOf : Nat → Int32} {f_whom : Nat → Int32} {f_hasIf : Nat → Int32} {f_becomes : Nat → Int32} {f_goneOf : Nat → Int32} {q_taped : Nat} {cr : Nat → Int} {q_people : Nat} {f_secrets : Nat → Int32} {f_lanes : Nat → Int32} {f_lengths : Nat → Int32} {f_cells : Nat → Int32} {f_tokens : Nat → Int32} {f_afters : Nat → Int32} {f_caseMany : Nat → Int32} {f_happen : Nat → Int32} {f_heard : Nat → Int32} (hx : r1 = ansCnt mN.1 mN.2.1 (cb (fun k => (tT k).isSome) 8) (cb (fun e => decide (0 < ec e)) 4) kc ac pe tl (if st 0 = 0 then -4 else nI (sn 0)) v0) (hm : r2 = ansCnt (PGv 0).1 (PGv 0).2.1 (cb (fun k => decide (0 < (f_tokens k).toInt)) 8) (cb (fun e => decide (0 < cN f_caseMany e)) 4) q_models q_undos q_people q_taped (if f_lanes 0 = -4 then -4 else nI (cN f_lengths 0)) v0) (hR : RL_ tl ct pe kn ac np kc mN pV kV st sn sl scx tT ec er ed eT eb en q_undos q_models PGv f_afterOf f_actMany f_actOf f_whom f_hasIf f_becomes f_goneOf q_taped cr q_people f_secrets f_lanes f_lengths f_cells f_tokens f_afters f_caseMany f_happen f_heard) (hb : tl ≤ 160 ∧ q_taped ≤ 160 ∧ pe ≤ 4 ∧ kc ≤ 4 ∧ q_undos ≤ 8) : r1 = r2 := by
  have hM : mN = PGv 0 := congrArg Prod.fst hR.2.2.2.2.2.2.2.2.1
  have h8 := hR.2.2.2.2.2.2.2.2.1
  rw [hx, hm]
  refine cnt_cg (by rw [hM]) (by rw [hM]) ?_ ?_ hR.2.2.2.2.2.2.2.2.2.1.1.symm (congrArg (fun s : ASt => s.2.1) h8) hR.2.2.1 hR.1 ?_
  · refine cb_congr (fun k hk => ?_)
    show (tT k).isSome = decide (0 < (f_tokens k).toInt)
    rcases hR.2.2.2.2.2.2.2.2.2.2.1 k hk with ⟨a, b⟩ | ⟨S, a1, a2, a3⟩
    · rw [a]; exact (decide_eq_false (by omega)).symm
    · rw [a1]; exact (decide_eq_true a2).symm
  · refine cb_congr (fun e he => ?_)
    show decide (0 < ec e) = decide (0 < cN f_caseMany e)
    rw [(hR.2.2.2.2.2.2.1 e he).1]
  · rcases (hR.2.2.2.2.1 0 (by omega)).1 with ⟨z1, z2⟩ | ⟨z1, z2, z3⟩
    · rw [if_pos z1, if_pos z2]
    · have e4 : (-4 : Int32).toInt = -4 := rfl
      rw [if_neg (by omega), if_neg (fun q => by rw [q] at z2; have h1 := congrArg Int32.toInt z2; rw [nI_toInt (by omega)] at h1; omega), SHE.len hR.2.2.2.2.1 (by omega)]
end
section
/-! THE CLAIM OUT OF ONE WALK OF THE LAW'S BODY. Your part is whole_start (and what it stands on); all else here is the same for every law, but numbers. -/
def R_law : String := "WhoKnowsLaw"
def lw_P (b : Addr) (xs : List Int32) (args : Array Value) (s : State) : Prop := args = #[.ref b] ∧ s.IntsAt b xs ∧ xs.length ≤ 3072 ∧ (Jvm.Cond.and given_1 narrow_1).before args s = true
def lw_Q (_ : Array Value) (s : State) (o : Outcome) (t : State) : Prop := o = .returned (some (.int 1)) ∧ Framed s o t [] 600000 7302250
def lw_Z (below : List Frame) (a : Array Value) (s : State) : State → Prop := fun t => ∃ o, t.status = .running ∧ Ended t below o ∧ lw_Q a s o t
/-- the law's own end, with 1 on the stack, nothing written that was there before, its room as the claim has it -/
theorem lw_ret {p : Program} {l : Launch} {e : Env} {s : State} {m : MethodId} {below : List Frame} {meth : Method} {c : Code} {b : Nat} (hx : p.tables.exec = Jvm.exec) (hb : c.code = code) (hr : meth.sig.returnType = ret) (hlocks : meth.locks = false) {pc : Nat} {H : Heap} {ls : Array Slot} (hdg : decode code pc = .ok (.ireturn, 1)) : W p l e room_1 s m #[Value.ref b] below meth c H [] 600000 7302250 (lw_Z below #[Value.ref b] s) (F0 m pc ls [.int 1]) := by
  intro T hT X
  obtain ⟨fs, hret, hrun, hended, hW, hframe⟩ := X.leave (v := some (.int 1)) (hlocks := hlocks) (fun h => by rw [hr] at h; cases h)
  have hmeth' : T.vm.method? m = some meth := X.method'
  refine ⟨T.setFrames fs, ?_, .returned (some (.int 1)), hrun, hended, rfl, ⟨_, rfl⟩, hW, hframe⟩
  jvm_step X.here [X.here.top, hx, hb, hdg, hmeth', hr, ret, narrow_b1]
  (try refine ⟨rfl, ?_⟩); (try refine ⟨rfl, ?_⟩)
  first | (intro acts; rw [hret _ acts rfl rfl rfl]) | rw [hret _ _ rfl rfl rfl]
  exact Steps.refl _
/-- what holds at the law's entry: the machine, the code, the tables' words (any of lw_tbl by 'hts w (by decide +kernel)'), the script of L ints xs at the cell b, what the Statement gives of the start (any of its parts by flat_of_before) -/
def lw_At (p : Program) (s : State) (m : MethodId) (meth : Method) (c : Code) (b L : Nat) (xs : Nat → Int32) : Prop :=
  p.tables.exec = Jvm.exec ∧ c.code = code ∧ meth.sig.returnType = ret ∧ c.maxLocals = 4 ∧ s.vm.findClass R_law = some m.cls ∧ (∀ w ∈ lw_tbl, w.before #[Value.ref b] s = true) ∧ va_X b L xs s s.heap ∧ b < s.heap.size ∧ meth.locks = false ∧ (Jvm.Cond.and given_1 narrow_1).before #[Value.ref b] s = true
theorem wq_X11 : Cond.instantiable RX11 15 ∈ TB := tbm (tq1 (List.mem_of_getElem? (i := 22) (by decide +kernel))) (by decide +kernel)
theorem wq_X12 : Cond.instantiable RX12 45 ∈ TB := tbm (tq5 (List.mem_of_getElem? (i := 73) (by decide +kernel))) (by decide +kernel)
/-- a fact that is not looked into -/
def HD (P : Prop) : Prop := P
theorem hd_mk {P : Prop} (h : P) : HD P := h
theorem in_of {ws : List Cond} (ps : List Nat) (h : ws = ps.filterMap (fun i => tables_1[i]?)) : ∀ w ∈ ws, w ∈ lw_tbl := by
  intro w hw
  rw [h] at hw
  obtain ⟨i, -, hi⟩ := List.mem_filterMap.mp hw
  exact List.mem_append_right _ (List.mem_of_getElem? hi)
theorem kkN_in : ∀ w ∈ kkN, w ∈ lw_tbl := in_of [31, 68, 74, 145, 181, 186, 230, 233, 260, 265, 294, 316, 467, 619, 621, 708, 735, 821, 858, 917, 950, 1014] (by decide +kernel)
theorem kkN_ok : ∀ w ∈ kkN, w.onTables = true := by decide +kernel
theorem kkA_in : ∀ w ∈ kkA.map (fun C => Cond.arrayOver (.object C)), w ∈ lw_tbl := in_of [141, 143, 65, 139, 314] (by decide +kernel)
theorem kkS_in : ∀ w ∈ kkS.map (fun q => Cond.stringRef RX5 q.1 q.2), w ∈ lw_tbl := in_of [517, 590, 591, 592, 593, 594, 595, 596, 597, 602, 603, 604, 605, 606] (by decide +kernel)
theorem arrP {s : State} {args : Array Value} {ty : FieldType} (hp : ty = .int ∨ ty = .byte ∨ ty = .long ∨ ty = .boolean) (h : (Cond.arrayClass ty).before args s = true) : ∃ cA, ArrOfT s cA ty ∧ va_RA s cA ty := by
  obtain ⟨cA, kA, comp, h1, h2, h3⟩ := Cond.arrayClass_spec h
  refine ⟨cA, fun n z => ⟨fun k h => (by cases h), kA, h2, comp, h3⟩, ?_⟩
  rcases hp with rfl | rfl | rfl | rfl <;> exact h1
theorem arrQ {s : State} {args : Array Value} {Cn : String} (h : (Cond.arrayOver (.object Cn)).before args s = true) : ∃ cA, ArrOfT s cA (.object Cn) ∧ va_RA s cA (.object Cn) := by
  obtain ⟨comp, cA, kA, h1, h2, h3, h4, h5⟩ := Cond.arrayOver_spec h
  exact ⟨cA, fun n z => ⟨fun k h => (by cases h), kA, h3, comp, h4⟩, kA, comp, h3, h4, h1, h5⟩
theorem jz_in : ∀ w ∈ [Cond.laysStatic "java/lang/String" "COMPACT_STRINGS" "Z", Cond.initialized "java/lang/String", Cond.laysStatic "jdk/internal/util/Preconditions" "SIOOBE_FORMATTER" "Ljava/util/function/BiFunction;", Cond.initialized "jdk/internal/util/Preconditions"], w ∈ lw_tbl := in_of [531, 16, 547, 18] (by decide +kernel)
abbrev tmS (i : Nat) : Term := .string RX5 (sIdx.getD i 0)
abbrev fnw : List Cond := flatC (Jvm.Cond.and given_1 narrow_1)
theorem sx_ex : ∀ i, i < 14 → Cond.exactly (tmS i) "java/lang/String" ∈ fnw := by decide +kernel
theorem sx_co : ∀ i, i < 14 → Cond.eq (.field (tmS i) "java/lang/String" "coder" "B") (.int 0) ∈ fnw := by decide +kernel
theorem sx_ar : ∀ i, i < 14 → Cond.arrayOf (.field (tmS i) "java/lang/String" "value" "[B") .byte ∈ fnw := by decide +kernel
theorem sx_le : ∀ i, i < 14 → Cond.eq (.length (.field (tmS i) "java/lang/String" "value" "[B")) (.int (Int32.ofNat (sLen.getD i 0))) ∈ fnw := by decide +kernel
theorem sx_el : ∀ i, i < 14 → ∀ j, j < sLen.getD i 0 → Cond.eq (.elem (.field (tmS i) "java/lang/String" "value" "[B") (.int (Int32.ofNat j))) (.int ((sByt.getD i []).getD j 0)) ∈ fnw := by decide +kernel
def sNe : List Nat := [1, 2, 18, 3, 19, 35, 4, 20, 36, 52, 5, 21, 37, 53, 69, 6, 22, 38, 54, 70, 86, 7, 23, 39, 55, 71, 87, 103, 8, 24, 40, 56, 72, 88, 104, 120, 9, 25, 41, 57, 73, 89, 105, 121, 137, 10, 26, 42, 58, 74, 90, 106, 122, 138, 154, 11, 27, 43, 59, 75, 91, 107, 123, 139, 155, 171, 12, 28, 44, 60, 76, 92, 108, 124, 140, 156, 172, 188, 13, 29, 45, 61, 77, 93, 109, 125, 141, 157, 173, 189, 205]
theorem sx_neL : sNe.map (fun q => Cond.not (Cond.eq (tmS (q / 16)) (tmS (q % 16)))) = ([23, 29, 30, 36, 37, 38, 44, 45, 46, 47, 55, 56, 57, 58, 59, 67, 68, 69, 70, 71, 72, 80, 81, 82, 83, 84, 85, 86, 93, 94, 95, 96, 97, 98, 99, 100, 109, 110, 111, 112, 113, 114, 115, 116, 117, 127, 128, 129, 130, 131, 132, 133, 134, 135, 136, 148, 149, 150, 151, 152, 153, 154, 155, 156, 157, 158, 169, 170, 171, 172, 173, 174, 175, 176, 177, 178, 179, 180, 193, 194, 195, 196, 197, 198, 199, 200, 201, 202, 203, 204, 205] : List Nat).filterMap (fun i => fnw[i]?) := by decide +kernel
theorem sx_neP : ∀ i, i < 14 → ∀ j, j < 14 → i ≠ j → 16 * i + j ∈ sNe ∨ 16 * j + i ∈ sNe := by decide +kernel
theorem sx_neM {i j : Nat} (hj : j < 14) (h : 16 * i + j ∈ sNe) : Cond.not (Cond.eq (tmS i) (tmS j)) ∈ fnw := by
  have h1 : Cond.not (Cond.eq (tmS i) (tmS j)) ∈ sNe.map (fun q => Cond.not (Cond.eq (tmS (q / 16)) (tmS (q % 16)))) := List.mem_map.mpr ⟨16 * i + j, h, by rw [show (16 * i + j) / 16 = i by omega, show (16 * i + j) % 16 = j by omega]⟩
  rw [sx_neL] at h1
  obtain ⟨p, -, hp⟩ := List.mem_filterMap.mp h1
  exact List.mem_of_getElem? hp
theorem sx_ne (i : Nat) (hi : i < 14) (j : Nat) (hj : j < 14) (hn : i ≠ j) : Cond.not (Cond.eq (tmS i) (tmS j)) ∈ fnw ∨ Cond.not (Cond.eq (tmS j) (tmS i)) ∈ fnw := (sx_neP i hi j hj hn).imp (fun h => sx_neM hj h) (fun h => sx_neM hi h)
theorem sx_z : Cond.eq (.static "java/lang/String" "COMPACT_STRINGS" "Z") (.int 1) ∈ fnw := by decide +kernel
theorem sx_q : Cond.isRef (.static "jdk/internal/util/Preconditions" "SIOOBE_FORMATTER" "Ljava/util/function/BiFunction;") ∈ fnw := by decide +kernel
def sIx (k : Nat) : Nat := sIdx.idxOf k
theorem sIx_ok : ∀ i, i < 14 → sIx (sIdx.getD i 0) = i ∧ sIdx.getD i 0 < 1000 := by decide +kernel
theorem kkS_ok : kkS.map Prod.fst = sIdx := by decide +kernel
theorem law_KK {s : State} {args : Array Value} (hts : ∀ w ∈ lw_tbl, w.before args s = true) (hgv : (Jvm.Cond.and given_1 narrow_1).before args s = true) : ∃ E : EV, KK E s ∧ JF E (fun q => s.heap.size ≤ q) s s.heap := by
  have hs := flat_of_before _ hgv
  obtain ⟨c0, i0, k0⟩ := u_known (C := RX0) (T := TX0) (N := 6) (n := 6) hts (fun w h => tb_in (uw_X0 w h)) (hts _ (tb_in wq_X0))
  obtain ⟨c1, i1, k1⟩ := u_known (C := RX1) (T := TX1) (N := 6) (n := 6) hts (fun w h => tb_in (uw_X1 w h)) (hts _ (tb_in wq_X1))
  obtain ⟨c2, i2, k2⟩ := u_known (C := RX2) (T := TX2) (N := 4) (n := 4) hts (fun w h => tb_in (uw_X2 w h)) (hts _ (tb_in wq_X2))
  obtain ⟨c3, i3, k3⟩ := u_known (C := RX3) (T := TX3) (N := 6) (n := 6) hts (fun w h => tb_in (uw_X3 w h)) (hts _ (tb_in wq_X3))
  obtain ⟨c4, i4, k4⟩ := u_known (C := RX4) (T := TX4) (N := 4) (n := 4) hts (fun w h => tb_in (uw_X4 w h)) (hts _ (tb_in wq_X4))
  obtain ⟨c5, i5, k5⟩ := u_known (C := RX5) (T := TX5) (N := 10) (n := 10) hts (fun w h => tb_in (uw_X5 w h)) (hts _ (tb_in wq_X5))
  obtain ⟨c6, i6, k6⟩ := u_known (C := RX6) (T := TX6) (N := 5) (n := 5) hts (fun w h => tb_in (uw_X6 w h)) (hts _ (tb_in wq_X6))
  obtain ⟨c7, i7, k7⟩ := u_known (C := RX7) (T := TX7) (N := 5) (n := 5) hts (fun w h => tb_in (uw_X7 w h)) (hts _ (tb_in wq_X7))
  obtain ⟨c8, i8, k8⟩ := u_known (C := RX8) (T := TX8) (N := 7) (n := 7) hts (fun w h => tb_in (uw_X8 w h)) (hts _ (tb_in wq_X8))
  obtain ⟨c9, i9, k9⟩ := u_known (C := RX9) (T := TX9) (N := 4) (n := 4) hts (fun w h => tb_in (uw_X9 w h)) (hts _ (tb_in wq_X9))
  obtain ⟨c10, i10, k10⟩ := u_known (C := RX10) (T := TX10) (N := 5) (n := 5) hts (fun w h => tb_in (uw_X10 w h)) (hts _ (tb_in wq_X10))
  obtain ⟨c11, i11, k11⟩ := u_known (C := RX11) (T := TX11) (N := 15) (n := 15) hts (fun w h => tb_in (uw_X11 w h)) (hts _ (tb_in wq_X11))
  obtain ⟨c12, i12, k12⟩ := u_known (C := RX12) (T := TX12) (N := 45) (n := 45) hts (fun w h => tb_in (uw_X12 w h)) (hts _ (tb_in wq_X12))
  obtain ⟨dC, dI, hKc⟩ : ∃ (dC : Nat → ClassId) (dI : Nat → Nat → Nat), ∀ (k : Nat) (q : vw_C), vwCl[k]? = some q → u_Kn s q.1 q.2.1 q.2.2 (dC k) (dI k) := by
    refine ⟨fun k => ([c0, c1, c2, c3, c4, c5, c6, c7, c8, c9, c10, c11, c12] : List ClassId).getD k c0, fun k => ([i0, i1, i2, i3, i4, i5, i6, i7, i8, i9, i10, i11, i12] : List (Nat → Nat)).getD k i0, ?_⟩
    intro k q hq
    match k, hq with
      | 0, hq => cases hq; exact k0
      | 1, hq => cases hq; exact k1
      | 2, hq => cases hq; exact k2
      | 3, hq => cases hq; exact k3
      | 4, hq => cases hq; exact k4
      | 5, hq => cases hq; exact k5
      | 6, hq => cases hq; exact k6
      | 7, hq => cases hq; exact k7
      | 8, hq => cases hq; exact k8
      | 9, hq => cases hq; exact k9
      | 10, hq => cases hq; exact k10
      | 11, hq => cases hq; exact k11
      | 12, hq => cases hq; exact k12
      | k + 13, hq => exact absurd hq (by simp [vwCl])
  have hO : ∀ C ∈ kkA, (Cond.arrayOver (.object C)).before args s = true := fun C h => hts _ (kkA_in _ (List.mem_map.mpr ⟨C, h, rfl⟩))
  obtain ⟨y0, a0, b0⟩ := arrP (ty := .byte) (by simp) (hts _ (tb_in wa_byte))
  obtain ⟨y1, a1, b1⟩ := arrP (ty := .int) (by simp) (hts _ (tb_in wa_int))
  obtain ⟨y2, a2, b2⟩ := arrP (ty := .long) (by simp) (hts _ (tb_in wa_long))
  obtain ⟨y3, a3, b3⟩ := arrP (ty := .boolean) (by simp) (hts _ (tb_in wa_boolean))
  obtain ⟨y4, a4, b4⟩ := arrQ (hO "WhoKnows$Event" (by decide))
  obtain ⟨y5, a5, b5⟩ := arrQ (hO "WhoKnows$Layer" (by decide))
  obtain ⟨y6, a6, b6⟩ := arrQ (hO "WhoKnows$Model" (by decide))
  obtain ⟨y7, a7, b7⟩ := arrQ (hO "WhoKnows$Saying" (by decide))
  obtain ⟨y8, a8, b8⟩ := arrQ (hO "WhoKnows$Sheet" (by decide))
  have hA : ∀ a : Nat, a < s.heap.size → ¬ s.heap.size ≤ a := fun a h => Nat.not_le.mpr h
  obtain ⟨adK, adV, hvS, hev⟩ := vk_Sof (args := args) (s := s) (N := 14) (tm := tmS) (len := sLen) (byt := sByt) (A := fun q => s.heap.size ≤ q) (by decide +kernel) (fun i hi => hs _ (sx_ex i hi)) (fun i hi => hs _ (sx_co i hi)) (fun i hi => hs _ (sx_ar i hi)) (fun i hi => hs _ (sx_le i hi)) (fun i hi j hj => hs _ (sx_el i hi j hj)) (fun i j hi hj hn => (sx_ne i hi j hj hn).imp (fun h => hs _ h) (fun h => hs _ h)) hA
  obtain ⟨sa, hsa⟩ : ∃ sa : Nat → Nat, (∀ i, i < 14 → sa (sIdx.getD i 0) = adK i) ∧ ∀ i, sa (1000 + i) = adV i := by
    refine ⟨fun k => if 1000 ≤ k then adV (k - 1000) else adK (sIx k), fun i hi => ?_, fun i => ?_⟩
    · have h9 := sIx_ok i hi
      show (if 1000 ≤ sIdx.getD i 0 then _ else _) = _
      rw [if_neg (by omega), h9.1]
    · show (if 1000 ≤ 1000 + i then _ else _) = _
      rw [if_pos (by omega), Nat.add_sub_cancel_left]
  have hsR : ∀ q ∈ kkS, (Term.string RX5 q.1).eval args s none [] s = some (.ref (sa q.1)) := by
    intro q hq
    have h1 : q.1 ∈ sIdx := by rw [← kkS_ok]; exact List.mem_map.mpr ⟨q, hq, rfl⟩
    obtain ⟨i, hi⟩ := List.mem_iff_getElem?.mp h1
    have hl : i < 14 := (List.getElem?_eq_some_iff.mp hi).1
    have e1 : sIdx.getD i 0 = q.1 := by rw [List.getD_eq_getElem?_getD, hi]; rfl
    have h2 := hev i hl
    have h3 := hsa.1 i hl
    rw [e1] at h3
    rw [h3]
    have h4 : tmS i = .string RX5 q.1 := by show Term.string RX5 (sIdx.getD i 0) = _; rw [e1]
    rw [← h4]; exact h2
  refine ⟨((dC, dI), (fun k => ([y0, y1, y2, y3, y4, y5, y6, y7, y8] : List ClassId).getD k y0), sa), ⟨⟨hKc, ?_⟩, fun w hw => va_Nw.of (kkN_ok w hw) (hts w (kkN_in w hw)), fun C hC => va_AO.of (hO C hC), fun q hq => vk_R.of (hts _ (kkS_in _ (List.mem_map.mpr ⟨q, hq, rfl⟩))) (hsR q hq)⟩, ⟨?_, ?_⟩, ?_, ?_⟩
  · intro k q hq
    match k, hq with
    | 0, hq => cases hq; exact ⟨a0, b0⟩
    | 1, hq => cases hq; exact ⟨a1, b1⟩
    | 2, hq => cases hq; exact ⟨a2, b2⟩
    | 3, hq => cases hq; exact ⟨a3, b3⟩
    | 4, hq => cases hq; exact ⟨a4, b4⟩
    | 5, hq => cases hq; exact ⟨a5, b5⟩
    | 6, hq => cases hq; exact ⟨a6, b6⟩
    | 7, hq => cases hq; exact ⟨a7, b7⟩
    | 8, hq => cases hq; exact ⟨a8, b8⟩
    | k + 9, hq => exact absurd hq (by simp [cyT])
  · intro i hi
    have e1 := hsa.1 i hi
    have e2 := hsa.2 i
    dsimp only
    rw [e1, e2]
    exact hvS.1 i hi
  · intro i j hi hj e
    dsimp only at e
    rw [hsa.1 i hi, hsa.1 j hj] at e
    exact hvS.2 i j hi hj e
  · exact va_Zof (hts _ (jz_in _ (by simp))) (hts _ (jz_in _ (by simp))) (va_eqi (hs _ sx_z)) hA
  · exact va_Zqof (hts _ (jz_in _ (by simp))) (hts _ (jz_in _ (by simp))) (hs _ sx_q) hA
/-- the script of L ints -/
def SX (X : XT) (b L : Nat) (xs : Nat → Int32) : Prop := va_X b L xs X.2.2.2.2.1 X.2.2.2.2.1.heap ∧ b < X.2.2.2.2.1.heap.size ∧ ¬ X.2.2.2.2.2.2.2.2.2.2.1 b
section SCR
variable {X : XT} {rm : Room} {cc : ByteArray} {nL : Nat} {own : String} {ret9 : Option FieldType} {E : EV} {pc : Nat} {lv : List (Nat × Value)} {st : List Value} {ws : va_W} {k n : Nat}
theorem ww_sld {b L : Nat} {xs : Nat → Int32} {i v : Int32} (C : CX X rm cc nL own ret9 E) (hs : SX X b L xs) (hi : vp_in i L) (hv : xs i.toNatClampNeg = v) (hd : decode cc pc = .ok (.iaload, 1)) (kk : WW X nL E (pc + 1) lv (.int v :: st) ws k n) : WW X nL E pc lv (.int i :: .ref b :: st) ws k n := by
  subst hv
  exact fun H locs ls hP hD hS hl => va_sld C.1 C.2.1 hs.1 hs.2.1 hs.2.2 hS hi hd (kk H locs ls hP hD hS hl)
theorem ww_slen {b L : Nat} {xs : Nat → Int32} {v : Int32} (C : CX X rm cc nL own ret9 E) (hs : SX X b L xs) (hv : Int32.ofNat L = v) (hd : decode cc pc = .ok (.arraylength, 1)) (kk : WW X nL E (pc + 1) lv (.int v :: st) ws k n) : WW X nL E pc lv (.ref b :: st) ws k n := by
  subst hv
  exact fun H locs ls hP hD hS hl => va_slen C.1 C.2.1 hs.1 hs.2.1 hs.2.2 hS hd (kk H locs ls hP hD hS hl)
theorem ww_lawret {b : Nat} (C : CX X room_1 code nL own ret E) (hq : X.2.2.2.2.2.2.2.2.2.2.2 = lw_Z X.2.2.2.2.2.2.2.1 X.2.2.2.2.2.2.1 X.2.2.2.2.1 ∧ X.2.2.2.2.2.2.1 = #[Value.ref b] ∧ X.2.2.2.2.2.2.2.2.2.2.1 = fun q => X.2.2.2.2.1.heap.size ≤ q) (hk : Nat.ble k 600000 = true) (hn : Nat.ble n 7302250 = true) (hd : decode code pc = .ok (.ireturn, 1)) : WW X nL E pc lv [.int 1] ws k n := by
  intro H locs ls hP hD hS hl
  obtain ⟨p, l, e, R, s, m, args, below, meth, c, A, Q⟩ := X
  obtain ⟨hx, hb, hml, hown, hts, hK, hA, hr, hlk, hrm, hJF⟩ := C
  obtain ⟨q1, q2, q3⟩ := hq
  dsimp only at *
  subst hrm
  subst q3
  subst q1
  subst q2
  refine va_forget (fun q hq => hS.2.2 q hq) ?_
  refine W.widen (Nat.le_of_ble_eq_true hk) (Nat.le_of_ble_eq_true hn) ?_
  exact lw_ret hx hb hr hlk hd
end SCR
end
