/-! secrets: bits -/
theorem b_15 : ∀ i, i < 32 → bt 15 i = decide (i < 4) := by decide +kernel
theorem sc_b {kn : Int32} {i b : Nat} (hi : i < 4) (hb : b < 32) : bt (sc kn i) b = (decide (b < 4) && bt kn (4 * i + b)) := by
  unfold sc
  rw [b_and, b_sshr (4 * i) (by omega) kn hb, b_15 b hb]
  by_cases h : b < 4
  · rw [if_pos (by omega), decide_eq_true h, Bool.and_true, Bool.true_and]
  · rw [decide_eq_false h, Bool.and_false, Bool.false_and]
theorem cl_b {kn : Int32} {i j b : Nat} (hi : i < 4) (hj : j < 4) (hb : b < 32) : bt (cl kn i j) b = (bt kn b || (decide (4 * i ≤ b) && bt (sc kn i ||| sc kn j) (b - 4 * i)) || (decide (4 * j ≤ b) && bt (sc kn i ||| sc kn j) (b - 4 * j))) := by
  unfold cl
  rw [b_or, b_or, b_shl (4 * i) (by omega) _ hb, b_shl (4 * j) (by omega) _ hb]
theorem y_b {kn : Int32} {i j c : Nat} (hi : i < 4) (hj : j < 4) (hc : c < 32) : bt (sc kn i ||| sc kn j) c = (decide (c < 4) && (bt kn (4 * i + c) || bt kn (4 * j + c))) := by
  rw [b_or, sc_b hi hc, sc_b hj hc, Bool.and_or_distrib_left]
theorem sh_b {kn : Int32} {i j k m b : Nat} (hi : i < 4) (hj : j < 4) (hk : k < 4) (hm : m < 4) (hb : b < 4) : (decide (4 * k ≤ 4 * m + b) && bt (sc kn i ||| sc kn j) (4 * m + b - 4 * k)) = (decide (m = k) && (bt kn (4 * i + b) || bt kn (4 * j + b))) := by
  by_cases h : m = k
  · subst h
    rw [decide_eq_true (show 4 * m ≤ 4 * m + b by omega), show 4 * m + b - 4 * m = b by omega, y_b hi hj (by omega), decide_eq_true hb, decide_eq_true rfl, Bool.true_and]
  · rw [decide_eq_false h, Bool.false_and]
    by_cases h2 : 4 * k ≤ 4 * m + b
    · rw [y_b hi hj (by omega), decide_eq_false (show ¬ 4 * m + b - 4 * k < 4 by omega), Bool.false_and, Bool.and_false]
    · rw [decide_eq_false h2, Bool.false_and]
theorem sc_cl {kn : Int32} {i j m : Nat} (hi : i < 4) (hj : j < 4) (hm : m < 4) : sc (cl kn i j) m = if m = i ∨ m = j then sc kn i ||| sc kn j else sc kn m := by
  apply b_ext
  intro b hb
  rw [sc_b hm hb]
  by_cases h4 : b < 4
  · rw [decide_eq_true h4, Bool.true_and, cl_b hi hj (by omega), sh_b hi hj hi hm h4, sh_b hi hj hj hm h4]
    by_cases hmi : m = i
    · subst hmi
      rw [if_pos (Or.inl rfl), y_b hm hj hb, decide_eq_true h4, decide_eq_true rfl, Bool.true_and]
      cases bt kn (4 * m + b) <;> cases bt kn (4 * j + b) <;> cases decide (m = j) <;> rfl
    · rw [decide_eq_false hmi, Bool.false_and, Bool.or_false]
      by_cases hmj : m = j
      · subst hmj
        rw [if_pos (Or.inr rfl), y_b hi hm hb, decide_eq_true h4, decide_eq_true rfl, Bool.true_and]
        cases bt kn (4 * m + b) <;> cases bt kn (4 * i + b) <;> rfl
      · rw [decide_eq_false hmj, Bool.false_and, Bool.or_false, if_neg (by omega), sc_b hm hb, decide_eq_true h4, Bool.true_and]
  · rw [decide_eq_false h4, Bool.false_and]
    split
    · rw [y_b hi hj hb, decide_eq_false h4, Bool.false_and]
    · rw [sc_b hm hb, decide_eq_false h4, Bool.false_and]
theorem cb_24 {x : Int32} (h : ∀ b, b < 32 → bt x b = true → b < 4) : cb (bt x) 24 = cb (bt x) 32 := by
  have e : cb (bt x) 32 = cb (bt x) 24 + cb (fun i => bt x (24 + i)) 8 := by rw [← cb_add]
  rw [e, cb_zero (f := fun i => bt x (24 + i)) (fun i hi => by
    cases hb : bt x (24 + i) with
    | false => rfl
    | true => have := h (24 + i) (by omega) hb; omega), Nat.add_zero]
/-- both sides' sheets -/
def SHE (st sn sl : Nat → Nat) (fl fn : Nat → Int32) : Prop := ∀ k, k < 4 → ((st k = 0 ∧ fl k = -4) ∨ (st k = 1 ∧ fl k = nI (sl k) ∧ sl k ≤ 2)) ∧ fn k = nI (sn k) ∧ sn k ≤ 48
theorem SHE.put {st sn sl st' sn' sl' : Nat → Nat} {fl fn fl' fn' : Nat → Int32} {k l n : Nat} (h : SHE st sn sl fl fn) (hl : l ≤ 2) (hn : n ≤ 48) (h1 : ∀ i, i < 4 → st' i = if i = k then 1 else st i) (h2 : ∀ i, i < 4 → sn' i = if i = k then n else sn i) (h3 : ∀ i, i < 4 → sl' i = if i = k then l else sl i) (e1 : upd fl k (nI l) = fl') (e2 : upd fn k (nI n) = fn') : SHE st' sn' sl' fl' fn' := by
  intro i hi
  rw [h1 i hi, h2 i hi, h3 i hi]
  by_cases hk : i = k
  · subst hk
    rw [if_pos rfl, if_pos rfl, if_pos rfl, ← e1, ← e2, pk_us, pk_us]
    exact ⟨Or.inr ⟨rfl, rfl, hl⟩, rfl, hn⟩
  · rw [if_neg hk, if_neg hk, if_neg hk, ← e1, ← e2, pk_un hk, pk_un hk]
    exact h i hi
theorem SHE.len {st sn sl : Nat → Nat} {fl fn : Nat → Int32} {k : Nat} (h : SHE st sn sl fl fn) (hk : k < 4) : cN fn k = sn k := by
  have h1 := h k hk
  unfold cN; rw [h1.2.1]; exact nI_clamp (by omega)
theorem SHE.no {st sn sl : Nat → Nat} {fl fn : Nat → Int32} {k : Nat} (h : SHE st sn sl fl fn) (hk : k < 4) : (st k = 0 ∧ fl k = -4) ∨ (st k = 1 ∧ fl k ≠ -4) := by
  rcases (h k hk).1 with q | ⟨q1, q2, q3⟩
  · exact Or.inl q
  · refine Or.inr ⟨q1, fun e => ?_⟩
    rw [q2] at e
    have h1 := nI_toInt (n := sl k) (by omega)
    rw [e] at h1
    have e4 : (-4 : Int32).toInt = -4 := rfl
    omega
/-- both sides' secrets -/
def SEC (pe : Nat) (kn : Int32) (fs : Nat → Int32) : Prop := ∀ i, i < pe → fs i = sc kn i
theorem SEC.call {pe i j : Nat} {kn : Int32} {fs fs' : Nat → Int32} (h : SEC pe kn fs) (hp : pe ≤ 4) (hi : i < pe) (hj : j < pe) (e : upd (upd fs i (fs i ||| fs j)) j (fs i ||| fs j) = fs') : SEC pe (cl kn i j) fs' := by
  intro m hm
  rw [sc_cl (by omega) (by omega) (by omega), ← e, h i hi, h j hj]
  by_cases h1 : m = j
  · subst h1; rw [pk_us, if_pos (Or.inr rfl)]
  · rw [pk_un h1]
    by_cases h2 : m = i
    · subst h2; rw [pk_us, if_pos (Or.inl rfl)]
    · rw [pk_un h2, if_neg (by omega), h m hm]
theorem SEC.ans {pe i j : Nat} {kn : Int32} {fs : Nat → Int32} (h : SEC pe kn fs) (hp : pe ≤ 4) (hi : i < pe) (hj : j < pe) : bcf (sc (cl kn i j) i) = nI (cb (bt (fs i ||| fs j)) 24) := by
  rw [sc_cl (by omega) (by omega) (by omega), if_pos (Or.inl rfl), h i hi, h j hj, bcf_bt]
  congr 1
  symm
  apply cb_24
  intro b hb hbt
  rw [y_b (by omega) (by omega) hb] at hbt
  by_cases h4 : b < 4
  · exact h4
  · rw [decide_eq_false h4, Bool.false_and] at hbt; cases hbt
theorem she0 {fl : Nat → Int32} (h0 : fl 0 = -4) (h1 : fl 1 = -4) (h2 : fl 2 = -4) (h3 : fl 3 = -4) : SHE (pick4 0 0 0 0) (pick4 0 0 0 0) (pick4 0 0 0 0) fl (fun _ => 0) := by
  intro k hk
  rcases (show k = 0 ∨ k = 1 ∨ k = 2 ∨ k = 3 by omega) with rfl | rfl | rfl | rfl
  · exact ⟨Or.inl ⟨rfl, h0⟩, rfl, by decide⟩
  · exact ⟨Or.inl ⟨rfl, h1⟩, rfl, by decide⟩
  · exact ⟨Or.inl ⟨rfl, h2⟩, rfl, by decide⟩
  · exact ⟨Or.inl ⟨rfl, h3⟩, rfl, by decide⟩
abbrev RL_ (tl : Nat) (pe : Nat) (kn : Int32) (st : Nat → Nat) (sn : Nat → Nat) (sl : Nat → Nat) (q_taped : Nat) (q_people : Nat) (f_secrets : Nat → Int32) (f_lanes : Nat → Int32) (f_lengths : Nat → Int32) : Prop := tl = q_taped ∧ pe = q_people ∧ SEC pe kn f_secrets ∧ SHE st sn sl f_lanes f_lengths
theorem ST.tl {E : EV} {hx hm : Nat} {tl : Nat} {pe : Nat} {kn : Int32} {st : Nat → Nat} {sn : Nat → Nat} {sl : Nat → Nat} {q_taped : Nat} {q_people : Nat} {f_secrets : Nat → Int32} {f_lanes : Nat → Int32} {f_lengths : Nat → Int32} {ws : va_W} (h : ST E hx hm tl pe kn st sn sl q_taped q_people f_secrets f_lanes f_lengths ws) : tl ≤ 160 ∧ q_taped ≤ 160 ∧ pe ≤ 4 := by
  unfold ST at h
  refine ex8 h ?_
  clear h
  intro h qp qs qj ly qh kk rd h
  refine ex8 h ?_
  clear h
  intro pg ss ac np kc w_now w_past w_pars h
  refine ex8 h ?_
  clear h
  intro w_judg w_layr w_heap w_kept w_rnds w_plnr w_shts wm h
  refine ex1 h ?_
  clear h
  intro ro h
  refine an8 h ?_
  clear h
  intro hac hnp hkc hpe H_now H_past H_pars H_judg h
  refine an7 h ?_
  clear h
  intro H_layr H_heap H_kept H_rnds H_plnr H_shts H_ref h
  have we_st := h
  clear h
  subst we_st
  unfold ok_pars at H_pars
  refine ex8 H_pars ?_
  clear H_pars
  intro qt po pa pf pd nd tn an H_pars
  refine ex8 H_pars ?_
  clear H_pars
  intro wr pl tb ta tk ts fb fo H_pars
  refine ex3 H_pars ?_
  clear H_pars
  intro pfa af fd H_pars
  refine an1 H_pars ?_
  clear H_pars
  intro we_pars H_pars
  have htl := H_pars
  clear H_pars
  subst we_pars
  unfold ok_ref at H_ref
  refine ex8 H_ref ?_
  clear H_ref
  intro m_manys m_reals m_factsOf m_possible q_undos q_models m_tape q_fault H_ref
  refine ex8 H_ref ?_
  clear H_ref
  intro q_wrong q_wrongAt q_spot q_place q_token q_value m_ends m_letters H_ref
  refine ex8 H_ref ?_
  clear H_ref
  intro m_actOf m_whom m_actMany m_tokens m_afters m_afterOf q_counted m_pile H_ref
  refine ex8 H_ref ?_
  clear H_ref
  intro m_caseMany m_happen m_hasIf m_becomes m_goneOf m_heard m_pairs m_heaps H_ref
  refine ex8 H_ref ?_
  clear H_ref
  intro q_rounds q_heapMany m_led m_newAt m_knowing m_firsts m_secrets m_tried H_ref
  refine ex8 H_ref ?_
  clear H_ref
  intro m_lanes m_lengths m_cells f_manys f_reals f_factsOf f_possible f_tape H_ref
  refine ex8 H_ref ?_
  clear H_ref
  intro f_ends f_letters f_actOf f_whom f_actMany f_tokens f_afters f_afterOf H_ref
  refine ex8 H_ref ?_
  clear H_ref
  intro f_pile f_caseMany f_happen f_hasIf f_becomes f_goneOf f_heard f_pairs H_ref
  refine ex7 H_ref ?_
  clear H_ref
  intro f_heaps f_led f_newAt f_knowing f_firsts f_tried f_cells H_ref
  refine an8 H_ref ?_
  clear H_ref
  intro we_ref hb_manys hb_reals hb_ends hb_actMany hb_afters hb_afterOf hb_caseMany H_ref
  refine an8 H_ref ?_
  clear H_ref
  intro hb_happen hb_lengths hpg hhp hsv hq_undos hq_models hq_taped H_ref
  refine an2 H_ref ?_
  clear H_ref
  intro hq_people hq_token H_ref
  have hq_value := H_ref
  clear H_ref
  subst we_ref
  exact ⟨htl, hq_taped, hpe⟩
theorem eq_feed {r1 r2 : Int32} {tl : Nat} {pe : Nat} {kn : Int32} {st : Nat → Nat} {sn : Nat → Nat} {sl : Nat → Nat} {q_taped : Nat} {q_people : Nat} {f_secrets : Nat → Int32} {f_lanes : Nat → Int32} {f_lengths : Nat → Int32} {tlZ : Nat} {q_tapedZ : Nat} (hx : (tl + 8 ≤ 160 ∧ tlZ = tl + 8 ∧ r1 = nI (tl + 8)) ∨ (160 < tl + 8 ∧ tlZ = tl ∧ r1 = -3)) (hm : (q_taped + 8 ≤ 160 ∧ q_tapedZ = q_taped + 8 ∧ r2 = nI (q_taped + 8)) ∨ (160 < q_taped + 8 ∧ q_tapedZ = q_taped ∧ r2 = -3)) (hR : RL_ tl pe kn st sn sl q_taped q_people f_secrets f_lanes f_lengths) (hb : tl ≤ 160 ∧ q_taped ≤ 160 ∧ pe ≤ 4) : r1 = r2 := by
  have h0 := hR.1
  rcases hx with ⟨a1, a2, a3⟩ | ⟨a1, a2, a3⟩
  · rcases hm with ⟨b1, b2, b3⟩ | ⟨b1, b2, b3⟩
    · rw [a3, b3, h0]
    · exfalso; omega
  · rcases hm with ⟨b1, b2, b3⟩ | ⟨b1, b2, b3⟩
    · exfalso; omega
    · rw [a3, b3]
theorem re_feed {r1 r2 : Int32} {tl : Nat} {pe : Nat} {kn : Int32} {st : Nat → Nat} {sn : Nat → Nat} {sl : Nat → Nat} {q_taped : Nat} {q_people : Nat} {f_secrets : Nat → Int32} {f_lanes : Nat → Int32} {f_lengths : Nat → Int32} {tlZ : Nat} {q_tapedZ : Nat} (hx : (tl + 8 ≤ 160 ∧ tlZ = tl + 8 ∧ r1 = nI (tl + 8)) ∨ (160 < tl + 8 ∧ tlZ = tl ∧ r1 = -3)) (hm : (q_taped + 8 ≤ 160 ∧ q_tapedZ = q_taped + 8 ∧ r2 = nI (q_taped + 8)) ∨ (160 < q_taped + 8 ∧ q_tapedZ = q_taped ∧ r2 = -3)) (hR : RL_ tl pe kn st sn sl q_taped q_people f_secrets f_lanes f_lengths) (hb : tl ≤ 160 ∧ q_taped ≤ 160 ∧ pe ≤ 4) : tlZ = q_tapedZ := by
  have h0 := hR.1
  rcases hx with ⟨a1, a2, a3⟩ | ⟨a1, a2, a3⟩ <;> rcases hm with ⟨b1, b2, b3⟩ | ⟨b1, b2, b3⟩ <;> omega
theorem re_say {v0 : Int32} {tl : Nat} {pe : Nat} {kn : Int32} {st : Nat → Nat} {sn : Nat → Nat} {sl : Nat → Nat} {q_taped : Nat} {q_people : Nat} {f_secrets : Nat → Int32} {f_lanes : Nat → Int32} {f_lengths : Nat → Int32} {tlZ : Nat} {q_tapedZ : Nat} (hx : ((v0.toInt < 0 ∨ 7 < v0.toInt) ∧ tlZ = tl) ∨ (0 ≤ v0.toInt ∧ v0.toInt ≤ 7 ∧ tlZ = 0)) (hm : ((v0.toInt < 0 ∨ 7 < v0.toInt) ∧ q_tapedZ = q_taped) ∨ (0 ≤ v0.toInt ∧ v0.toInt ≤ 7 ∧ q_tapedZ = 0)) (hR : RL_ tl pe kn st sn sl q_taped q_people f_secrets f_lanes f_lengths) (hb : tl ≤ 160 ∧ q_taped ≤ 160 ∧ pe ≤ 4) : tlZ = q_tapedZ := by
  have h0 := hR.1
  rcases hx with ⟨a1, a2⟩ | ⟨a1, a2, a3⟩ <;> rcases hm with ⟨b1, b2⟩ | ⟨b1, b2, b3⟩ <;> omega
theorem re_end {v0 r1 r2 : Int32} {tl : Nat} {pe : Nat} {kn : Int32} {st : Nat → Nat} {sn : Nat → Nat} {sl : Nat → Nat} {q_taped : Nat} {q_people : Nat} {f_secrets : Nat → Int32} {f_lanes : Nat → Int32} {f_lengths : Nat → Int32} {tlZ : Nat} {q_tapedZ : Nat} (hx : ((v0.toInt < 0 ∨ (tl : Int) < v0.toInt) ∧ tlZ = tl ∧ r1 = -1) ∨ (v0 = nI tlZ ∧ tlZ ≤ tl ∧ r1 = nI tl)) (hm : ((v0.toInt < 0 ∨ (q_taped : Int) < v0.toInt) ∧ q_tapedZ = q_taped ∧ r2 = -1) ∨ (v0 = nI q_tapedZ ∧ q_tapedZ ≤ q_taped ∧ r2 = nI q_taped)) (hR : RL_ tl pe kn st sn sl q_taped q_people f_secrets f_lanes f_lengths) (hb : tl ≤ 160 ∧ q_taped ≤ 160 ∧ pe ≤ 4) : tlZ = q_tapedZ := by
  have h0 := hR.1
  rcases hx with ⟨a1, a2, a3⟩ | ⟨a1, a2, a3⟩
  · rcases hm with ⟨b1, b2, b3⟩ | ⟨b1, b2, b3⟩
    · omega
    · rw [b1, nI_toInt (by omega)] at a1; omega
  · rcases hm with ⟨b1, b2, b3⟩ | ⟨b1, b2, b3⟩
    · rw [a1, nI_toInt (by omega)] at b1; omega
    · exact (nI_eq (by omega) (by omega)).mp (a1.symm.trans b1)
theorem eq_end {v0 r1 r2 : Int32} {tl : Nat} {pe : Nat} {kn : Int32} {st : Nat → Nat} {sn : Nat → Nat} {sl : Nat → Nat} {q_taped : Nat} {q_people : Nat} {f_secrets : Nat → Int32} {f_lanes : Nat → Int32} {f_lengths : Nat → Int32} {tlZ : Nat} {q_tapedZ : Nat} (hx : ((v0.toInt < 0 ∨ (tl : Int) < v0.toInt) ∧ tlZ = tl ∧ r1 = -1) ∨ (v0 = nI tlZ ∧ tlZ ≤ tl ∧ r1 = nI tl)) (hm : ((v0.toInt < 0 ∨ (q_taped : Int) < v0.toInt) ∧ q_tapedZ = q_taped ∧ r2 = -1) ∨ (v0 = nI q_tapedZ ∧ q_tapedZ ≤ q_taped ∧ r2 = nI q_taped)) (hR : RL_ tl pe kn st sn sl q_taped q_people f_secrets f_lanes f_lengths) (hb : tl ≤ 160 ∧ q_taped ≤ 160 ∧ pe ≤ 4) : r1 = r2 := by
  have h0 := hR.1
  rcases hx with ⟨a1, a2, a3⟩ | ⟨a1, a2, a3⟩
  · rcases hm with ⟨b1, b2, b3⟩ | ⟨b1, b2, b3⟩
    · rw [a3, b3]
    · exfalso; rw [b1, nI_toInt (by omega)] at a1; omega
  · rcases hm with ⟨b1, b2, b3⟩ | ⟨b1, b2, b3⟩
    · exfalso; rw [a1, nI_toInt (by omega)] at b1; omega
    · rw [a3, b3, h0]
theorem eq_people {v0 r1 r2 : Int32} {tl : Nat} {pe : Nat} {kn : Int32} {st : Nat → Nat} {sn : Nat → Nat} {sl : Nat → Nat} {q_taped : Nat} {q_people : Nat} {f_secrets : Nat → Int32} {f_lanes : Nat → Int32} {f_lengths : Nat → Int32} {peZ : Nat} {knZ : Int32} {q_peopleZ : Nat} {f_secretsZ : Nat → Int32} (hx : ((v0.toInt < 2 ∨ 4 < v0.toInt) ∧ peZ = pe ∧ knZ = kn ∧ r1 = -1) ∨ (v0.toInt = 2 ∧ peZ = 2 ∧ knZ = 33 ∧ r1 = 2) ∨ (v0.toInt = 3 ∧ peZ = 3 ∧ knZ = 1057 ∧ r1 = 3) ∨ (v0.toInt = 4 ∧ peZ = 4 ∧ knZ = 33825 ∧ r1 = 4)) (hm : ((v0.toInt < 2 ∨ 4 < v0.toInt) ∧ q_peopleZ = q_people ∧ f_secretsZ = f_secrets ∧ r2 = -1) ∨ (v0.toInt = 2 ∧ q_peopleZ = 2 ∧ (∀ i, i < 2 → f_secretsZ i = nI (2 ^ i)) ∧ r2 = 2) ∨ (v0.toInt = 3 ∧ q_peopleZ = 3 ∧ (∀ i, i < 3 → f_secretsZ i = nI (2 ^ i)) ∧ r2 = 3) ∨ (v0.toInt = 4 ∧ q_peopleZ = 4 ∧ (∀ i, i < 4 → f_secretsZ i = nI (2 ^ i)) ∧ r2 = 4)) (hR : RL_ tl pe kn st sn sl q_taped q_people f_secrets f_lanes f_lengths) (hb : tl ≤ 160 ∧ q_taped ≤ 160 ∧ pe ≤ 4) : r1 = r2 := by
  rcases hx with ⟨a1, a2, a3, a4⟩ | ⟨a1, a2, a3, a4⟩ | ⟨a1, a2, a3, a4⟩ | ⟨a1, a2, a3, a4⟩ <;> rcases hm with ⟨b1, b2, b3, b4⟩ | ⟨b1, b2, b3, b4⟩ | ⟨b1, b2, b3, b4⟩ | ⟨b1, b2, b3, b4⟩ <;> first | (rw [a4, b4]; done) | (exfalso; omega)
theorem sec_p {c : Nat} {k : Int32} {fs : Nat → Int32} (h : ∀ i, i < c → fs i = nI (2 ^ i)) (hk : ∀ i, i < c → nI (2 ^ i) = sc k i) : SEC c k fs := fun i hi => (h i hi).trans (hk i hi)
theorem re_people {v0 r1 r2 : Int32} {tl : Nat} {pe : Nat} {kn : Int32} {st : Nat → Nat} {sn : Nat → Nat} {sl : Nat → Nat} {q_taped : Nat} {q_people : Nat} {f_secrets : Nat → Int32} {f_lanes : Nat → Int32} {f_lengths : Nat → Int32} {peZ : Nat} {knZ : Int32} {q_peopleZ : Nat} {f_secretsZ : Nat → Int32} (hx : ((v0.toInt < 2 ∨ 4 < v0.toInt) ∧ peZ = pe ∧ knZ = kn ∧ r1 = -1) ∨ (v0.toInt = 2 ∧ peZ = 2 ∧ knZ = 33 ∧ r1 = 2) ∨ (v0.toInt = 3 ∧ peZ = 3 ∧ knZ = 1057 ∧ r1 = 3) ∨ (v0.toInt = 4 ∧ peZ = 4 ∧ knZ = 33825 ∧ r1 = 4)) (hm : ((v0.toInt < 2 ∨ 4 < v0.toInt) ∧ q_peopleZ = q_people ∧ f_secretsZ = f_secrets ∧ r2 = -1) ∨ (v0.toInt = 2 ∧ q_peopleZ = 2 ∧ (∀ i, i < 2 → f_secretsZ i = nI (2 ^ i)) ∧ r2 = 2) ∨ (v0.toInt = 3 ∧ q_peopleZ = 3 ∧ (∀ i, i < 3 → f_secretsZ i = nI (2 ^ i)) ∧ r2 = 3) ∨ (v0.toInt = 4 ∧ q_peopleZ = 4 ∧ (∀ i, i < 4 → f_secretsZ i = nI (2 ^ i)) ∧ r2 = 4)) (hR : RL_ tl pe kn st sn sl q_taped q_people f_secrets f_lanes f_lengths) (hb : tl ≤ 160 ∧ q_taped ≤ 160 ∧ pe ≤ 4) : peZ = q_peopleZ ∧ SEC peZ knZ f_secretsZ := by
  rcases hx with ⟨a1, a2, a3, a4⟩ | ⟨a1, a2, a3, a4⟩ | ⟨a1, a2, a3, a4⟩ | ⟨a1, a2, a3, a4⟩
  · rcases hm with ⟨b1, b2, b3, b4⟩ | ⟨b1, b2, b3, b4⟩ | ⟨b1, b2, b3, b4⟩ | ⟨b1, b2, b3, b4⟩
    · rw [a2, a3, b2, b3]; exact ⟨hR.2.1, hR.2.2.1⟩
    · exfalso; omega
    · exfalso; omega
    · exfalso; omega
  · rcases hm with ⟨b1, b2, b3, b4⟩ | ⟨b1, b2, b3, b4⟩ | ⟨b1, b2, b3, b4⟩ | ⟨b1, b2, b3, b4⟩
    · exfalso; omega
    · rw [a2, a3, b2]; exact ⟨rfl, sec_p b3 (by decide +kernel)⟩
    · exfalso; omega
    · exfalso; omega
  · rcases hm with ⟨b1, b2, b3, b4⟩ | ⟨b1, b2, b3, b4⟩ | ⟨b1, b2, b3, b4⟩ | ⟨b1, b2, b3, b4⟩
    · exfalso; omega
    · exfalso; omega
    · rw [a2, a3, b2]; exact ⟨rfl, sec_p b3 (by decide +kernel)⟩
    · exfalso; omega
  · rcases hm with ⟨b1, b2, b3, b4⟩ | ⟨b1, b2, b3, b4⟩ | ⟨b1, b2, b3, b4⟩ | ⟨b1, b2, b3, b4⟩
    · exfalso; omega
    · exfalso; omega
    · exfalso; omega
    · rw [a2, a3, b2]; exact ⟨rfl, sec_p b3 (by decide +kernel)⟩
theorem eq_call {v0 v1 r1 r2 : Int32} {tl : Nat} {pe : Nat} {kn : Int32} {st : Nat → Nat} {sn : Nat → Nat} {sl : Nat → Nat} {q_taped : Nat} {q_people : Nat} {f_secrets : Nat → Int32} {f_lanes : Nat → Int32} {f_lengths : Nat → Int32} {knZ : Int32} {f_secretsZ : Nat → Int32} (hx : ((v0.toInt < 0 ∨ (pe : Int) ≤ v0.toInt ∨ v1.toInt < 0 ∨ (pe : Int) ≤ v1.toInt ∨ v0.toInt = v1.toInt) ∧ knZ = kn ∧ r1 = -1) ∨ ∃ i j : Nat, v0 = nI i ∧ v1 = nI j ∧ i < pe ∧ j < pe ∧ i ≠ j ∧ knZ = cl kn i j ∧ r1 = bcf (sc (cl kn i j) i)) (hm : ((v0.toInt < 0 ∨ (q_people : Int) ≤ v0.toInt ∨ v1.toInt < 0 ∨ (q_people : Int) ≤ v1.toInt ∨ v0.toInt = v1.toInt) ∧ f_secretsZ = f_secrets ∧ r2 = -1) ∨ ∃ i j : Nat, v0 = nI i ∧ v1 = nI j ∧ i < q_people ∧ j < q_people ∧ i ≠ j ∧ upd (upd f_secrets i (f_secrets i ||| f_secrets j)) j (f_secrets i ||| f_secrets j) = f_secretsZ ∧ r2 = nI (cb (bt (f_secrets i ||| f_secrets j)) 24)) (hR : RL_ tl pe kn st sn sl q_taped q_people f_secrets f_lanes f_lengths) (hb : tl ≤ 160 ∧ q_taped ≤ 160 ∧ pe ≤ 4) : r1 = r2 := by
  have h0 := hR.2.1
  rcases hx with ⟨a1, a2, a3⟩ | ⟨i, j, a1, a2, a3, a4, a5, a6, a7⟩
  · rcases hm with ⟨b1, b2, b3⟩ | ⟨i2, j2, b1, b2, b3, b4, b5, b6, b7⟩
    · rw [a3, b3]
    · exfalso; rw [b1, b2, nI_toInt (by omega), nI_toInt (by omega)] at a1; omega
  · rcases hm with ⟨b1, b2, b3⟩ | ⟨i2, j2, b1, b2, b3, b4, b5, b6, b7⟩
    · exfalso; rw [a1, a2, nI_toInt (by omega), nI_toInt (by omega)] at b1; omega
    · have e1 := (nI_eq (by omega) (by omega)).mp (a1.symm.trans b1)
      have e2 := (nI_eq (by omega) (by omega)).mp (a2.symm.trans b2)
      subst e1; subst e2
      rw [a7, b7]; exact SEC.ans hR.2.2.1 hb.2.2 a3 a4
theorem re_call {v0 v1 r1 r2 : Int32} {tl : Nat} {pe : Nat} {kn : Int32} {st : Nat → Nat} {sn : Nat → Nat} {sl : Nat → Nat} {q_taped : Nat} {q_people : Nat} {f_secrets : Nat → Int32} {f_lanes : Nat → Int32} {f_lengths : Nat → Int32} {knZ : Int32} {f_secretsZ : Nat → Int32} (hx : ((v0.toInt < 0 ∨ (pe : Int) ≤ v0.toInt ∨ v1.toInt < 0 ∨ (pe : Int) ≤ v1.toInt ∨ v0.toInt = v1.toInt) ∧ knZ = kn ∧ r1 = -1) ∨ ∃ i j : Nat, v0 = nI i ∧ v1 = nI j ∧ i < pe ∧ j < pe ∧ i ≠ j ∧ knZ = cl kn i j ∧ r1 = bcf (sc (cl kn i j) i)) (hm : ((v0.toInt < 0 ∨ (q_people : Int) ≤ v0.toInt ∨ v1.toInt < 0 ∨ (q_people : Int) ≤ v1.toInt ∨ v0.toInt = v1.toInt) ∧ f_secretsZ = f_secrets ∧ r2 = -1) ∨ ∃ i j : Nat, v0 = nI i ∧ v1 = nI j ∧ i < q_people ∧ j < q_people ∧ i ≠ j ∧ upd (upd f_secrets i (f_secrets i ||| f_secrets j)) j (f_secrets i ||| f_secrets j) = f_secretsZ ∧ r2 = nI (cb (bt (f_secrets i ||| f_secrets j)) 24)) (hR : RL_ tl pe kn st sn sl q_taped q_people f_secrets f_lanes f_lengths) (hb : tl ≤ 160 ∧ q_taped ≤ 160 ∧ pe ≤ 4) : SEC pe knZ f_secretsZ := by
  have h0 := hR.2.1
  rcases hx with ⟨a1, a2, a3⟩ | ⟨i, j, a1, a2, a3, a4, a5, a6, a7⟩
  · rcases hm with ⟨b1, b2, b3⟩ | ⟨i2, j2, b1, b2, b3, b4, b5, b6, b7⟩
    · rw [a2, b2]; exact hR.2.2.1
    · exfalso; rw [b1, b2, nI_toInt (by omega), nI_toInt (by omega)] at a1; omega
  · rcases hm with ⟨b1, b2, b3⟩ | ⟨i2, j2, b1, b2, b3, b4, b5, b6, b7⟩
    · exfalso; rw [a1, a2, nI_toInt (by omega), nI_toInt (by omega)] at b1; omega
    · have e1 := (nI_eq (by omega) (by omega)).mp (a1.symm.trans b1)
      have e2 := (nI_eq (by omega) (by omega)).mp (a2.symm.trans b2)
      subst e1; subst e2
      rw [a6]; exact SEC.call hR.2.2.1 hb.2.2 a3 a4 b6
theorem eq_secrets {v0 r1 r2 : Int32} {tl : Nat} {pe : Nat} {kn : Int32} {st : Nat → Nat} {sn : Nat → Nat} {sl : Nat → Nat} {q_taped : Nat} {q_people : Nat} {f_secrets : Nat → Int32} {f_lanes : Nat → Int32} {f_lengths : Nat → Int32} (hx : ((v0.toInt < 0 ∨ (pe : Int) ≤ v0.toInt) ∧ r1 = -1) ∨ ∃ i : Nat, v0 = nI i ∧ i < pe ∧ r1 = sc kn i) (hm : ((v0.toInt < 0 ∨ (q_people : Int) ≤ v0.toInt) ∧ r2 = -1) ∨ ∃ i : Nat, v0 = nI i ∧ i < q_people ∧ r2 = f_secrets i) (hR : RL_ tl pe kn st sn sl q_taped q_people f_secrets f_lanes f_lengths) (hb : tl ≤ 160 ∧ q_taped ≤ 160 ∧ pe ≤ 4) : r1 = r2 := by
  have h0 := hR.2.1
  rcases hx with ⟨a1, a2⟩ | ⟨i, a1, a2, a3⟩
  · rcases hm with ⟨b1, b2⟩ | ⟨i2, b1, b2, b3⟩
    · rw [a2, b2]
    · exfalso; rw [b1, nI_toInt (by omega)] at a1; omega
  · rcases hm with ⟨b1, b2⟩ | ⟨i2, b1, b2, b3⟩
    · exfalso; rw [a1, nI_toInt (by omega)] at b1; omega
    · have e1 := (nI_eq (by omega) (by omega)).mp (a1.symm.trans b1)
      subst e1
      rw [a3, b3, hR.2.2.1 i a2]
theorem eq_event {v0 v1 r1 r2 : Int32} {tl : Nat} {pe : Nat} {kn : Int32} {st : Nat → Nat} {sn : Nat → Nat} {sl : Nat → Nat} {q_taped : Nat} {q_people : Nat} {f_secrets : Nat → Int32} {f_lanes : Nat → Int32} {f_lengths : Nat → Int32} (hx : ((v0.toInt < 0 ∨ 3 < v0.toInt ∨ v1.toInt < 1 ∨ 4 < v1.toInt) ∧ r1 = -1) ∨ (0 ≤ v0.toInt ∧ v0.toInt ≤ 3 ∧ 1 ≤ v1.toInt ∧ v1.toInt ≤ 4 ∧ r1 = 1)) (hm : ((v0.toInt < 0 ∨ 3 < v0.toInt ∨ v1.toInt < 1 ∨ 4 < v1.toInt) ∧ r2 = -1) ∨ (0 ≤ v0.toInt ∧ v0.toInt ≤ 3 ∧ 1 ≤ v1.toInt ∧ v1.toInt ≤ 4 ∧ r2 = 1)) (hR : RL_ tl pe kn st sn sl q_taped q_people f_secrets f_lanes f_lengths) (hb : tl ≤ 160 ∧ q_taped ≤ 160 ∧ pe ≤ 4) : r1 = r2 := by
  rcases hx with ⟨a1, a2⟩ | ⟨a1, a2, a3, a4, a5⟩ <;> rcases hm with ⟨b1, b2⟩ | ⟨b1, b2, b3, b4, b5⟩ <;> first | (rw [a2, b2]; done) | (rw [a5, b5]; done) | (exfalso; omega)
theorem eq_sheet {v0 v1 v2 r1 r2 : Int32} {tl : Nat} {pe : Nat} {kn : Int32} {st : Nat → Nat} {sn : Nat → Nat} {sl : Nat → Nat} {q_taped : Nat} {q_people : Nat} {f_secrets : Nat → Int32} {f_lanes : Nat → Int32} {f_lengths : Nat → Int32} {stZ : Nat → Nat} {snZ : Nat → Nat} {slZ : Nat → Nat} {f_lanesZ : Nat → Int32} {f_lengthsZ : Nat → Int32} (hx : ((v0.toInt < 0 ∨ 3 < v0.toInt ∨ v1.toInt < 0 ∨ 2 < v1.toInt ∨ 48 < v2.toInt) ∧ r1 = -1 ∧ stZ = st ∧ snZ = sn ∧ slZ = sl) ∨ ((0 ≤ v0.toInt ∧ v0.toInt ≤ 3 ∧ 0 ≤ v1.toInt ∧ v1.toInt ≤ 2 ∧ v2.toInt < 0) ∧ r1 = -14 ∧ stZ = st ∧ snZ = sn ∧ slZ = sl) ∨ ∃ k_ l_ n_ : Nat, v0 = nI k_ ∧ v1 = nI l_ ∧ v2 = nI n_ ∧ k_ ≤ 3 ∧ l_ ≤ 2 ∧ n_ ≤ 48 ∧ (∀ i, i < 4 → stZ i = if i = k_ then 1 else st i) ∧ (∀ i, i < 4 → snZ i = if i = k_ then n_ else sn i) ∧ (∀ i, i < 4 → slZ i = if i = k_ then l_ else sl i) ∧ r1 = 1) (hm : ((v0.toInt < 0 ∨ 3 < v0.toInt ∨ v1.toInt < 0 ∨ 2 < v1.toInt ∨ 48 < v2.toInt) ∧ r2 = -1 ∧ f_lanesZ = f_lanes ∧ f_lengthsZ = f_lengths) ∨ ((0 ≤ v0.toInt ∧ v0.toInt ≤ 3 ∧ 0 ≤ v1.toInt ∧ v1.toInt ≤ 2 ∧ v2.toInt < 0) ∧ r2 = -14 ∧ f_lanesZ = f_lanes ∧ f_lengthsZ = f_lengths) ∨ ∃ k_ l_ n_ : Nat, v0 = nI k_ ∧ v1 = nI l_ ∧ v2 = nI n_ ∧ k_ ≤ 3 ∧ l_ ≤ 2 ∧ n_ ≤ 48 ∧ upd f_lanes k_ (nI l_) = f_lanesZ ∧ upd f_lengths k_ (nI n_) = f_lengthsZ ∧ r2 = 1) (hR : RL_ tl pe kn st sn sl q_taped q_people f_secrets f_lanes f_lengths) (hb : tl ≤ 160 ∧ q_taped ≤ 160 ∧ pe ≤ 4) : r1 = r2 := by
  rcases hx with ⟨a1, a2, a3⟩ | ⟨a1, a2, a3⟩ | ⟨k1, l1, n1, a1, a2, a3, a4, a5, a6, a7, a8, a9, a0⟩
  · rcases hm with ⟨b1, b2, b3⟩ | ⟨b1, b2, b3⟩ | ⟨k2, l2, n2, b1, b2, b3, b4, b5, b6, b7, b8, b0⟩
    · rw [a2, b2]
    · exfalso; omega
    · exfalso; rw [b1, b2, b3, nI_toInt (by omega), nI_toInt (by omega), nI_toInt (by omega)] at a1; omega
  · rcases hm with ⟨b1, b2, b3⟩ | ⟨b1, b2, b3⟩ | ⟨k2, l2, n2, b1, b2, b3, b4, b5, b6, b7, b8, b0⟩
    · exfalso; omega
    · rw [a2, b2]
    · exfalso; rw [b1, b2, b3, nI_toInt (by omega), nI_toInt (by omega), nI_toInt (by omega)] at a1; omega
  · rcases hm with ⟨b1, b2, b3⟩ | ⟨b1, b2, b3⟩ | ⟨k2, l2, n2, b1, b2, b3, b4, b5, b6, b7, b8, b0⟩
    · exfalso; rw [a1, a2, a3, nI_toInt (by omega), nI_toInt (by omega), nI_toInt (by omega)] at b1; omega
    · exfalso; rw [a1, a2, a3, nI_toInt (by omega), nI_toInt (by omega), nI_toInt (by omega)] at b1; omega
    · rw [a0, b0]
theorem re_sheet {v0 v1 v2 r1 r2 : Int32} {tl : Nat} {pe : Nat} {kn : Int32} {st : Nat → Nat} {sn : Nat → Nat} {sl : Nat → Nat} {q_taped : Nat} {q_people : Nat} {f_secrets : Nat → Int32} {f_lanes : Nat → Int32} {f_lengths : Nat → Int32} {stZ : Nat → Nat} {snZ : Nat → Nat} {slZ : Nat → Nat} {f_lanesZ : Nat → Int32} {f_lengthsZ : Nat → Int32} (hx : ((v0.toInt < 0 ∨ 3 < v0.toInt ∨ v1.toInt < 0 ∨ 2 < v1.toInt ∨ 48 < v2.toInt) ∧ r1 = -1 ∧ stZ = st ∧ snZ = sn ∧ slZ = sl) ∨ ((0 ≤ v0.toInt ∧ v0.toInt ≤ 3 ∧ 0 ≤ v1.toInt ∧ v1.toInt ≤ 2 ∧ v2.toInt < 0) ∧ r1 = -14 ∧ stZ = st ∧ snZ = sn ∧ slZ = sl) ∨ ∃ k_ l_ n_ : Nat, v0 = nI k_ ∧ v1 = nI l_ ∧ v2 = nI n_ ∧ k_ ≤ 3 ∧ l_ ≤ 2 ∧ n_ ≤ 48 ∧ (∀ i, i < 4 → stZ i = if i = k_ then 1 else st i) ∧ (∀ i, i < 4 → snZ i = if i = k_ then n_ else sn i) ∧ (∀ i, i < 4 → slZ i = if i = k_ then l_ else sl i) ∧ r1 = 1) (hm : ((v0.toInt < 0 ∨ 3 < v0.toInt ∨ v1.toInt < 0 ∨ 2 < v1.toInt ∨ 48 < v2.toInt) ∧ r2 = -1 ∧ f_lanesZ = f_lanes ∧ f_lengthsZ = f_lengths) ∨ ((0 ≤ v0.toInt ∧ v0.toInt ≤ 3 ∧ 0 ≤ v1.toInt ∧ v1.toInt ≤ 2 ∧ v2.toInt < 0) ∧ r2 = -14 ∧ f_lanesZ = f_lanes ∧ f_lengthsZ = f_lengths) ∨ ∃ k_ l_ n_ : Nat, v0 = nI k_ ∧ v1 = nI l_ ∧ v2 = nI n_ ∧ k_ ≤ 3 ∧ l_ ≤ 2 ∧ n_ ≤ 48 ∧ upd f_lanes k_ (nI l_) = f_lanesZ ∧ upd f_lengths k_ (nI n_) = f_lengthsZ ∧ r2 = 1) (hR : RL_ tl pe kn st sn sl q_taped q_people f_secrets f_lanes f_lengths) (hb : tl ≤ 160 ∧ q_taped ≤ 160 ∧ pe ≤ 4) : SHE stZ snZ slZ f_lanesZ f_lengthsZ := by
  rcases hx with ⟨a1, a2, a3⟩ | ⟨a1, a2, a3⟩ | ⟨k1, l1, n1, a1, a2, a3, a4, a5, a6, a7, a8, a9, a0⟩
  · rcases hm with ⟨b1, b2, b3⟩ | ⟨b1, b2, b3⟩ | ⟨k2, l2, n2, b1, b2, b3, b4, b5, b6, b7, b8, b0⟩
    · rw [a3.1, a3.2.1, a3.2.2, b3.1, b3.2]; exact hR.2.2.2
    · exfalso; omega
    · exfalso; rw [b1, b2, b3, nI_toInt (by omega), nI_toInt (by omega), nI_toInt (by omega)] at a1; omega
  · rcases hm with ⟨b1, b2, b3⟩ | ⟨b1, b2, b3⟩ | ⟨k2, l2, n2, b1, b2, b3, b4, b5, b6, b7, b8, b0⟩
    · exfalso; omega
    · rw [a3.1, a3.2.1, a3.2.2, b3.1, b3.2]; exact hR.2.2.2
    · exfalso; rw [b1, b2, b3, nI_toInt (by omega), nI_toInt (by omega), nI_toInt (by omega)] at a1; omega
  · rcases hm with ⟨b1, b2, b3⟩ | ⟨b1, b2, b3⟩ | ⟨k2, l2, n2, b1, b2, b3, b4, b5, b6, b7, b8, b0⟩
    · exfalso; rw [a1, a2, a3, nI_toInt (by omega), nI_toInt (by omega), nI_toInt (by omega)] at b1; omega
    · exfalso; rw [a1, a2, a3, nI_toInt (by omega), nI_toInt (by omega), nI_toInt (by omega)] at b1; omega
    · have e1 := (nI_eq (by omega) (by omega)).mp (a1.symm.trans b1)
      have e2 := (nI_eq (by omega) (by omega)).mp (a2.symm.trans b2)
      have e3 := (nI_eq (by omega) (by omega)).mp (a3.symm.trans b3)
      subst e1; subst e2; subst e3
      exact SHE.put hR.2.2.2 a5 a6 a7 a8 a9 b7 b8
theorem eq_write {v0 v1 r1 r2 : Int32} {tl : Nat} {pe : Nat} {kn : Int32} {st : Nat → Nat} {sn : Nat → Nat} {sl : Nat → Nat} {q_taped : Nat} {q_people : Nat} {f_secrets : Nat → Int32} {f_lanes : Nat → Int32} {f_lengths : Nat → Int32} (hx : ((v0.toInt < 0 ∨ 3 < v0.toInt) ∧ r1 = -1) ∨ ∃ k_ : Nat, v0 = nI k_ ∧ k_ ≤ 3 ∧ ((st k_ = 0 ∧ r1 = -11) ∨ (st k_ = 1 ∧ (v1.toInt < 0 ∨ ((sn k_ : Nat) : Int) ≤ v1.toInt) ∧ r1 = -12) ∨ (st k_ = 1 ∧ (0 ≤ v1.toInt ∧ v1.toInt < ((sn k_ : Nat) : Int)) ∧ r1 = 1))) (hm : ((v0.toInt < 0 ∨ 3 < v0.toInt) ∧ r2 = -1) ∨ ∃ k_ : Nat, v0 = nI k_ ∧ k_ ≤ 3 ∧ ((f_lanes k_ = -4 ∧ r2 = -11) ∨ (f_lanes k_ ≠ -4 ∧ (v1.toInt < 0 ∨ ((cN f_lengths k_ : Nat) : Int) ≤ v1.toInt) ∧ r2 = -12) ∨ (f_lanes k_ ≠ -4 ∧ (0 ≤ v1.toInt ∧ v1.toInt < ((cN f_lengths k_ : Nat) : Int)) ∧ r2 = 1))) (hR : RL_ tl pe kn st sn sl q_taped q_people f_secrets f_lanes f_lengths) (hb : tl ≤ 160 ∧ q_taped ≤ 160 ∧ pe ≤ 4) : r1 = r2 := by
  rcases hx with ⟨a1, a2⟩ | ⟨k1, a1, a2, a3⟩
  · rcases hm with ⟨b1, b2⟩ | ⟨k2, b1, b2, b3⟩
    · rw [a2, b2]
    · exfalso; rw [b1, nI_toInt (by omega)] at a1; omega
  · rcases hm with ⟨b1, b2⟩ | ⟨k2, b1, b2, b3⟩
    · exfalso; rw [a1, nI_toInt (by omega)] at b1; omega
    · have e1 := (nI_eq (by omega) (by omega)).mp (a1.symm.trans b1)
      subst e1
      have hl := SHE.len hR.2.2.2 (k := k1) (by omega)
      have hn := SHE.no hR.2.2.2 (k := k1) (by omega)
      rw [hl] at b3
      rcases a3 with ⟨p1, p2⟩ | ⟨p1, p2, p3⟩ | ⟨p1, p2, p3⟩
      · rcases b3 with ⟨q1, q2⟩ | ⟨q1, q2, q3⟩ | ⟨q1, q2, q3⟩
        · rw [p2, q2]
        · exfalso; rcases hn with ⟨h1, h2⟩ | ⟨h1, h2⟩ <;> first | exact q1 h2 | omega
        · exfalso; rcases hn with ⟨h1, h2⟩ | ⟨h1, h2⟩ <;> first | exact q1 h2 | omega
      · rcases b3 with ⟨q1, q2⟩ | ⟨q1, q2, q3⟩ | ⟨q1, q2, q3⟩
        · exfalso; rcases hn with ⟨h1, h2⟩ | ⟨h1, h2⟩ <;> first | exact h2 q1 | omega
        · rw [p3, q3]
        · exfalso; omega
      · rcases b3 with ⟨q1, q2⟩ | ⟨q1, q2, q3⟩ | ⟨q1, q2, q3⟩
        · exfalso; rcases hn with ⟨h1, h2⟩ | ⟨h1, h2⟩ <;> first | exact h2 q1 | omega
        · exfalso; omega
        · rw [p3, q3]
