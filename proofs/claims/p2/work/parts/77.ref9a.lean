/-! classes and depth, of the reference's rounds -/
theorem rk_mlp {m : AM} {fl : Nat → Int32} (h48 : m.1 ≤ 48) (hx : RKx (cm1 m) m.1 m.1 fl) : cb (fun w => decide (fl w = nI w)) m.1 = cb (mlP m) m.1 := cb_congr (fun w hw => by
  have l1 := (rk_le (cm1 m) m.1 w).1
  show decide (fl w = nI w) = decide (rk (cm1 m) m.1 w = w)
  rw [hx w hw]
  exact dec_cg (nI_eq (by omega) (by omega)))
theorem dep_r {c : CMl} {z r u v : Nat} (hst : RST c z) (hr : r ≤ z) (h : ∀ s, s < r → rk c s u = rk c s v) (hne : rk c r u ≠ rk c r v) (hu : u < c.1) (hv : v < c.1) : r ≤ c.1 := by
  obtain ⟨q, e, hq, h1⟩ := hst
  subst e
  by_cases w : r = q + 1
  · exfalso; apply hne
    rw [w, h1 u hu, h1 v hv]; exact h q (by omega)
  · omega
theorem dep_none {c : CMl} {z u v : Nat} (hst : RST c z) (hw : CWF c) (h : ∀ s, s < z + 1 → rk c s u = rk c s v) (hu : u < c.1) (hv : v < c.1) : ∀ s, rk c s u = rk c s v := fun s => by
  obtain ⟨q, e, hq, h1⟩ := hst
  subst e
  rcases Nat.lt_or_ge s q with w | w
  · exact h s (by omega)
  · obtain ⟨d, rfl⟩ : ∃ d, s = q + d := ⟨s - q, by omega⟩
    rw [rk_rest hw h1 d u hu, rk_rest hw h1 d v hv]; exact h q (by omega)
theorem rk_eq2 {c : CMl} {hp : Nat → Int32} {r u v : Nat} {x y : Int32} (h48 : c.1 ≤ 48) (h : RKx c c.1 r (rowH hp r)) (hu : u < c.1) (hv : v < c.1) (ex : hp (48 * r + u) = x) (ey : hp (48 * r + v) = y) : x.toInt = y.toInt ↔ rk c r u = rk c r v := by
  have h1 := rk_eqv (n := c.1) h hu hv h48
  unfold rowH at h1
  rw [ex, ey] at h1
  exact ⟨fun q => h1.mp (Int32.toInt_inj.mp q), fun q => congrArg Int32.toInt (h1.mpr q)⟩
/-- what keep makes of the pages -/
def KPU (PG PG' : Nat → AM) : Prop := ∀ p, p < 18 → (p < 6 ∨ 10 ≤ p) → PG' p = PG p
theorem KPU.rf {PG : Nat → AM} : KPU PG PG := fun _ _ _ => rfl
theorem kp_copy {PG PG' : Nat → AM} {kc : Nat} (h : ∀ j, j < 18 → PG' j = if j = 6 + kc then PG 0 else PG j) (hk : kc < 4) : KPU PG PG' ∧ ∀ i, i < 4 → PG' (6 + i) = if i = kc then PG 0 else PG (6 + i) := by
  refine ⟨fun p a b => (h p a).trans (if_neg (by omega)), fun i hi => ?_⟩
  rw [h (6 + i) (by omega)]
  by_cases q : i = kc
  · rw [if_pos q, if_pos (show 6 + i = 6 + kc by omega)]
  · rw [if_neg q, if_neg (show ¬ 6 + i = 6 + kc by omega)]
/-! melted, by the reference -/
theorem mlg_1 {m : AM} {fl : Nat → Int32} {w : Nat} {x : Int32} (h48 : m.1 ≤ 48) (hx : RKx (cm1 m) m.1 m.1 fl) (hw : w < m.1) (e : fl w = x) (hz : x.toInt = (w : Int)) : mlP m w = true := by
  have l1 := (rk_le (cm1 m) m.1 w).1
  have h1 := hx w hw
  rw [e] at h1
  rw [h1, nI_toInt (by omega)] at hz
  exact decide_eq_true (show rk (cm1 m) m.1 w = w by omega)
theorem mlg_0 {m : AM} {fl : Nat → Int32} {w : Nat} {x : Int32} (h48 : m.1 ≤ 48) (hx : RKx (cm1 m) m.1 m.1 fl) (hw : w < m.1) (e : fl w = x) (hz : x.toInt ≠ (w : Int)) : mlP m w = false := by
  have l1 := (rk_le (cm1 m) m.1 w).1
  have h1 := hx w hw
  rw [e] at h1
  rw [h1, nI_toInt (by omega)] at hz
  exact decide_eq_false (show ¬ rk (cm1 m) m.1 w = w by omega)
theorem melt_row {m : AM} {k p : Nat} {bs x : Int32} (h24 : m.1 ≤ 24) (hw : WFm m) (hb : ∀ v, m.2.2.2 k p v = bt bs v) (h : CLx bs (fun v => cb (mlP m) (clsS (cm1 m) v)) 24 x) : BS x (fun j => decide (j < cb (mlP m) m.1) && anyN (fun v => m.2.2.2 k p v && decide (clsS (cm1 m) v = nth (mlP m) m.1 j)) 24) := BS.cg h (fun j _ => by
  apply bool_iff
  show anyN (fun v => bt bs v && decide (cb (mlP m) (clsS (cm1 m) v) = j)) 24 = true ↔ (decide (j < cb (mlP m) m.1) && anyN (fun v => m.2.2.2 k p v && decide (clsS (cm1 m) v = nth (mlP m) m.1 j)) 24) = true
  rw [Bool.and_eq_true, anyN_iff, anyN_iff, decide_eq_true_eq]
  constructor
  · rintro ⟨v, hv, h3⟩
    rw [Bool.and_eq_true, decide_eq_true_eq] at h3
    have h4 : v < m.1 := hw k p v (by rw [hb v]; exact h3.1)
    have h5 := ml_le (m := m) v
    have h6 := ml_cls (m := m) v
    refine ⟨by rw [← h3.2]; exact cb_lt (show clsS (cm1 m) v < m.1 by omega) h6, v, hv, ?_⟩
    rw [hb v, h3.1, Bool.true_and, ← h3.2, nth_cb (show clsS (cm1 m) v < m.1 by omega) h6]
    exact decide_eq_true rfl
  · rintro ⟨hj, v, hv, h3⟩
    rw [hb v, Bool.and_eq_true, decide_eq_true_eq] at h3
    refine ⟨v, hv, ?_⟩
    rw [h3.1, Bool.true_and, h3.2, (nth_in hj).2.2]
    exact decide_eq_true rfl)
theorem sh_up0 {f g : Nat → Int32} {k t : Nat} {x : Int32} (e : upd f (24 * k + t) x = g) : upd f (k * 24 + t) x = g := by rw [Nat.mul_comm k 24]; exact e
theorem pg_melt {fm' fr' ff' fp' : Nat → Int32} {m : AM} (h24 : m.1 ≤ 24) (h1 : cN fm' 0 = cb (mlP m) m.1) (h2 : cN fr' 0 = cb (mlP m) (clsS (cm1 m) m.2.1)) (h3 : PFx (mlP m) m.1 m.2.2.1 ff') (h4 : PRy (mlP m) m.1 m.1 0 (fun k p q => anyN (fun v => m.2.2.2 k p v && decide (clsS (cm1 m) v = q)) 24) fp') : pgs fm' fr' ff' fp' 0 = aMelt m := by
  rw [pgs_0]
  have hc := cb_le (mlP m) m.1
  unfold aMelt
  rw [h2]
  exact cmp_am h1 (by omega) h3 (fun k p a b c => h4 k p a b c (Or.inl b))
theorem rk_eq3 {c : CMl} {hp : Nat → Int32} {z u v : Nat} {x y : Int32} (h48 : c.1 ≤ 48) (h : RKx c c.1 c.1 (rowH hp z)) (hu : u < c.1) (hv : v < c.1) (ex : hp (48 * z + u) = x) (ey : hp (48 * z + v) = y) : x.toInt = y.toInt ↔ clsS c u = clsS c v := by
  have h1 := rk_eqv (n := c.1) h hu hv h48
  unfold rowH at h1
  rw [ex, ey] at h1
  exact ⟨fun q => h1.mp (Int32.toInt_inj.mp q), fun q => congrArg Int32.toInt (h1.mpr q)⟩
theorem dX12_classes_0 : decode cX12_classes 0 = .ok (.aload_n 0, 1) := by decide +kernel
theorem dX12_classes_1 : decode cX12_classes 1 = .ok (.iconst 0, 1) := by decide +kernel
theorem dX12_classes_2 : decode cX12_classes 2 = .ok (.bipush (-4), 2) := by decide +kernel
theorem dX12_classes_4 : decode cX12_classes 4 = .ok (.invokevirtual 298, 3) := by decide +kernel
theorem wl_X12_298 : Cond.methodLink RX12 298 yX12_layHeaps ∈ TB := tbm (tq6 (List.mem_of_getElem? (i := 209) (by decide +kernel))) (by decide +kernel)
theorem wc_X12_layHeaps : Cond.code yX12_layHeaps cX12_layHeaps 6 none ∈ TB := tbm (tq6 (List.mem_of_getElem? (i := 212) (rfl))) (by decide +kernel)
theorem wi_X12_layHeaps : Cond.instanceMethod yX12_layHeaps ∈ TB := tbm (tq6 (List.mem_of_getElem? (i := 211) (by decide +kernel))) (by decide +kernel)
theorem ws_X12_layHeaps : Cond.selects RX12 yX12_layHeaps yX12_layHeaps ∈ TB := tbm (tq0 (List.mem_of_getElem? (i := 68) (by decide +kernel))) (by decide +kernel)
theorem mi_X12_layHeaps : MI yX12_layHeaps cX12_layHeaps 6 none 2 := ⟨wc_X12_layHeaps, wn_X12, ⟨by decide +kernel, by decide +kernel, by decide +kernel⟩, wi_X12_layHeaps, ws_X12_layHeaps⟩
theorem dX12_classes_7 : decode cX12_classes 7 = .ok (.iconst 0, 1) := by decide +kernel
theorem dX12_classes_8 : decode cX12_classes 8 = .ok (.istore_n 1, 1) := by decide +kernel
theorem dX12_classes_9 : decode cX12_classes 9 = .ok (.iconst 0, 1) := by decide +kernel
theorem dX12_classes_10 : decode cX12_classes 10 = .ok (.istore_n 2, 1) := by decide +kernel
theorem dX12_classes_11 : decode cX12_classes 11 = .ok (.iload_n 2, 1) := by decide +kernel
theorem dX12_classes_12 : decode cX12_classes 12 = .ok (.aload_n 0, 1) := by decide +kernel
theorem dX12_classes_13 : decode cX12_classes 13 = .ok (.getfield 282, 3) := by decide +kernel
theorem dX12_classes_16 : decode cX12_classes 16 = .ok (.if_icmp .ge 26, 3) := by decide +kernel
theorem dX12_classes_42 : decode cX12_classes 42 = .ok (.iload_n 1, 1) := by decide +kernel
theorem dX12_classes_43 : decode cX12_classes 43 = .ok (.ireturn, 1) := by decide +kernel
theorem dX12_classes_19 : decode cX12_classes 19 = .ok (.iload_n 1, 1) := by decide +kernel
theorem dX12_classes_20 : decode cX12_classes 20 = .ok (.aload_n 0, 1) := by decide +kernel
theorem dX12_classes_21 : decode cX12_classes 21 = .ok (.iload_n 2, 1) := by decide +kernel
theorem dX12_classes_22 : decode cX12_classes 22 = .ok (.invokevirtual 301, 3) := by decide +kernel
theorem wl_X12_301 : Cond.methodLink RX12 301 yX12_heapOf ∈ TB := tbm (tq6 (List.mem_of_getElem? (i := 225) (by decide +kernel))) (by decide +kernel)
theorem wc_X12_heapOf : Cond.code yX12_heapOf cX12_heapOf 2 (some .int) ∈ TB := tbm (tq6 (List.mem_of_getElem? (i := 228) (rfl))) (by decide +kernel)
theorem wi_X12_heapOf : Cond.instanceMethod yX12_heapOf ∈ TB := tbm (tq6 (List.mem_of_getElem? (i := 227) (by decide +kernel))) (by decide +kernel)
theorem ws_X12_heapOf : Cond.selects RX12 yX12_heapOf yX12_heapOf ∈ TB := tbm (tq0 (List.mem_of_getElem? (i := 72) (by decide +kernel))) (by decide +kernel)
theorem mi_X12_heapOf : MI yX12_heapOf cX12_heapOf 2 (some .int) 1 := ⟨wc_X12_heapOf, wn_X12, ⟨by decide +kernel, by decide +kernel, by decide +kernel⟩, wi_X12_heapOf, ws_X12_heapOf⟩
theorem dX12_classes_25 : decode cX12_classes 25 = .ok (.iload_n 2, 1) := by decide +kernel
theorem dX12_classes_26 : decode cX12_classes 26 = .ok (.if_icmp .ne 7, 3) := by decide +kernel
theorem dX12_classes_33 : decode cX12_classes 33 = .ok (.iconst 0, 1) := by decide +kernel
theorem dX12_classes_34 : decode cX12_classes 34 = .ok (.iadd, 1) := by decide +kernel
theorem dX12_classes_35 : decode cX12_classes 35 = .ok (.istore_n 1, 1) := by decide +kernel
theorem dX12_classes_36 : decode cX12_classes 36 = .ok (.iinc 2 1, 3) := by decide +kernel
theorem dX12_classes_39 : decode cX12_classes 39 = .ok (.goto (-28), 3) := by decide +kernel
theorem dX12_classes_29 : decode cX12_classes 29 = .ok (.iconst 1, 1) := by decide +kernel
theorem dX12_classes_30 : decode cX12_classes 30 = .ok (.goto 4, 3) := by decide +kernel
set_option maxRecDepth 100000 in
set_option maxHeartbeats 4000000 in
theorem y_classes (l : Launch) (E : EV) (ro : va_W) (hm : Nat) (m_manys : Nat) (m_reals : Nat) (m_factsOf : Nat) (m_possible : Nat) (q_undos : Nat) (q_models : Nat) (m_tape : Nat) (q_taped : Nat) (q_fault : Int32) (q_wrong : Int32) (q_wrongAt : Int32) (q_spot : Int32) (q_place : Int32) (q_token : Int32) (q_value : Int32) (m_ends : Nat) (m_letters : Nat) (m_actOf : Nat) (m_whom : Nat) (m_actMany : Nat) (m_tokens : Nat) (m_afters : Nat) (m_afterOf : Nat) (q_counted : Int32) (m_pile : Nat) (m_caseMany : Nat) (m_happen : Nat) (m_hasIf : Nat) (m_becomes : Nat) (m_goneOf : Nat) (m_heard : Nat) (m_pairs : Nat) (m_heaps : Nat) (q_rounds : Int32) (q_heapMany : Int32) (m_led : Nat) (m_newAt : Nat) (m_knowing : Nat) (m_firsts : Nat) (q_people : Nat) (m_secrets : Nat) (m_tried : Nat) (m_lanes : Nat) (m_lengths : Nat) (m_cells : Nat) (f_manys : Nat → Int32) (f_reals : Nat → Int32) (f_factsOf : Nat → Int32) (f_possible : Nat → Int32) (f_heaps : Nat → Int32) (f_led : Nat → Int64) (hb_manys : NB 18 24 f_manys) (hb_reals : NB 18 23 f_reals) (hpg : PG f_manys f_reals) (hwf : WFP (pgs f_manys f_reals f_factsOf f_possible)) : CT l yX12_classes (Cond.code yX12_classes cX12_classes 3 (some .int) :: TB) ({ frames := 3, cells := 0, slots := 0, locals := 78 }) E ro [.ref hm] [(hm, .inr (12, [.ref m_manys, .ref m_reals, .ref m_factsOf, .ref m_possible, .int (nI q_undos), .int (nI q_models), .ref m_tape, .int (nI q_taped), .int q_fault, .int q_wrong, .int q_wrongAt, .int q_spot, .int q_place, .int q_token, .int q_value, .ref m_ends, .ref m_letters, .ref m_actOf, .ref m_whom, .ref m_actMany, .ref m_tokens, .ref m_afters, .ref m_afterOf, .int q_counted, .ref m_pile, .ref m_caseMany, .ref m_happen, .ref m_hasIf, .ref m_becomes, .ref m_goneOf, .ref m_heard, .ref m_pairs, .ref m_heaps, .int q_rounds, .int q_heapMany, .ref m_led, .ref m_newAt, .ref m_knowing, .ref m_firsts, .int (nI q_people), .ref m_secrets, .ref m_tried, .ref m_lanes, .ref m_lengths, .ref m_cells])), (m_manys, .inl (E.2.1 1, 18, .inl f_manys)), (m_reals, .inl (E.2.1 1, 18, .inl f_reals)), (m_factsOf, .inl (E.2.1 1, 432, .inl f_factsOf)), (m_possible, .inl (E.2.1 1, 1728, .inl f_possible)), (m_heaps, .inl (E.2.1 1, 2400, .inl f_heaps)), (m_led, .inl (E.2.1 2, 192, .inr (.inl f_led)))] (Qi E (fun (rz : Int32) uz => (∃ (rz_ : Int32) (hmz : Int32) (f_heapsz : Nat → Int32) (f_ledz : Nat → Int64), uz = [(hm, .inr (12, [.ref m_manys, .ref m_reals, .ref m_factsOf, .ref m_possible, .int (nI q_undos), .int (nI q_models), .ref m_tape, .int (nI q_taped), .int q_fault, .int q_wrong, .int q_wrongAt, .int q_spot, .int q_place, .int q_token, .int q_value, .ref m_ends, .ref m_letters, .ref m_actOf, .ref m_whom, .ref m_actMany, .ref m_tokens, .ref m_afters, .ref m_afterOf, .int q_counted, .ref m_pile, .ref m_caseMany, .ref m_happen, .ref m_hasIf, .ref m_becomes, .ref m_goneOf, .ref m_heard, .ref m_pairs, .ref m_heaps, .int rz_, .int hmz, .ref m_led, .ref m_newAt, .ref m_knowing, .ref m_firsts, .int (nI q_people), .ref m_secrets, .ref m_tried, .ref m_lanes, .ref m_lengths, .ref m_cells])), (m_manys, .inl (E.2.1 1, 18, .inl f_manys)), (m_reals, .inl (E.2.1 1, 18, .inl f_reals)), (m_factsOf, .inl (E.2.1 1, 432, .inl f_factsOf)), (m_possible, .inl (E.2.1 1, 1728, .inl f_possible)), (m_heaps, .inl (E.2.1 1, 2400, .inl f_heapsz)), (m_led, .inl (E.2.1 2, 192, .inr (.inl f_ledz)))] ∧ (rz = ansClasses (pgs f_manys f_reals f_factsOf f_possible 0))))) 0 0 := by
  refine ct_of rfl rfl ?_
  intro X C hT hin hro
  show WW X 3 E 0 [(0, .ref hm)] [] [(hm, .inr (12, [.ref m_manys, .ref m_reals, .ref m_factsOf, .ref m_possible, .int (nI q_undos), .int (nI q_models), .ref m_tape, .int (nI q_taped), .int q_fault, .int q_wrong, .int q_wrongAt, .int q_spot, .int q_place, .int q_token, .int q_value, .ref m_ends, .ref m_letters, .ref m_actOf, .ref m_whom, .ref m_actMany, .ref m_tokens, .ref m_afters, .ref m_afterOf, .int q_counted, .ref m_pile, .ref m_caseMany, .ref m_happen, .ref m_hasIf, .ref m_becomes, .ref m_goneOf, .ref m_heard, .ref m_pairs, .ref m_heaps, .int q_rounds, .int q_heapMany, .ref m_led, .ref m_newAt, .ref m_knowing, .ref m_firsts, .int (nI q_people), .ref m_secrets, .ref m_tried, .ref m_lanes, .ref m_lengths, .ref m_cells])), (m_manys, .inl (E.2.1 1, 18, .inl f_manys)), (m_reals, .inl (E.2.1 1, 18, .inl f_reals)), (m_factsOf, .inl (E.2.1 1, 432, .inl f_factsOf)), (m_possible, .inl (E.2.1 1, 1728, .inl f_possible)), (m_heaps, .inl (E.2.1 1, 2400, .inl f_heaps)), (m_led, .inl (E.2.1 2, 192, .inr (.inl f_led)))] 0 0
  have hmn0 := (hb_manys 0 (by omega)).2
  refine ww_aload_n C dX12_classes_0 0 rfl rfl ?_
  refine ww_iconst (v := 0) C dX12_classes_1 rfl ?_
  refine ww_bipush (v := (-4)) C dX12_classes_2 rfl ?_
  refine ww_cv (wr := []) (k' := 0) (n' := 0) C (run_V (As := [.int 0, .int (-4)]) (rest := []) C (r_layHeapsN X.2.1 E ro hm m_manys m_reals m_factsOf m_possible q_undos q_models m_tape q_taped q_fault q_wrong q_wrongAt q_spot q_place q_token q_value m_ends m_letters m_actOf m_whom m_actMany m_tokens m_afters m_afterOf q_counted m_pile m_caseMany m_happen m_hasIf m_becomes m_goneOf m_heard m_pairs m_heaps q_rounds q_heapMany m_led m_newAt m_knowing m_firsts q_people m_secrets m_tried m_lanes m_lengths m_cells f_manys f_reals f_factsOf f_possible f_heaps f_led hb_manys hb_reals hpg hwf) mi_X12_layHeaps wl_X12_298 rfl 0 12 rfl rfl rfl rfl rfl dX12_classes_4) (roK hro) [0, 1, 2, 3, 4, 5, 6] [] rfl rfl rfl rfl (fun uz hw => ?_)
  refine ex4 hw ?_
  clear hw
  intro rz__2 hmz_3 f_heapsz_4 f_ledz_5 hw
  refine an5 hw ?_
  clear hw
  intro he_11 h_6 h_7 h_8 h_9 hw
  have h_10 := hw
  clear hw
  subst he_11
  refine ww_eq (ws' := [(hm, .inr (12, [.ref m_manys, .ref m_reals, .ref m_factsOf, .ref m_possible, .int (nI q_undos), .int (nI q_models), .ref m_tape, .int (nI q_taped), .int q_fault, .int q_wrong, .int q_wrongAt, .int q_spot, .int q_place, .int q_token, .int q_value, .ref m_ends, .ref m_letters, .ref m_actOf, .ref m_whom, .ref m_actMany, .ref m_tokens, .ref m_afters, .ref m_afterOf, .int q_counted, .ref m_pile, .ref m_caseMany, .ref m_happen, .ref m_hasIf, .ref m_becomes, .ref m_goneOf, .ref m_heard, .ref m_pairs, .ref m_heaps, .int (nI rz__2), .int (nI hmz_3), .ref m_led, .ref m_newAt, .ref m_knowing, .ref m_firsts, .int (nI q_people), .ref m_secrets, .ref m_tried, .ref m_lanes, .ref m_lengths, .ref m_cells])), (m_manys, .inl (E.2.1 1, 18, .inl f_manys)), (m_reals, .inl (E.2.1 1, 18, .inl f_reals)), (m_factsOf, .inl (E.2.1 1, 432, .inl f_factsOf)), (m_possible, .inl (E.2.1 1, 1728, .inl f_possible)), (m_heaps, .inl (E.2.1 1, 2400, .inl f_heapsz_4)), (m_led, .inl (E.2.1 2, 192, .inr (.inl f_ledz_5)))]) ?_ rfl rfl rfl
  refine ww_iconst (v := 0) C dX12_classes_7 rfl ?_
  refine ww_istore_n (lv' := [(1, .int 0), (0, .ref hm)]) C dX12_classes_8 rfl rfl rfl ?_
  refine ww_iconst (v := 0) C dX12_classes_9 rfl ?_
  refine ww_istore_n (lv' := [(2, .int 0), (1, .int 0), (0, .ref hm)]) C dX12_classes_10 rfl rfl rfl ?_
  have loop_11 : ∀ (fu : Nat) (i1 : Nat) (c1 : Nat), (i1 ≤ cN f_manys 0) → (c1 ≤ i1) → (c1 = cb (fun w => decide (rowH f_heapsz_4 rz__2 w = nI w)) i1) → cN f_manys 0 - i1 < fu → WW X 3 E 11 [(2, .int (nI i1)), (1, .int (nI c1)), (0, .ref hm)] [] [(hm, .inr (12, [.ref m_manys, .ref m_reals, .ref m_factsOf, .ref m_possible, .int (nI q_undos), .int (nI q_models), .ref m_tape, .int (nI q_taped), .int q_fault, .int q_wrong, .int q_wrongAt, .int q_spot, .int q_place, .int q_token, .int q_value, .ref m_ends, .ref m_letters, .ref m_actOf, .ref m_whom, .ref m_actMany, .ref m_tokens, .ref m_afters, .ref m_afterOf, .int q_counted, .ref m_pile, .ref m_caseMany, .ref m_happen, .ref m_hasIf, .ref m_becomes, .ref m_goneOf, .ref m_heard, .ref m_pairs, .ref m_heaps, .int (nI rz__2), .int (nI hmz_3), .ref m_led, .ref m_newAt, .ref m_knowing, .ref m_firsts, .int (nI q_people), .ref m_secrets, .ref m_tried, .ref m_lanes, .ref m_lengths, .ref m_cells])), (m_manys, .inl (E.2.1 1, 18, .inl f_manys)), (m_reals, .inl (E.2.1 1, 18, .inl f_reals)), (m_factsOf, .inl (E.2.1 1, 432, .inl f_factsOf)), (m_possible, .inl (E.2.1 1, 1728, .inl f_possible)), (m_heaps, .inl (E.2.1 1, 2400, .inl f_heapsz_4)), (m_led, .inl (E.2.1 2, 192, .inr (.inl f_ledz_5)))] 0 0 := by
    intro fu
    induction fu with
    | zero => intro i1 c1 hi1 hcb hc1 hmeas; exact absurd hmeas (Nat.not_lt_zero _)
    | succ fu ih_11 =>
      intro i1 c1 hi1 hcb hc1 hmeas
      refine ww_iload_n C dX12_classes_11 0 rfl rfl ?_
      refine ww_aload_n C dX12_classes_12 2 rfl rfl ?_
      refine ww_get C fg_X12_282 0 rfl rfl dX12_classes_13 ?_
      refine ww_icmp_ge (tgt := 42) C dX12_classes_16 (by decide) (fun c_12 => ?_) (fun c_12 => ?_)
      · have zc_12 : ((i1 : Nat) : Int) ≥ ((hmz_3 : Nat) : Int) := i_le (nI_toInt (n := hmz_3) (by omega)) (nI_toInt (n := i1) (by omega)) c_12
        refine ww_iload_n C dX12_classes_42 1 rfl rfl ?_
        exact ww_iret (u := [(hm, .inr (12, [.ref m_manys, .ref m_reals, .ref m_factsOf, .ref m_possible, .int (nI q_undos), .int (nI q_models), .ref m_tape, .int (nI q_taped), .int q_fault, .int q_wrong, .int q_wrongAt, .int q_spot, .int q_place, .int q_token, .int q_value, .ref m_ends, .ref m_letters, .ref m_actOf, .ref m_whom, .ref m_actMany, .ref m_tokens, .ref m_afters, .ref m_afterOf, .int q_counted, .ref m_pile, .ref m_caseMany, .ref m_happen, .ref m_hasIf, .ref m_becomes, .ref m_goneOf, .ref m_heard, .ref m_pairs, .ref m_heaps, .int (nI rz__2), .int (nI hmz_3), .ref m_led, .ref m_newAt, .ref m_knowing, .ref m_firsts, .int (nI q_people), .ref m_secrets, .ref m_tried, .ref m_lanes, .ref m_lengths, .ref m_cells])), (m_manys, .inl (E.2.1 1, 18, .inl f_manys)), (m_reals, .inl (E.2.1 1, 18, .inl f_reals)), (m_factsOf, .inl (E.2.1 1, 432, .inl f_factsOf)), (m_possible, .inl (E.2.1 1, 1728, .inl f_possible)), (m_heaps, .inl (E.2.1 1, 2400, .inl f_heapsz_4)), (m_led, .inl (E.2.1 2, 192, .inr (.inl f_ledz_5)))]) C hT [0, 1, 2, 3, 4, 5, 6] rfl rfl rfl rfl dX12_classes_43 (⟨(nI rz__2), (nI hmz_3), f_heapsz_4, f_ledz_5, rfl, (by rw [hc1, show i1 = cN f_manys 0 by omega]; exact congrArg nI (rk_mlp (m := (pgs f_manys f_reals f_factsOf f_possible 0)) (show cN f_manys 0 ≤ 48 by omega) (RST.end h_10 (cm1_wf (hwf 0 (by omega))) h_9)))⟩)
      · have zc_12 : ((i1 : Nat) : Int) < ((hmz_3 : Nat) : Int) := i_nle (nI_toInt (n := hmz_3) (by omega)) (nI_toInt (n := i1) (by omega)) c_12
        refine ww_iload_n C dX12_classes_19 1 rfl rfl ?_
        refine ww_aload_n C dX12_classes_20 2 rfl rfl ?_
        refine ww_iload_n C dX12_classes_21 0 rfl rfl ?_
        refine ww_ci (wr := [(m_manys, .inl (E.2.1 1, 18, .inl f_manys)), (m_reals, .inl (E.2.1 1, 18, .inl f_reals)), (m_factsOf, .inl (E.2.1 1, 432, .inl f_factsOf)), (m_possible, .inl (E.2.1 1, 1728, .inl f_possible)), (m_led, .inl (E.2.1 2, 192, .inr (.inl f_ledz_5)))]) (k' := 0) (n' := 0) C (run_V (As := [.int (nI i1)]) (rest := [.int (nI c1)]) C (r_heapOf X.2.1 E ro hm i1 m_manys m_reals m_factsOf m_possible q_undos q_models m_tape q_taped q_fault q_wrong q_wrongAt q_spot q_place q_token q_value m_ends m_letters m_actOf m_whom m_actMany m_tokens m_afters m_afterOf q_counted m_pile m_caseMany m_happen m_hasIf m_becomes m_goneOf m_heard m_pairs m_heaps rz__2 (nI hmz_3) m_led m_newAt m_knowing m_firsts q_people m_secrets m_tried m_lanes m_lengths m_cells f_heapsz_4 (by omega) (by omega)) mi_X12_heapOf wl_X12_301 rfl 0 12 rfl rfl rfl rfl rfl dX12_classes_22) (roK hro) [0, 5] [1, 2, 3, 4, 6] rfl rfl rfl rfl (fun r_13 uz hw => ?_)
        refine an1 hw ?_
        clear hw
        intro he_14 hw
        have he_15 := hw
        clear hw
        have he_14 := he_14.symm
        subst he_14
        subst he_15
        refine ww_eq (ws' := [(m_manys, .inl (E.2.1 1, 18, .inl f_manys)), (m_reals, .inl (E.2.1 1, 18, .inl f_reals)), (m_factsOf, .inl (E.2.1 1, 432, .inl f_factsOf)), (m_possible, .inl (E.2.1 1, 1728, .inl f_possible)), (m_led, .inl (E.2.1 2, 192, .inr (.inl f_ledz_5))), (hm, .inr (12, [.ref m_manys, .ref m_reals, .ref m_factsOf, .ref m_possible, .int (nI q_undos), .int (nI q_models), .ref m_tape, .int (nI q_taped), .int q_fault, .int q_wrong, .int q_wrongAt, .int q_spot, .int q_place, .int q_token, .int q_value, .ref m_ends, .ref m_letters, .ref m_actOf, .ref m_whom, .ref m_actMany, .ref m_tokens, .ref m_afters, .ref m_afterOf, .int q_counted, .ref m_pile, .ref m_caseMany, .ref m_happen, .ref m_hasIf, .ref m_becomes, .ref m_goneOf, .ref m_heard, .ref m_pairs, .ref m_heaps, .int (nI rz__2), .int (nI hmz_3), .ref m_led, .ref m_newAt, .ref m_knowing, .ref m_firsts, .int (nI q_people), .ref m_secrets, .ref m_tried, .ref m_lanes, .ref m_lengths, .ref m_cells])), (m_heaps, .inl (E.2.1 1, 2400, .inl f_heapsz_4))]) ?_ rfl rfl rfl
        refine ww_iload_n C dX12_classes_25 0 rfl rfl ?_
        refine ww_icmp_ne (tgt := 33) C dX12_classes_26 (by decide) (fun c_16 => ?_) (fun c_16 => ?_)
        · have zc_16 : (f_heapsz_4 (48 * rz__2 + i1)).toInt ≠ ((i1 : Nat) : Int) := i_ne rfl (nI_toInt (n := i1) (by omega)) c_16
          refine ww_iconst (v := 0) C dX12_classes_33 rfl ?_
          refine ww_iadd (v := (nI c1)) C dX12_classes_34 (nI_add c1 0) ?_
          refine ww_istore_n (lv' := [(1, .int (nI c1)), (2, .int (nI i1)), (0, .ref hm)]) C dX12_classes_35 rfl rfl rfl ?_
          refine ww_iinc (j := 1) (v := (nI (i1 + 1))) (lv' := [(2, .int (nI (i1 + 1))), (1, .int (nI c1)), (0, .ref hm)]) C dX12_classes_36 rfl (nI_add i1 1) rfl rfl ?_
          refine ww_goto (tgt := 11) C dX12_classes_39 (by decide) ?_
          exact ww_lv [0, 1, 2] rfl (ww_sub [5, 0, 1, 2, 3, 6, 4] rfl rfl (ih_11 (i1 + 1) c1 (by omega) (by omega) (by rw [cb_f (show decide (rowH f_heapsz_4 rz__2 i1 = nI i1) = false from decide_eq_false (fun h9 => by have h8 := congrArg Int32.toInt h9; rw [nI_toInt (by omega)] at h8; exact absurd h8 (by assumption))), ← hc1]) (by omega)))
        · have zc_16 : (f_heapsz_4 (48 * rz__2 + i1)).toInt = ((i1 : Nat) : Int) := i_eq rfl (nI_toInt (n := i1) (by omega)) c_16
          refine ww_iconst (v := 1) C dX12_classes_29 rfl ?_
          refine ww_goto (tgt := 34) C dX12_classes_30 (by decide) ?_
          refine ww_iadd (v := (nI (c1 + 1))) C dX12_classes_34 (nI_add c1 1) ?_
          refine ww_istore_n (lv' := [(1, .int (nI (c1 + 1))), (2, .int (nI i1)), (0, .ref hm)]) C dX12_classes_35 rfl rfl rfl ?_
          refine ww_iinc (j := 1) (v := (nI (i1 + 1))) (lv' := [(2, .int (nI (i1 + 1))), (1, .int (nI (c1 + 1))), (0, .ref hm)]) C dX12_classes_36 rfl (nI_add i1 1) rfl rfl ?_
          refine ww_goto (tgt := 11) C dX12_classes_39 (by decide) ?_
          exact ww_lv [0, 1, 2] rfl (ww_sub [5, 0, 1, 2, 3, 6, 4] rfl rfl (ih_11 (i1 + 1) (c1 + 1) (by omega) (by omega) (by rw [cb_t (show decide (rowH f_heapsz_4 rz__2 i1 = nI i1) = true from decide_eq_true (Int32.toInt_inj.mp (by rw [nI_toInt (by omega)]; assumption))), ← hc1]) (by omega)))
  exact ww_lv [0, 1, 2] rfl (ww_sub [0, 1, 2, 3, 4, 5, 6] rfl rfl (loop_11 _ 0 0 (by omega) (by omega) rfl (Nat.lt_succ_self _)))
theorem dX12_classOf_0 : decode cX12_classOf 0 = .ok (.aload_n 0, 1) := by decide +kernel
theorem dX12_classOf_1 : decode cX12_classOf 1 = .ok (.iload_n 1, 1) := by decide +kernel
theorem dX12_classOf_2 : decode cX12_classOf 2 = .ok (.invokevirtual 132, 3) := by decide +kernel
theorem dX12_classOf_5 : decode cX12_classOf 5 = .ok (.ifCond .ne 5, 3) := by decide +kernel
theorem dX12_classOf_10 : decode cX12_classOf 10 = .ok (.aload_n 0, 1) := by decide +kernel
theorem dX12_classOf_11 : decode cX12_classOf 11 = .ok (.iconst 0, 1) := by decide +kernel
theorem dX12_classOf_12 : decode cX12_classOf 12 = .ok (.bipush (-4), 2) := by decide +kernel
theorem dX12_classOf_14 : decode cX12_classOf 14 = .ok (.invokevirtual 298, 3) := by decide +kernel
theorem dX12_classOf_17 : decode cX12_classOf 17 = .ok (.aload_n 0, 1) := by decide +kernel
theorem dX12_classOf_18 : decode cX12_classOf 18 = .ok (.iload_n 1, 1) := by decide +kernel
theorem dX12_classOf_19 : decode cX12_classOf 19 = .ok (.invokevirtual 301, 3) := by decide +kernel
theorem dX12_classOf_22 : decode cX12_classOf 22 = .ok (.ireturn, 1) := by decide +kernel
theorem dX12_classOf_8 : decode cX12_classOf 8 = .ok (.iconst (-1), 1) := by decide +kernel
theorem dX12_classOf_9 : decode cX12_classOf 9 = .ok (.ireturn, 1) := by decide +kernel
set_option maxRecDepth 100000 in
set_option maxHeartbeats 4000000 in
theorem y_classOf (l : Launch) (E : EV) (ro : va_W) (hm : Nat) (v0 : Int32) (m_manys : Nat) (m_reals : Nat) (m_factsOf : Nat) (m_possible : Nat) (q_undos : Nat) (q_models : Nat) (m_tape : Nat) (q_taped : Nat) (q_fault : Int32) (q_wrong : Int32) (q_wrongAt : Int32) (q_spot : Int32) (q_place : Int32) (q_token : Int32) (q_value : Int32) (m_ends : Nat) (m_letters : Nat) (m_actOf : Nat) (m_whom : Nat) (m_actMany : Nat) (m_tokens : Nat) (m_afters : Nat) (m_afterOf : Nat) (q_counted : Int32) (m_pile : Nat) (m_caseMany : Nat) (m_happen : Nat) (m_hasIf : Nat) (m_becomes : Nat) (m_goneOf : Nat) (m_heard : Nat) (m_pairs : Nat) (m_heaps : Nat) (q_rounds : Int32) (q_heapMany : Int32) (m_led : Nat) (m_newAt : Nat) (m_knowing : Nat) (m_firsts : Nat) (q_people : Nat) (m_secrets : Nat) (m_tried : Nat) (m_lanes : Nat) (m_lengths : Nat) (m_cells : Nat) (f_manys : Nat → Int32) (f_reals : Nat → Int32) (f_factsOf : Nat → Int32) (f_possible : Nat → Int32) (f_heaps : Nat → Int32) (f_led : Nat → Int64) (hb_manys : NB 18 24 f_manys) (hb_reals : NB 18 23 f_reals) (hpg : PG f_manys f_reals) (hwf : WFP (pgs f_manys f_reals f_factsOf f_possible)) : CT l yX12_classOf (Cond.code yX12_classOf cX12_classOf 2 (some .int) :: TB) ({ frames := 3, cells := 0, slots := 0, locals := 78 }) E ro [.ref hm, .int v0] [(hm, .inr (12, [.ref m_manys, .ref m_reals, .ref m_factsOf, .ref m_possible, .int (nI q_undos), .int (nI q_models), .ref m_tape, .int (nI q_taped), .int q_fault, .int q_wrong, .int q_wrongAt, .int q_spot, .int q_place, .int q_token, .int q_value, .ref m_ends, .ref m_letters, .ref m_actOf, .ref m_whom, .ref m_actMany, .ref m_tokens, .ref m_afters, .ref m_afterOf, .int q_counted, .ref m_pile, .ref m_caseMany, .ref m_happen, .ref m_hasIf, .ref m_becomes, .ref m_goneOf, .ref m_heard, .ref m_pairs, .ref m_heaps, .int q_rounds, .int q_heapMany, .ref m_led, .ref m_newAt, .ref m_knowing, .ref m_firsts, .int (nI q_people), .ref m_secrets, .ref m_tried, .ref m_lanes, .ref m_lengths, .ref m_cells])), (m_manys, .inl (E.2.1 1, 18, .inl f_manys)), (m_reals, .inl (E.2.1 1, 18, .inl f_reals)), (m_factsOf, .inl (E.2.1 1, 432, .inl f_factsOf)), (m_possible, .inl (E.2.1 1, 1728, .inl f_possible)), (m_heaps, .inl (E.2.1 1, 2400, .inl f_heaps)), (m_led, .inl (E.2.1 2, 192, .inr (.inl f_led)))] (Qi E (fun (rz : Int32) uz => (∃ (rz_ : Int32) (hmz : Int32) (f_heapsz : Nat → Int32) (f_ledz : Nat → Int64), uz = [(hm, .inr (12, [.ref m_manys, .ref m_reals, .ref m_factsOf, .ref m_possible, .int (nI q_undos), .int (nI q_models), .ref m_tape, .int (nI q_taped), .int q_fault, .int q_wrong, .int q_wrongAt, .int q_spot, .int q_place, .int q_token, .int q_value, .ref m_ends, .ref m_letters, .ref m_actOf, .ref m_whom, .ref m_actMany, .ref m_tokens, .ref m_afters, .ref m_afterOf, .int q_counted, .ref m_pile, .ref m_caseMany, .ref m_happen, .ref m_hasIf, .ref m_becomes, .ref m_goneOf, .ref m_heard, .ref m_pairs, .ref m_heaps, .int rz_, .int hmz, .ref m_led, .ref m_newAt, .ref m_knowing, .ref m_firsts, .int (nI q_people), .ref m_secrets, .ref m_tried, .ref m_lanes, .ref m_lengths, .ref m_cells])), (m_manys, .inl (E.2.1 1, 18, .inl f_manys)), (m_reals, .inl (E.2.1 1, 18, .inl f_reals)), (m_factsOf, .inl (E.2.1 1, 432, .inl f_factsOf)), (m_possible, .inl (E.2.1 1, 1728, .inl f_possible)), (m_heaps, .inl (E.2.1 1, 2400, .inl f_heapsz)), (m_led, .inl (E.2.1 2, 192, .inr (.inl f_ledz)))] ∧ (rz = ansClassOf (pgs f_manys f_reals f_factsOf f_possible 0) v0)))) 0 0 := by
  refine ct_of rfl rfl ?_
  intro X C hT hin hro
  show WW X 2 E 0 [(0, .ref hm), (1, .int v0)] [] [(hm, .inr (12, [.ref m_manys, .ref m_reals, .ref m_factsOf, .ref m_possible, .int (nI q_undos), .int (nI q_models), .ref m_tape, .int (nI q_taped), .int q_fault, .int q_wrong, .int q_wrongAt, .int q_spot, .int q_place, .int q_token, .int q_value, .ref m_ends, .ref m_letters, .ref m_actOf, .ref m_whom, .ref m_actMany, .ref m_tokens, .ref m_afters, .ref m_afterOf, .int q_counted, .ref m_pile, .ref m_caseMany, .ref m_happen, .ref m_hasIf, .ref m_becomes, .ref m_goneOf, .ref m_heard, .ref m_pairs, .ref m_heaps, .int q_rounds, .int q_heapMany, .ref m_led, .ref m_newAt, .ref m_knowing, .ref m_firsts, .int (nI q_people), .ref m_secrets, .ref m_tried, .ref m_lanes, .ref m_lengths, .ref m_cells])), (m_manys, .inl (E.2.1 1, 18, .inl f_manys)), (m_reals, .inl (E.2.1 1, 18, .inl f_reals)), (m_factsOf, .inl (E.2.1 1, 432, .inl f_factsOf)), (m_possible, .inl (E.2.1 1, 1728, .inl f_possible)), (m_heaps, .inl (E.2.1 1, 2400, .inl f_heaps)), (m_led, .inl (E.2.1 2, 192, .inr (.inl f_led)))] 0 0
  have hmn0 := (hb_manys 0 (by omega)).2
  refine ww_aload_n C dX12_classOf_0 0 rfl rfl ?_
  refine ww_iload_n C dX12_classOf_1 1 rfl rfl ?_
  refine ww_ci (wr := [(m_reals, .inl (E.2.1 1, 18, .inl f_reals)), (m_factsOf, .inl (E.2.1 1, 432, .inl f_factsOf)), (m_possible, .inl (E.2.1 1, 1728, .inl f_possible)), (m_heaps, .inl (E.2.1 1, 2400, .inl f_heaps)), (m_led, .inl (E.2.1 2, 192, .inr (.inl f_led)))]) (k' := 0) (n' := 0) C (run_V (As := [.int v0]) (rest := []) C (r_isWorld X.2.1 E ro hm v0 m_manys m_reals m_factsOf m_possible q_undos q_models m_tape q_taped q_fault q_wrong q_wrongAt q_spot q_place q_token q_value m_ends m_letters m_actOf m_whom m_actMany m_tokens m_afters m_afterOf q_counted m_pile m_caseMany m_happen m_hasIf m_becomes m_goneOf m_heard m_pairs m_heaps q_rounds q_heapMany m_led m_newAt m_knowing m_firsts q_people m_secrets m_tried m_lanes m_lengths m_cells f_manys hb_manys) mi_X12_isWorld wl_X12_132 rfl 0 12 rfl rfl rfl rfl rfl dX12_classOf_2) (roK hro) [0, 1] [2, 3, 4, 5, 6] rfl rfl rfl rfl (fun r_1 uz hw => ?_)
  rcases hw with hw | hw
  · refine an3 hw ?_
    clear hw
    intro he_4 he_5 h_2 hw
    have h_3 := hw
    clear hw
    have he_4 := he_4.symm
    subst he_4
    subst he_5
    refine ww_eq (ws' := [(m_reals, .inl (E.2.1 1, 18, .inl f_reals)), (m_factsOf, .inl (E.2.1 1, 432, .inl f_factsOf)), (m_possible, .inl (E.2.1 1, 1728, .inl f_possible)), (m_heaps, .inl (E.2.1 1, 2400, .inl f_heaps)), (m_led, .inl (E.2.1 2, 192, .inr (.inl f_led))), (hm, .inr (12, [.ref m_manys, .ref m_reals, .ref m_factsOf, .ref m_possible, .int (nI q_undos), .int (nI q_models), .ref m_tape, .int (nI q_taped), .int q_fault, .int q_wrong, .int q_wrongAt, .int q_spot, .int q_place, .int q_token, .int q_value, .ref m_ends, .ref m_letters, .ref m_actOf, .ref m_whom, .ref m_actMany, .ref m_tokens, .ref m_afters, .ref m_afterOf, .int q_counted, .ref m_pile, .ref m_caseMany, .ref m_happen, .ref m_hasIf, .ref m_becomes, .ref m_goneOf, .ref m_heard, .ref m_pairs, .ref m_heaps, .int q_rounds, .int q_heapMany, .ref m_led, .ref m_newAt, .ref m_knowing, .ref m_firsts, .int (nI q_people), .ref m_secrets, .ref m_tried, .ref m_lanes, .ref m_lengths, .ref m_cells])), (m_manys, .inl (E.2.1 1, 18, .inl f_manys))]) ?_ rfl rfl rfl
    refine ww_if_ne_t (tgt := 10) C dX12_classOf_5 (by decide) (by decide) ?_
    obtain ⟨j_9, hj_9, rfl⟩ := i_nat (x := v0) (N := 24) (by omega) (by omega)
    have hzj_9 := nI_toInt (n := j_9) (by omega)
    refine ww_aload_n C dX12_classOf_10 0 rfl rfl ?_
    refine ww_iconst (v := 0) C dX12_classOf_11 rfl ?_
    refine ww_bipush (v := (-4)) C dX12_classOf_12 rfl ?_
    refine ww_cv (wr := []) (k' := 0) (n' := 0) C (run_V (As := [.int 0, .int (-4)]) (rest := []) C (r_layHeapsN X.2.1 E ro hm m_manys m_reals m_factsOf m_possible q_undos q_models m_tape q_taped q_fault q_wrong q_wrongAt q_spot q_place q_token q_value m_ends m_letters m_actOf m_whom m_actMany m_tokens m_afters m_afterOf q_counted m_pile m_caseMany m_happen m_hasIf m_becomes m_goneOf m_heard m_pairs m_heaps q_rounds q_heapMany m_led m_newAt m_knowing m_firsts q_people m_secrets m_tried m_lanes m_lengths m_cells f_manys f_reals f_factsOf f_possible f_heaps f_led hb_manys hb_reals hpg hwf) mi_X12_layHeaps wl_X12_298 rfl 0 12 rfl rfl rfl rfl rfl dX12_classOf_14) (roK hro) [5, 6, 0, 1, 2, 3, 4] [] rfl rfl rfl rfl (fun uz hw => ?_)
    refine ex4 hw ?_
    clear hw
    intro rz__11 hmz_12 f_heapsz_13 f_ledz_14 hw
    refine an5 hw ?_
    clear hw
    intro he_20 h_15 h_16 h_17 h_18 hw
    have h_19 := hw
    clear hw
    subst he_20
    refine ww_eq (ws' := [(hm, .inr (12, [.ref m_manys, .ref m_reals, .ref m_factsOf, .ref m_possible, .int (nI q_undos), .int (nI q_models), .ref m_tape, .int (nI q_taped), .int q_fault, .int q_wrong, .int q_wrongAt, .int q_spot, .int q_place, .int q_token, .int q_value, .ref m_ends, .ref m_letters, .ref m_actOf, .ref m_whom, .ref m_actMany, .ref m_tokens, .ref m_afters, .ref m_afterOf, .int q_counted, .ref m_pile, .ref m_caseMany, .ref m_happen, .ref m_hasIf, .ref m_becomes, .ref m_goneOf, .ref m_heard, .ref m_pairs, .ref m_heaps, .int (nI rz__11), .int (nI hmz_12), .ref m_led, .ref m_newAt, .ref m_knowing, .ref m_firsts, .int (nI q_people), .ref m_secrets, .ref m_tried, .ref m_lanes, .ref m_lengths, .ref m_cells])), (m_manys, .inl (E.2.1 1, 18, .inl f_manys)), (m_reals, .inl (E.2.1 1, 18, .inl f_reals)), (m_factsOf, .inl (E.2.1 1, 432, .inl f_factsOf)), (m_possible, .inl (E.2.1 1, 1728, .inl f_possible)), (m_heaps, .inl (E.2.1 1, 2400, .inl f_heapsz_13)), (m_led, .inl (E.2.1 2, 192, .inr (.inl f_ledz_14)))]) ?_ rfl rfl rfl
    refine ww_aload_n C dX12_classOf_17 0 rfl rfl ?_
    refine ww_iload_n C dX12_classOf_18 1 rfl rfl ?_
    refine ww_ci (wr := [(m_manys, .inl (E.2.1 1, 18, .inl f_manys)), (m_reals, .inl (E.2.1 1, 18, .inl f_reals)), (m_factsOf, .inl (E.2.1 1, 432, .inl f_factsOf)), (m_possible, .inl (E.2.1 1, 1728, .inl f_possible)), (m_led, .inl (E.2.1 2, 192, .inr (.inl f_ledz_14)))]) (k' := 0) (n' := 0) C (run_V (As := [.int (nI j_9)]) (rest := []) C (r_heapOf X.2.1 E ro hm j_9 m_manys m_reals m_factsOf m_possible q_undos q_models m_tape q_taped q_fault q_wrong q_wrongAt q_spot q_place q_token q_value m_ends m_letters m_actOf m_whom m_actMany m_tokens m_afters m_afterOf q_counted m_pile m_caseMany m_happen m_hasIf m_becomes m_goneOf m_heard m_pairs m_heaps rz__11 (nI hmz_12) m_led m_newAt m_knowing m_firsts q_people m_secrets m_tried m_lanes m_lengths m_cells f_heapsz_13 (by omega) (by omega)) mi_X12_heapOf wl_X12_301 rfl 0 12 rfl rfl rfl rfl rfl dX12_classOf_19) (roK hro) [0, 5] [1, 2, 3, 4, 6] rfl rfl rfl rfl (fun r_21 uz hw => ?_)
    refine an1 hw ?_
    clear hw
    intro he_22 hw
    have he_23 := hw
    clear hw
    have he_22 := he_22.symm
    subst he_22
    subst he_23
    refine ww_eq (ws' := [(m_manys, .inl (E.2.1 1, 18, .inl f_manys)), (m_reals, .inl (E.2.1 1, 18, .inl f_reals)), (m_factsOf, .inl (E.2.1 1, 432, .inl f_factsOf)), (m_possible, .inl (E.2.1 1, 1728, .inl f_possible)), (m_led, .inl (E.2.1 2, 192, .inr (.inl f_ledz_14))), (hm, .inr (12, [.ref m_manys, .ref m_reals, .ref m_factsOf, .ref m_possible, .int (nI q_undos), .int (nI q_models), .ref m_tape, .int (nI q_taped), .int q_fault, .int q_wrong, .int q_wrongAt, .int q_spot, .int q_place, .int q_token, .int q_value, .ref m_ends, .ref m_letters, .ref m_actOf, .ref m_whom, .ref m_actMany, .ref m_tokens, .ref m_afters, .ref m_afterOf, .int q_counted, .ref m_pile, .ref m_caseMany, .ref m_happen, .ref m_hasIf, .ref m_becomes, .ref m_goneOf, .ref m_heard, .ref m_pairs, .ref m_heaps, .int (nI rz__11), .int (nI hmz_12), .ref m_led, .ref m_newAt, .ref m_knowing, .ref m_firsts, .int (nI q_people), .ref m_secrets, .ref m_tried, .ref m_lanes, .ref m_lengths, .ref m_cells])), (m_heaps, .inl (E.2.1 1, 2400, .inl f_heapsz_13))]) ?_ rfl rfl rfl
    exact ww_iret (u := [(hm, .inr (12, [.ref m_manys, .ref m_reals, .ref m_factsOf, .ref m_possible, .int (nI q_undos), .int (nI q_models), .ref m_tape, .int (nI q_taped), .int q_fault, .int q_wrong, .int q_wrongAt, .int q_spot, .int q_place, .int q_token, .int q_value, .ref m_ends, .ref m_letters, .ref m_actOf, .ref m_whom, .ref m_actMany, .ref m_tokens, .ref m_afters, .ref m_afterOf, .int q_counted, .ref m_pile, .ref m_caseMany, .ref m_happen, .ref m_hasIf, .ref m_becomes, .ref m_goneOf, .ref m_heard, .ref m_pairs, .ref m_heaps, .int (nI rz__11), .int (nI hmz_12), .ref m_led, .ref m_newAt, .ref m_knowing, .ref m_firsts, .int (nI q_people), .ref m_secrets, .ref m_tried, .ref m_lanes, .ref m_lengths, .ref m_cells])), (m_manys, .inl (E.2.1 1, 18, .inl f_manys)), (m_reals, .inl (E.2.1 1, 18, .inl f_reals)), (m_factsOf, .inl (E.2.1 1, 432, .inl f_factsOf)), (m_possible, .inl (E.2.1 1, 1728, .inl f_possible)), (m_heaps, .inl (E.2.1 1, 2400, .inl f_heapsz_13)), (m_led, .inl (E.2.1 2, 192, .inr (.inl f_ledz_14)))]) C hT [5, 0, 1, 2, 3, 6, 4] rfl rfl rfl rfl dX12_classOf_22 (⟨(nI rz__11), (nI hmz_12), f_heapsz_13, f_ledz_14, rfl, (by show _ = if (nI j_9).toInt < 0 ∨ ((cN f_manys 0) : Int) ≤ (nI j_9).toInt then -1 else nI (clsS (cm1 (pgs f_manys f_reals f_factsOf f_possible 0)) (tN (nI j_9))); rw [if_neg (show ¬ ((nI j_9).toInt < 0 ∨ ((cN f_manys 0) : Int) ≤ (nI j_9).toInt) by omega)]; exact (by rw [tN_n (n := j_9) (by omega)]; exact (RST.end h_19 (cm1_wf (hwf 0 (by omega))) h_18) j_9 (by show j_9 < cN f_manys 0; omega)))⟩)
  · refine an2 hw ?_
    clear hw
    intro he_7 he_8 hw
    have h_6 := hw
    clear hw
    have he_7 := he_7.symm
    subst he_7
    subst he_8
    refine ww_eq (ws' := [(m_reals, .inl (E.2.1 1, 18, .inl f_reals)), (m_factsOf, .inl (E.2.1 1, 432, .inl f_factsOf)), (m_possible, .inl (E.2.1 1, 1728, .inl f_possible)), (m_heaps, .inl (E.2.1 1, 2400, .inl f_heaps)), (m_led, .inl (E.2.1 2, 192, .inr (.inl f_led))), (hm, .inr (12, [.ref m_manys, .ref m_reals, .ref m_factsOf, .ref m_possible, .int (nI q_undos), .int (nI q_models), .ref m_tape, .int (nI q_taped), .int q_fault, .int q_wrong, .int q_wrongAt, .int q_spot, .int q_place, .int q_token, .int q_value, .ref m_ends, .ref m_letters, .ref m_actOf, .ref m_whom, .ref m_actMany, .ref m_tokens, .ref m_afters, .ref m_afterOf, .int q_counted, .ref m_pile, .ref m_caseMany, .ref m_happen, .ref m_hasIf, .ref m_becomes, .ref m_goneOf, .ref m_heard, .ref m_pairs, .ref m_heaps, .int q_rounds, .int q_heapMany, .ref m_led, .ref m_newAt, .ref m_knowing, .ref m_firsts, .int (nI q_people), .ref m_secrets, .ref m_tried, .ref m_lanes, .ref m_lengths, .ref m_cells])), (m_manys, .inl (E.2.1 1, 18, .inl f_manys))]) ?_ rfl rfl rfl
    refine ww_if_ne_f (tgt := 10) C dX12_classOf_5 (by decide) (rfl) ?_
    refine ww_iconst (v := (-1)) C dX12_classOf_8 rfl ?_
    exact ww_iret (u := [(hm, .inr (12, [.ref m_manys, .ref m_reals, .ref m_factsOf, .ref m_possible, .int (nI q_undos), .int (nI q_models), .ref m_tape, .int (nI q_taped), .int q_fault, .int q_wrong, .int q_wrongAt, .int q_spot, .int q_place, .int q_token, .int q_value, .ref m_ends, .ref m_letters, .ref m_actOf, .ref m_whom, .ref m_actMany, .ref m_tokens, .ref m_afters, .ref m_afterOf, .int q_counted, .ref m_pile, .ref m_caseMany, .ref m_happen, .ref m_hasIf, .ref m_becomes, .ref m_goneOf, .ref m_heard, .ref m_pairs, .ref m_heaps, .int q_rounds, .int q_heapMany, .ref m_led, .ref m_newAt, .ref m_knowing, .ref m_firsts, .int (nI q_people), .ref m_secrets, .ref m_tried, .ref m_lanes, .ref m_lengths, .ref m_cells])), (m_manys, .inl (E.2.1 1, 18, .inl f_manys)), (m_reals, .inl (E.2.1 1, 18, .inl f_reals)), (m_factsOf, .inl (E.2.1 1, 432, .inl f_factsOf)), (m_possible, .inl (E.2.1 1, 1728, .inl f_possible)), (m_heaps, .inl (E.2.1 1, 2400, .inl f_heaps)), (m_led, .inl (E.2.1 2, 192, .inr (.inl f_led)))]) C hT [5, 6, 0, 1, 2, 3, 4] rfl rfl rfl rfl dX12_classOf_9 (⟨q_rounds, q_heapMany, f_heaps, f_led, rfl, (by show _ = if v0.toInt < 0 ∨ ((cN f_manys 0) : Int) ≤ v0.toInt then -1 else nI (clsS (cm1 (pgs f_manys f_reals f_factsOf f_possible 0)) (tN v0)); rw [if_pos (show v0.toInt < 0 ∨ ((cN f_manys 0) : Int) ≤ v0.toInt by omega)])⟩)
theorem dX12_depth_0 : decode cX12_depth 0 = .ok (.aload_n 0, 1) := by decide +kernel
theorem dX12_depth_1 : decode cX12_depth 1 = .ok (.iload_n 1, 1) := by decide +kernel
theorem dX12_depth_2 : decode cX12_depth 2 = .ok (.invokevirtual 132, 3) := by decide +kernel
theorem dX12_depth_5 : decode cX12_depth 5 = .ok (.ifCond .eq 11, 3) := by decide +kernel
theorem dX12_depth_8 : decode cX12_depth 8 = .ok (.aload_n 0, 1) := by decide +kernel
theorem dX12_depth_9 : decode cX12_depth 9 = .ok (.iload_n 2, 1) := by decide +kernel
theorem dX12_depth_10 : decode cX12_depth 10 = .ok (.invokevirtual 132, 3) := by decide +kernel
theorem dX12_depth_13 : decode cX12_depth 13 = .ok (.ifCond .ne 5, 3) := by decide +kernel
theorem dX12_depth_18 : decode cX12_depth 18 = .ok (.aload_n 0, 1) := by decide +kernel
theorem dX12_depth_19 : decode cX12_depth 19 = .ok (.iconst 0, 1) := by decide +kernel
theorem dX12_depth_20 : decode cX12_depth 20 = .ok (.bipush (-4), 2) := by decide +kernel
theorem dX12_depth_22 : decode cX12_depth 22 = .ok (.invokevirtual 298, 3) := by decide +kernel
theorem dX12_depth_25 : decode cX12_depth 25 = .ok (.iconst 0, 1) := by decide +kernel
theorem dX12_depth_26 : decode cX12_depth 26 = .ok (.istore_n 3, 1) := by decide +kernel
theorem dX12_depth_27 : decode cX12_depth 27 = .ok (.iload_n 3, 1) := by decide +kernel
theorem dX12_depth_28 : decode cX12_depth 28 = .ok (.aload_n 0, 1) := by decide +kernel
theorem dX12_depth_29 : decode cX12_depth 29 = .ok (.getfield 288, 3) := by decide +kernel
theorem dX12_depth_32 : decode cX12_depth 32 = .ok (.if_icmp .gt 36, 3) := by decide +kernel
theorem dX12_depth_68 : decode cX12_depth 68 = .ok (.bipush (-4), 2) := by decide +kernel
theorem dX12_depth_70 : decode cX12_depth 70 = .ok (.ireturn, 1) := by decide +kernel
theorem dX12_depth_35 : decode cX12_depth 35 = .ok (.aload_n 0, 1) := by decide +kernel
theorem dX12_depth_36 : decode cX12_depth 36 = .ok (.getfield 74, 3) := by decide +kernel
theorem dX12_depth_39 : decode cX12_depth 39 = .ok (.bipush 48, 2) := by decide +kernel
theorem dX12_depth_41 : decode cX12_depth 41 = .ok (.iload_n 3, 1) := by decide +kernel
theorem dX12_depth_42 : decode cX12_depth 42 = .ok (.imul, 1) := by decide +kernel
theorem dX12_depth_43 : decode cX12_depth 43 = .ok (.iload_n 1, 1) := by decide +kernel
theorem dX12_depth_44 : decode cX12_depth 44 = .ok (.iadd, 1) := by decide +kernel
theorem dX12_depth_45 : decode cX12_depth 45 = .ok (.iaload, 1) := by decide +kernel
theorem dX12_depth_46 : decode cX12_depth 46 = .ok (.aload_n 0, 1) := by decide +kernel
theorem dX12_depth_47 : decode cX12_depth 47 = .ok (.getfield 74, 3) := by decide +kernel
theorem dX12_depth_50 : decode cX12_depth 50 = .ok (.bipush 48, 2) := by decide +kernel
theorem dX12_depth_52 : decode cX12_depth 52 = .ok (.iload_n 3, 1) := by decide +kernel
theorem dX12_depth_53 : decode cX12_depth 53 = .ok (.imul, 1) := by decide +kernel
theorem dX12_depth_54 : decode cX12_depth 54 = .ok (.iload_n 2, 1) := by decide +kernel
theorem dX12_depth_55 : decode cX12_depth 55 = .ok (.iadd, 1) := by decide +kernel
theorem dX12_depth_56 : decode cX12_depth 56 = .ok (.iaload, 1) := by decide +kernel
theorem dX12_depth_57 : decode cX12_depth 57 = .ok (.if_icmp .eq 5, 3) := by decide +kernel
theorem dX12_depth_62 : decode cX12_depth 62 = .ok (.iinc 3 1, 3) := by decide +kernel
theorem dX12_depth_65 : decode cX12_depth 65 = .ok (.goto (-38), 3) := by decide +kernel
theorem dX12_depth_60 : decode cX12_depth 60 = .ok (.iload_n 3, 1) := by decide +kernel
theorem dX12_depth_61 : decode cX12_depth 61 = .ok (.ireturn, 1) := by decide +kernel
theorem dX12_depth_16 : decode cX12_depth 16 = .ok (.iconst (-1), 1) := by decide +kernel
theorem dX12_depth_17 : decode cX12_depth 17 = .ok (.ireturn, 1) := by decide +kernel
set_option maxRecDepth 100000 in
set_option maxHeartbeats 4000000 in
theorem y_depth (l : Launch) (E : EV) (ro : va_W) (hm : Nat) (v0 : Int32) (v1 : Int32) (m_manys : Nat) (m_reals : Nat) (m_factsOf : Nat) (m_possible : Nat) (q_undos : Nat) (q_models : Nat) (m_tape : Nat) (q_taped : Nat) (q_fault : Int32) (q_wrong : Int32) (q_wrongAt : Int32) (q_spot : Int32) (q_place : Int32) (q_token : Int32) (q_value : Int32) (m_ends : Nat) (m_letters : Nat) (m_actOf : Nat) (m_whom : Nat) (m_actMany : Nat) (m_tokens : Nat) (m_afters : Nat) (m_afterOf : Nat) (q_counted : Int32) (m_pile : Nat) (m_caseMany : Nat) (m_happen : Nat) (m_hasIf : Nat) (m_becomes : Nat) (m_goneOf : Nat) (m_heard : Nat) (m_pairs : Nat) (m_heaps : Nat) (q_rounds : Int32) (q_heapMany : Int32) (m_led : Nat) (m_newAt : Nat) (m_knowing : Nat) (m_firsts : Nat) (q_people : Nat) (m_secrets : Nat) (m_tried : Nat) (m_lanes : Nat) (m_lengths : Nat) (m_cells : Nat) (f_manys : Nat → Int32) (f_reals : Nat → Int32) (f_factsOf : Nat → Int32) (f_possible : Nat → Int32) (f_heaps : Nat → Int32) (f_led : Nat → Int64) (hb_manys : NB 18 24 f_manys) (hb_reals : NB 18 23 f_reals) (hpg : PG f_manys f_reals) (hwf : WFP (pgs f_manys f_reals f_factsOf f_possible)) : CT l yX12_depth (Cond.code yX12_depth cX12_depth 4 (some .int) :: TB) ({ frames := 3, cells := 0, slots := 0, locals := 78 }) E ro [.ref hm, .int v0, .int v1] [(hm, .inr (12, [.ref m_manys, .ref m_reals, .ref m_factsOf, .ref m_possible, .int (nI q_undos), .int (nI q_models), .ref m_tape, .int (nI q_taped), .int q_fault, .int q_wrong, .int q_wrongAt, .int q_spot, .int q_place, .int q_token, .int q_value, .ref m_ends, .ref m_letters, .ref m_actOf, .ref m_whom, .ref m_actMany, .ref m_tokens, .ref m_afters, .ref m_afterOf, .int q_counted, .ref m_pile, .ref m_caseMany, .ref m_happen, .ref m_hasIf, .ref m_becomes, .ref m_goneOf, .ref m_heard, .ref m_pairs, .ref m_heaps, .int q_rounds, .int q_heapMany, .ref m_led, .ref m_newAt, .ref m_knowing, .ref m_firsts, .int (nI q_people), .ref m_secrets, .ref m_tried, .ref m_lanes, .ref m_lengths, .ref m_cells])), (m_manys, .inl (E.2.1 1, 18, .inl f_manys)), (m_reals, .inl (E.2.1 1, 18, .inl f_reals)), (m_factsOf, .inl (E.2.1 1, 432, .inl f_factsOf)), (m_possible, .inl (E.2.1 1, 1728, .inl f_possible)), (m_heaps, .inl (E.2.1 1, 2400, .inl f_heaps)), (m_led, .inl (E.2.1 2, 192, .inr (.inl f_led)))] (Qi E (fun (rz : Int32) uz => (∃ (rz_ : Int32) (hmz : Int32) (f_heapsz : Nat → Int32) (f_ledz : Nat → Int64), uz = [(hm, .inr (12, [.ref m_manys, .ref m_reals, .ref m_factsOf, .ref m_possible, .int (nI q_undos), .int (nI q_models), .ref m_tape, .int (nI q_taped), .int q_fault, .int q_wrong, .int q_wrongAt, .int q_spot, .int q_place, .int q_token, .int q_value, .ref m_ends, .ref m_letters, .ref m_actOf, .ref m_whom, .ref m_actMany, .ref m_tokens, .ref m_afters, .ref m_afterOf, .int q_counted, .ref m_pile, .ref m_caseMany, .ref m_happen, .ref m_hasIf, .ref m_becomes, .ref m_goneOf, .ref m_heard, .ref m_pairs, .ref m_heaps, .int rz_, .int hmz, .ref m_led, .ref m_newAt, .ref m_knowing, .ref m_firsts, .int (nI q_people), .ref m_secrets, .ref m_tried, .ref m_lanes, .ref m_lengths, .ref m_cells])), (m_manys, .inl (E.2.1 1, 18, .inl f_manys)), (m_reals, .inl (E.2.1 1, 18, .inl f_reals)), (m_factsOf, .inl (E.2.1 1, 432, .inl f_factsOf)), (m_possible, .inl (E.2.1 1, 1728, .inl f_possible)), (m_heaps, .inl (E.2.1 1, 2400, .inl f_heapsz)), (m_led, .inl (E.2.1 2, 192, .inr (.inl f_ledz)))] ∧ (ansDep (pgs f_manys f_reals f_factsOf f_possible 0) v0 v1 rz)))) 0 0 := by
  refine ct_of rfl rfl ?_
  intro X C hT hin hro
  show WW X 4 E 0 [(0, .ref hm), (1, .int v0), (2, .int v1)] [] [(hm, .inr (12, [.ref m_manys, .ref m_reals, .ref m_factsOf, .ref m_possible, .int (nI q_undos), .int (nI q_models), .ref m_tape, .int (nI q_taped), .int q_fault, .int q_wrong, .int q_wrongAt, .int q_spot, .int q_place, .int q_token, .int q_value, .ref m_ends, .ref m_letters, .ref m_actOf, .ref m_whom, .ref m_actMany, .ref m_tokens, .ref m_afters, .ref m_afterOf, .int q_counted, .ref m_pile, .ref m_caseMany, .ref m_happen, .ref m_hasIf, .ref m_becomes, .ref m_goneOf, .ref m_heard, .ref m_pairs, .ref m_heaps, .int q_rounds, .int q_heapMany, .ref m_led, .ref m_newAt, .ref m_knowing, .ref m_firsts, .int (nI q_people), .ref m_secrets, .ref m_tried, .ref m_lanes, .ref m_lengths, .ref m_cells])), (m_manys, .inl (E.2.1 1, 18, .inl f_manys)), (m_reals, .inl (E.2.1 1, 18, .inl f_reals)), (m_factsOf, .inl (E.2.1 1, 432, .inl f_factsOf)), (m_possible, .inl (E.2.1 1, 1728, .inl f_possible)), (m_heaps, .inl (E.2.1 1, 2400, .inl f_heaps)), (m_led, .inl (E.2.1 2, 192, .inr (.inl f_led)))] 0 0
  have hmn0 := (hb_manys 0 (by omega)).2
  refine ww_aload_n C dX12_depth_0 0 rfl rfl ?_
  refine ww_iload_n C dX12_depth_1 1 rfl rfl ?_
  refine ww_ci (wr := [(m_reals, .inl (E.2.1 1, 18, .inl f_reals)), (m_factsOf, .inl (E.2.1 1, 432, .inl f_factsOf)), (m_possible, .inl (E.2.1 1, 1728, .inl f_possible)), (m_heaps, .inl (E.2.1 1, 2400, .inl f_heaps)), (m_led, .inl (E.2.1 2, 192, .inr (.inl f_led)))]) (k' := 0) (n' := 0) C (run_V (As := [.int v0]) (rest := []) C (r_isWorld X.2.1 E ro hm v0 m_manys m_reals m_factsOf m_possible q_undos q_models m_tape q_taped q_fault q_wrong q_wrongAt q_spot q_place q_token q_value m_ends m_letters m_actOf m_whom m_actMany m_tokens m_afters m_afterOf q_counted m_pile m_caseMany m_happen m_hasIf m_becomes m_goneOf m_heard m_pairs m_heaps q_rounds q_heapMany m_led m_newAt m_knowing m_firsts q_people m_secrets m_tried m_lanes m_lengths m_cells f_manys hb_manys) mi_X12_isWorld wl_X12_132 rfl 0 12 rfl rfl rfl rfl rfl dX12_depth_2) (roK hro) [0, 1] [2, 3, 4, 5, 6] rfl rfl rfl rfl (fun r_1 uz hw => ?_)
  rcases hw with hw | hw
  · refine an3 hw ?_
    clear hw
    intro he_4 he_5 h_2 hw
    have h_3 := hw
    clear hw
    have he_4 := he_4.symm
    subst he_4
    subst he_5
    refine ww_eq (ws' := [(m_reals, .inl (E.2.1 1, 18, .inl f_reals)), (m_factsOf, .inl (E.2.1 1, 432, .inl f_factsOf)), (m_possible, .inl (E.2.1 1, 1728, .inl f_possible)), (m_heaps, .inl (E.2.1 1, 2400, .inl f_heaps)), (m_led, .inl (E.2.1 2, 192, .inr (.inl f_led))), (hm, .inr (12, [.ref m_manys, .ref m_reals, .ref m_factsOf, .ref m_possible, .int (nI q_undos), .int (nI q_models), .ref m_tape, .int (nI q_taped), .int q_fault, .int q_wrong, .int q_wrongAt, .int q_spot, .int q_place, .int q_token, .int q_value, .ref m_ends, .ref m_letters, .ref m_actOf, .ref m_whom, .ref m_actMany, .ref m_tokens, .ref m_afters, .ref m_afterOf, .int q_counted, .ref m_pile, .ref m_caseMany, .ref m_happen, .ref m_hasIf, .ref m_becomes, .ref m_goneOf, .ref m_heard, .ref m_pairs, .ref m_heaps, .int q_rounds, .int q_heapMany, .ref m_led, .ref m_newAt, .ref m_knowing, .ref m_firsts, .int (nI q_people), .ref m_secrets, .ref m_tried, .ref m_lanes, .ref m_lengths, .ref m_cells])), (m_manys, .inl (E.2.1 1, 18, .inl f_manys))]) ?_ rfl rfl rfl
    refine ww_if_eq_f (tgt := 16) C dX12_depth_5 (by decide) (by decide) ?_
    refine ww_aload_n C dX12_depth_8 0 rfl rfl ?_
    refine ww_iload_n C dX12_depth_9 2 rfl rfl ?_
    refine ww_ci (wr := [(m_reals, .inl (E.2.1 1, 18, .inl f_reals)), (m_factsOf, .inl (E.2.1 1, 432, .inl f_factsOf)), (m_possible, .inl (E.2.1 1, 1728, .inl f_possible)), (m_heaps, .inl (E.2.1 1, 2400, .inl f_heaps)), (m_led, .inl (E.2.1 2, 192, .inr (.inl f_led)))]) (k' := 0) (n' := 0) C (run_V (As := [.int v1]) (rest := []) C (r_isWorld X.2.1 E ro hm v1 m_manys m_reals m_factsOf m_possible q_undos q_models m_tape q_taped q_fault q_wrong q_wrongAt q_spot q_place q_token q_value m_ends m_letters m_actOf m_whom m_actMany m_tokens m_afters m_afterOf q_counted m_pile m_caseMany m_happen m_hasIf m_becomes m_goneOf m_heard m_pairs m_heaps q_rounds q_heapMany m_led m_newAt m_knowing m_firsts q_people m_secrets m_tried m_lanes m_lengths m_cells f_manys hb_manys) mi_X12_isWorld wl_X12_132 rfl 0 12 rfl rfl rfl rfl rfl dX12_depth_10) (roK hro) [5, 6] [0, 1, 2, 3, 4] rfl rfl rfl rfl (fun r_9 uz hw => ?_)
    rcases hw with hw | hw
    · refine an3 hw ?_
      clear hw
      intro he_12 he_13 h_10 hw
      have h_11 := hw
      clear hw
      have he_12 := he_12.symm
      subst he_12
      subst he_13
      refine ww_eq (ws' := [(m_reals, .inl (E.2.1 1, 18, .inl f_reals)), (m_factsOf, .inl (E.2.1 1, 432, .inl f_factsOf)), (m_possible, .inl (E.2.1 1, 1728, .inl f_possible)), (m_heaps, .inl (E.2.1 1, 2400, .inl f_heaps)), (m_led, .inl (E.2.1 2, 192, .inr (.inl f_led))), (hm, .inr (12, [.ref m_manys, .ref m_reals, .ref m_factsOf, .ref m_possible, .int (nI q_undos), .int (nI q_models), .ref m_tape, .int (nI q_taped), .int q_fault, .int q_wrong, .int q_wrongAt, .int q_spot, .int q_place, .int q_token, .int q_value, .ref m_ends, .ref m_letters, .ref m_actOf, .ref m_whom, .ref m_actMany, .ref m_tokens, .ref m_afters, .ref m_afterOf, .int q_counted, .ref m_pile, .ref m_caseMany, .ref m_happen, .ref m_hasIf, .ref m_becomes, .ref m_goneOf, .ref m_heard, .ref m_pairs, .ref m_heaps, .int q_rounds, .int q_heapMany, .ref m_led, .ref m_newAt, .ref m_knowing, .ref m_firsts, .int (nI q_people), .ref m_secrets, .ref m_tried, .ref m_lanes, .ref m_lengths, .ref m_cells])), (m_manys, .inl (E.2.1 1, 18, .inl f_manys))]) ?_ rfl rfl rfl
      refine ww_if_ne_t (tgt := 18) C dX12_depth_13 (by decide) (by decide) ?_
      obtain ⟨j_17, hj_17, rfl⟩ := i_nat (x := v0) (N := 24) (by omega) (by omega)
      have hzj_17 := nI_toInt (n := j_17) (by omega)
      obtain ⟨j_18, hj_18, rfl⟩ := i_nat (x := v1) (N := 24) (by omega) (by omega)
      have hzj_18 := nI_toInt (n := j_18) (by omega)
      refine ww_aload_n C dX12_depth_18 0 rfl rfl ?_
      refine ww_iconst (v := 0) C dX12_depth_19 rfl ?_
      refine ww_bipush (v := (-4)) C dX12_depth_20 rfl ?_
      refine ww_cv (wr := []) (k' := 0) (n' := 0) C (run_V (As := [.int 0, .int (-4)]) (rest := []) C (r_layHeapsN X.2.1 E ro hm m_manys m_reals m_factsOf m_possible q_undos q_models m_tape q_taped q_fault q_wrong q_wrongAt q_spot q_place q_token q_value m_ends m_letters m_actOf m_whom m_actMany m_tokens m_afters m_afterOf q_counted m_pile m_caseMany m_happen m_hasIf m_becomes m_goneOf m_heard m_pairs m_heaps q_rounds q_heapMany m_led m_newAt m_knowing m_firsts q_people m_secrets m_tried m_lanes m_lengths m_cells f_manys f_reals f_factsOf f_possible f_heaps f_led hb_manys hb_reals hpg hwf) mi_X12_layHeaps wl_X12_298 rfl 0 12 rfl rfl rfl rfl rfl dX12_depth_22) (roK hro) [5, 6, 0, 1, 2, 3, 4] [] rfl rfl rfl rfl (fun uz hw => ?_)
      refine ex4 hw ?_
      clear hw
      intro rz__20 hmz_21 f_heapsz_22 f_ledz_23 hw
      refine an5 hw ?_
      clear hw
      intro he_29 h_24 h_25 h_26 h_27 hw
      have h_28 := hw
      clear hw
      subst he_29
      refine ww_eq (ws' := [(hm, .inr (12, [.ref m_manys, .ref m_reals, .ref m_factsOf, .ref m_possible, .int (nI q_undos), .int (nI q_models), .ref m_tape, .int (nI q_taped), .int q_fault, .int q_wrong, .int q_wrongAt, .int q_spot, .int q_place, .int q_token, .int q_value, .ref m_ends, .ref m_letters, .ref m_actOf, .ref m_whom, .ref m_actMany, .ref m_tokens, .ref m_afters, .ref m_afterOf, .int q_counted, .ref m_pile, .ref m_caseMany, .ref m_happen, .ref m_hasIf, .ref m_becomes, .ref m_goneOf, .ref m_heard, .ref m_pairs, .ref m_heaps, .int (nI rz__20), .int (nI hmz_21), .ref m_led, .ref m_newAt, .ref m_knowing, .ref m_firsts, .int (nI q_people), .ref m_secrets, .ref m_tried, .ref m_lanes, .ref m_lengths, .ref m_cells])), (m_manys, .inl (E.2.1 1, 18, .inl f_manys)), (m_reals, .inl (E.2.1 1, 18, .inl f_reals)), (m_factsOf, .inl (E.2.1 1, 432, .inl f_factsOf)), (m_possible, .inl (E.2.1 1, 1728, .inl f_possible)), (m_heaps, .inl (E.2.1 1, 2400, .inl f_heapsz_22)), (m_led, .inl (E.2.1 2, 192, .inr (.inl f_ledz_23)))]) ?_ rfl rfl rfl
      refine ww_iconst (v := 0) C dX12_depth_25 rfl ?_
      refine ww_istore_n (lv' := [(3, .int 0), (0, .ref hm), (1, .int (nI j_17)), (2, .int (nI j_18))]) C dX12_depth_26 rfl rfl rfl ?_
      have loop_27 : ∀ (fu : Nat) (r1 : Nat), (r1 ≤ rz__20 + 1) → (∀ s, s < r1 → rk (cm1 (pgs f_manys f_reals f_factsOf f_possible 0)) s j_17 = rk (cm1 (pgs f_manys f_reals f_factsOf f_possible 0)) s j_18) → rz__20 + 1 - r1 < fu → WW X 4 E 27 [(3, .int (nI r1)), (0, .ref hm), (1, .int (nI j_17)), (2, .int (nI j_18))] [] [(hm, .inr (12, [.ref m_manys, .ref m_reals, .ref m_factsOf, .ref m_possible, .int (nI q_undos), .int (nI q_models), .ref m_tape, .int (nI q_taped), .int q_fault, .int q_wrong, .int q_wrongAt, .int q_spot, .int q_place, .int q_token, .int q_value, .ref m_ends, .ref m_letters, .ref m_actOf, .ref m_whom, .ref m_actMany, .ref m_tokens, .ref m_afters, .ref m_afterOf, .int q_counted, .ref m_pile, .ref m_caseMany, .ref m_happen, .ref m_hasIf, .ref m_becomes, .ref m_goneOf, .ref m_heard, .ref m_pairs, .ref m_heaps, .int (nI rz__20), .int (nI hmz_21), .ref m_led, .ref m_newAt, .ref m_knowing, .ref m_firsts, .int (nI q_people), .ref m_secrets, .ref m_tried, .ref m_lanes, .ref m_lengths, .ref m_cells])), (m_manys, .inl (E.2.1 1, 18, .inl f_manys)), (m_reals, .inl (E.2.1 1, 18, .inl f_reals)), (m_factsOf, .inl (E.2.1 1, 432, .inl f_factsOf)), (m_possible, .inl (E.2.1 1, 1728, .inl f_possible)), (m_heaps, .inl (E.2.1 1, 2400, .inl f_heapsz_22)), (m_led, .inl (E.2.1 2, 192, .inr (.inl f_ledz_23)))] 0 0 := by
        intro fu
        induction fu with
        | zero => intro r1 hr1 hdr hmeas; exact absurd hmeas (Nat.not_lt_zero _)
        | succ fu ih_27 =>
          intro r1 hr1 hdr hmeas
          refine ww_iload_n C dX12_depth_27 0 rfl rfl ?_
          refine ww_aload_n C dX12_depth_28 1 rfl rfl ?_
          refine ww_get C fg_X12_288 0 rfl rfl dX12_depth_29 ?_
          refine ww_icmp_gt (tgt := 68) C dX12_depth_32 (by decide) (fun c_30 => ?_) (fun c_30 => ?_)
          · have zc_30 : ((r1 : Nat) : Int) > ((rz__20 : Nat) : Int) := i_lt (nI_toInt (n := rz__20) (by omega)) (nI_toInt (n := r1) (by omega)) c_30
            refine ww_bipush (v := (-4)) C dX12_depth_68 rfl ?_
            exact ww_iret (u := [(hm, .inr (12, [.ref m_manys, .ref m_reals, .ref m_factsOf, .ref m_possible, .int (nI q_undos), .int (nI q_models), .ref m_tape, .int (nI q_taped), .int q_fault, .int q_wrong, .int q_wrongAt, .int q_spot, .int q_place, .int q_token, .int q_value, .ref m_ends, .ref m_letters, .ref m_actOf, .ref m_whom, .ref m_actMany, .ref m_tokens, .ref m_afters, .ref m_afterOf, .int q_counted, .ref m_pile, .ref m_caseMany, .ref m_happen, .ref m_hasIf, .ref m_becomes, .ref m_goneOf, .ref m_heard, .ref m_pairs, .ref m_heaps, .int (nI rz__20), .int (nI hmz_21), .ref m_led, .ref m_newAt, .ref m_knowing, .ref m_firsts, .int (nI q_people), .ref m_secrets, .ref m_tried, .ref m_lanes, .ref m_lengths, .ref m_cells])), (m_manys, .inl (E.2.1 1, 18, .inl f_manys)), (m_reals, .inl (E.2.1 1, 18, .inl f_reals)), (m_factsOf, .inl (E.2.1 1, 432, .inl f_factsOf)), (m_possible, .inl (E.2.1 1, 1728, .inl f_possible)), (m_heaps, .inl (E.2.1 1, 2400, .inl f_heapsz_22)), (m_led, .inl (E.2.1 2, 192, .inr (.inl f_ledz_23)))]) C hT [0, 1, 2, 3, 4, 5, 6] rfl rfl rfl rfl dX12_depth_70 (⟨(nI rz__20), (nI hmz_21), f_heapsz_22, f_ledz_23, rfl, (Or.inr ⟨(show 0 ≤ (nI j_17).toInt ∧ (nI j_17).toInt < (cN f_manys 0 : Int) ∧ 0 ≤ (nI j_18).toInt ∧ (nI j_18).toInt < (cN f_manys 0 : Int) by omega), by rw [tN_n (n := j_17) (by omega), tN_n (n := j_18) (by omega)]; exact (Or.inl ⟨rfl, fun s _ => dep_none h_28 (cm1_wf (hwf 0 (by omega))) (fun s hs => hdr s (by omega)) (show j_17 < cN f_manys 0 by omega) (show j_18 < cN f_manys 0 by omega) s⟩)⟩)⟩)
          · have zc_30 : ((r1 : Nat) : Int) ≤ ((rz__20 : Nat) : Int) := i_nlt (nI_toInt (n := rz__20) (by omega)) (nI_toInt (n := r1) (by omega)) c_30
            refine ww_aload_n C dX12_depth_35 1 rfl rfl ?_
            refine ww_get C fg_X12_74 0 rfl rfl dX12_depth_36 ?_
            refine ww_bipush (v := 48) C dX12_depth_39 rfl ?_
            refine ww_iload_n C dX12_depth_41 0 rfl rfl ?_
            refine ww_imul (v := (nI (48 * r1))) C dX12_depth_42 (pk_mul 48 r1) ?_
            refine ww_iload_n C dX12_depth_43 2 rfl rfl ?_
            refine ww_iadd (v := (nI ((48 * r1) + j_17))) C dX12_depth_44 (nI_add (48 * r1) j_17) ?_
            obtain ⟨x_31, ex_31⟩ : ∃ z : Int32, f_heapsz_22 ((48 * r1) + j_17) = z := ⟨_, rfl⟩
            refine ww_iald (v := x_31) C 5 rfl (vp_in_nI (by omega) (by omega)) (ldn (by omega) ex_31) dX12_depth_45 ?_
            refine ww_aload_n C dX12_depth_46 1 rfl rfl ?_
            refine ww_get C fg_X12_74 0 rfl rfl dX12_depth_47 ?_
            refine ww_bipush (v := 48) C dX12_depth_50 rfl ?_
            refine ww_iload_n C dX12_depth_52 0 rfl rfl ?_
            refine ww_imul (v := (nI (48 * r1))) C dX12_depth_53 (pk_mul 48 r1) ?_
            refine ww_iload_n C dX12_depth_54 3 rfl rfl ?_
            refine ww_iadd (v := (nI ((48 * r1) + j_18))) C dX12_depth_55 (nI_add (48 * r1) j_18) ?_
            obtain ⟨x_32, ex_32⟩ : ∃ z : Int32, f_heapsz_22 ((48 * r1) + j_18) = z := ⟨_, rfl⟩
            refine ww_iald (v := x_32) C 5 rfl (vp_in_nI (by omega) (by omega)) (ldn (by omega) ex_32) dX12_depth_56 ?_
            refine ww_icmp_eq (tgt := 62) C dX12_depth_57 (by decide) (fun c_33 => ?_) (fun c_33 => ?_)
            · have zc_33 : x_31.toInt = x_32.toInt := i_eq rfl rfl c_33
              refine ww_iinc (j := 0) (v := (nI (r1 + 1))) (lv' := [(3, .int (nI (r1 + 1))), (0, .ref hm), (1, .int (nI j_17)), (2, .int (nI j_18))]) C dX12_depth_62 rfl (nI_add r1 1) rfl rfl ?_
              refine ww_goto (tgt := 27) C dX12_depth_65 (by decide) ?_
              exact ww_lv [0, 1, 2, 3] rfl (ww_sub [0, 1, 2, 3, 4, 5, 6] rfl rfl (ih_27 (r1 + 1) (by omega) (fun s hs => if hk : s = r1 then (by rw [hk]; exact (rk_eq2 (show cN f_manys 0 ≤ 48 by omega) (h_27 r1 (by omega)) (show j_17 < cN f_manys 0 by omega) (show j_18 < cN f_manys 0 by omega) (by assumption) (by assumption)).mp (by assumption)) else hdr s (by omega)) (by omega)))
            · have zc_33 : x_31.toInt ≠ x_32.toInt := i_ne rfl rfl c_33
              refine ww_iload_n C dX12_depth_60 0 rfl rfl ?_
              exact ww_iret (u := [(hm, .inr (12, [.ref m_manys, .ref m_reals, .ref m_factsOf, .ref m_possible, .int (nI q_undos), .int (nI q_models), .ref m_tape, .int (nI q_taped), .int q_fault, .int q_wrong, .int q_wrongAt, .int q_spot, .int q_place, .int q_token, .int q_value, .ref m_ends, .ref m_letters, .ref m_actOf, .ref m_whom, .ref m_actMany, .ref m_tokens, .ref m_afters, .ref m_afterOf, .int q_counted, .ref m_pile, .ref m_caseMany, .ref m_happen, .ref m_hasIf, .ref m_becomes, .ref m_goneOf, .ref m_heard, .ref m_pairs, .ref m_heaps, .int (nI rz__20), .int (nI hmz_21), .ref m_led, .ref m_newAt, .ref m_knowing, .ref m_firsts, .int (nI q_people), .ref m_secrets, .ref m_tried, .ref m_lanes, .ref m_lengths, .ref m_cells])), (m_manys, .inl (E.2.1 1, 18, .inl f_manys)), (m_reals, .inl (E.2.1 1, 18, .inl f_reals)), (m_factsOf, .inl (E.2.1 1, 432, .inl f_factsOf)), (m_possible, .inl (E.2.1 1, 1728, .inl f_possible)), (m_heaps, .inl (E.2.1 1, 2400, .inl f_heapsz_22)), (m_led, .inl (E.2.1 2, 192, .inr (.inl f_ledz_23)))]) C hT [0, 1, 2, 3, 4, 5, 6] rfl rfl rfl rfl dX12_depth_61 (⟨(nI rz__20), (nI hmz_21), f_heapsz_22, f_ledz_23, rfl, (Or.inr ⟨(show 0 ≤ (nI j_17).toInt ∧ (nI j_17).toInt < (cN f_manys 0 : Int) ∧ 0 ≤ (nI j_18).toInt ∧ (nI j_18).toInt < (cN f_manys 0 : Int) by omega), by rw [tN_n (n := j_17) (by omega), tN_n (n := j_18) (by omega)]; exact (Or.inr ⟨r1, rfl, dep_r h_28 (by omega) hdr (fun h9 => absurd ((rk_eq2 (c := (cm1 (pgs f_manys f_reals f_factsOf f_possible 0))) (show cN f_manys 0 ≤ 48 by omega) (h_27 r1 (by omega)) (show j_17 < cN f_manys 0 by omega) (show j_18 < cN f_manys 0 by omega) (by assumption) (by assumption)).mpr h9) (by assumption)) (show j_17 < cN f_manys 0 by omega) (show j_18 < cN f_manys 0 by omega), (fun h9 => absurd ((rk_eq2 (c := (cm1 (pgs f_manys f_reals f_factsOf f_possible 0))) (show cN f_manys 0 ≤ 48 by omega) (h_27 r1 (by omega)) (show j_17 < cN f_manys 0 by omega) (show j_18 < cN f_manys 0 by omega) (by assumption) (by assumption)).mpr h9) (by assumption)), hdr⟩)⟩)⟩)
      exact ww_lv [0, 1, 2, 3] rfl (ww_sub [0, 1, 2, 3, 4, 5, 6] rfl rfl (loop_27 _ 0 (by omega) (fun s h => absurd h (Nat.not_lt_zero _)) (Nat.lt_succ_self _)))
    · refine an2 hw ?_
      clear hw
      intro he_15 he_16 hw
      have h_14 := hw
      clear hw
      have he_15 := he_15.symm
      subst he_15
      subst he_16
      refine ww_eq (ws' := [(m_reals, .inl (E.2.1 1, 18, .inl f_reals)), (m_factsOf, .inl (E.2.1 1, 432, .inl f_factsOf)), (m_possible, .inl (E.2.1 1, 1728, .inl f_possible)), (m_heaps, .inl (E.2.1 1, 2400, .inl f_heaps)), (m_led, .inl (E.2.1 2, 192, .inr (.inl f_led))), (hm, .inr (12, [.ref m_manys, .ref m_reals, .ref m_factsOf, .ref m_possible, .int (nI q_undos), .int (nI q_models), .ref m_tape, .int (nI q_taped), .int q_fault, .int q_wrong, .int q_wrongAt, .int q_spot, .int q_place, .int q_token, .int q_value, .ref m_ends, .ref m_letters, .ref m_actOf, .ref m_whom, .ref m_actMany, .ref m_tokens, .ref m_afters, .ref m_afterOf, .int q_counted, .ref m_pile, .ref m_caseMany, .ref m_happen, .ref m_hasIf, .ref m_becomes, .ref m_goneOf, .ref m_heard, .ref m_pairs, .ref m_heaps, .int q_rounds, .int q_heapMany, .ref m_led, .ref m_newAt, .ref m_knowing, .ref m_firsts, .int (nI q_people), .ref m_secrets, .ref m_tried, .ref m_lanes, .ref m_lengths, .ref m_cells])), (m_manys, .inl (E.2.1 1, 18, .inl f_manys))]) ?_ rfl rfl rfl
      refine ww_if_ne_f (tgt := 18) C dX12_depth_13 (by decide) (rfl) ?_
      refine ww_iconst (v := (-1)) C dX12_depth_16 rfl ?_
      exact ww_iret (u := [(hm, .inr (12, [.ref m_manys, .ref m_reals, .ref m_factsOf, .ref m_possible, .int (nI q_undos), .int (nI q_models), .ref m_tape, .int (nI q_taped), .int q_fault, .int q_wrong, .int q_wrongAt, .int q_spot, .int q_place, .int q_token, .int q_value, .ref m_ends, .ref m_letters, .ref m_actOf, .ref m_whom, .ref m_actMany, .ref m_tokens, .ref m_afters, .ref m_afterOf, .int q_counted, .ref m_pile, .ref m_caseMany, .ref m_happen, .ref m_hasIf, .ref m_becomes, .ref m_goneOf, .ref m_heard, .ref m_pairs, .ref m_heaps, .int q_rounds, .int q_heapMany, .ref m_led, .ref m_newAt, .ref m_knowing, .ref m_firsts, .int (nI q_people), .ref m_secrets, .ref m_tried, .ref m_lanes, .ref m_lengths, .ref m_cells])), (m_manys, .inl (E.2.1 1, 18, .inl f_manys)), (m_reals, .inl (E.2.1 1, 18, .inl f_reals)), (m_factsOf, .inl (E.2.1 1, 432, .inl f_factsOf)), (m_possible, .inl (E.2.1 1, 1728, .inl f_possible)), (m_heaps, .inl (E.2.1 1, 2400, .inl f_heaps)), (m_led, .inl (E.2.1 2, 192, .inr (.inl f_led)))]) C hT [5, 6, 0, 1, 2, 3, 4] rfl rfl rfl rfl dX12_depth_17 (⟨q_rounds, q_heapMany, f_heaps, f_led, rfl, (Or.inl ⟨(show v0.toInt < 0 ∨ (cN f_manys 0 : Int) ≤ v0.toInt ∨ v1.toInt < 0 ∨ (cN f_manys 0 : Int) ≤ v1.toInt by omega), rfl⟩)⟩)
  · refine an2 hw ?_
    clear hw
    intro he_7 he_8 hw
    have h_6 := hw
    clear hw
    have he_7 := he_7.symm
    subst he_7
    subst he_8
    refine ww_eq (ws' := [(m_reals, .inl (E.2.1 1, 18, .inl f_reals)), (m_factsOf, .inl (E.2.1 1, 432, .inl f_factsOf)), (m_possible, .inl (E.2.1 1, 1728, .inl f_possible)), (m_heaps, .inl (E.2.1 1, 2400, .inl f_heaps)), (m_led, .inl (E.2.1 2, 192, .inr (.inl f_led))), (hm, .inr (12, [.ref m_manys, .ref m_reals, .ref m_factsOf, .ref m_possible, .int (nI q_undos), .int (nI q_models), .ref m_tape, .int (nI q_taped), .int q_fault, .int q_wrong, .int q_wrongAt, .int q_spot, .int q_place, .int q_token, .int q_value, .ref m_ends, .ref m_letters, .ref m_actOf, .ref m_whom, .ref m_actMany, .ref m_tokens, .ref m_afters, .ref m_afterOf, .int q_counted, .ref m_pile, .ref m_caseMany, .ref m_happen, .ref m_hasIf, .ref m_becomes, .ref m_goneOf, .ref m_heard, .ref m_pairs, .ref m_heaps, .int q_rounds, .int q_heapMany, .ref m_led, .ref m_newAt, .ref m_knowing, .ref m_firsts, .int (nI q_people), .ref m_secrets, .ref m_tried, .ref m_lanes, .ref m_lengths, .ref m_cells])), (m_manys, .inl (E.2.1 1, 18, .inl f_manys))]) ?_ rfl rfl rfl
    refine ww_if_eq_t (tgt := 16) C dX12_depth_5 (by decide) (rfl) ?_
    refine ww_iconst (v := (-1)) C dX12_depth_16 rfl ?_
    exact ww_iret (u := [(hm, .inr (12, [.ref m_manys, .ref m_reals, .ref m_factsOf, .ref m_possible, .int (nI q_undos), .int (nI q_models), .ref m_tape, .int (nI q_taped), .int q_fault, .int q_wrong, .int q_wrongAt, .int q_spot, .int q_place, .int q_token, .int q_value, .ref m_ends, .ref m_letters, .ref m_actOf, .ref m_whom, .ref m_actMany, .ref m_tokens, .ref m_afters, .ref m_afterOf, .int q_counted, .ref m_pile, .ref m_caseMany, .ref m_happen, .ref m_hasIf, .ref m_becomes, .ref m_goneOf, .ref m_heard, .ref m_pairs, .ref m_heaps, .int q_rounds, .int q_heapMany, .ref m_led, .ref m_newAt, .ref m_knowing, .ref m_firsts, .int (nI q_people), .ref m_secrets, .ref m_tried, .ref m_lanes, .ref m_lengths, .ref m_cells])), (m_manys, .inl (E.2.1 1, 18, .inl f_manys)), (m_reals, .inl (E.2.1 1, 18, .inl f_reals)), (m_factsOf, .inl (E.2.1 1, 432, .inl f_factsOf)), (m_possible, .inl (E.2.1 1, 1728, .inl f_possible)), (m_heaps, .inl (E.2.1 1, 2400, .inl f_heaps)), (m_led, .inl (E.2.1 2, 192, .inr (.inl f_led)))]) C hT [5, 6, 0, 1, 2, 3, 4] rfl rfl rfl rfl dX12_depth_17 (⟨q_rounds, q_heapMany, f_heaps, f_led, rfl, (Or.inl ⟨(show v0.toInt < 0 ∨ (cN f_manys 0 : Int) ≤ v0.toInt ∨ v1.toInt < 0 ∨ (cN f_manys 0 : Int) ≤ v1.toInt by omega), rfl⟩)⟩)
