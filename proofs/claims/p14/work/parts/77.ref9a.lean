section
/-! classes and depth, of the reference's rounds -/
theorem rk_mlp {m : AM} {fl : Nat → Int32} (h48 : m.1 ≤ 48) (hx : RKx (cm1 m) m.1 m.1 fl) : cb (fun w => decide (fl w = nI w)) m.1 = cb (mlP m) m.1 := cb_congr (fun w hw => by
  have l1 := (rk_le (cm1 m) m.1 w).1
  show decide (fl w = nI w) = decide (rk (cm1 m) m.1 w = w)
  rw [hx w hw]
  exact dec_cg (nI_eq (by omega) (by omega)))
theorem dep_r {c : CMl} {z r u v : Nat} (hst : RST c z) (hr : r ≤ z) (h : ∀ s, s < r → rk c s u = rk c s v) (hne : rk c r u ≠ rk c r v) (hu : u < c.1) (hv : v < c.1) : r ≤ c.1 := by
  obtain ⟨q, e, hq, h1⟩ := hst
  subst e
  by_cases w : r = q + 1
  · exfalso; apply hne
    rw [w, h1 u hu, h1 v hv]; exact h q (by omega)
  · omega
theorem dep_none {c : CMl} {z u v : Nat} (hst : RST c z) (hw : CWF c) (h : ∀ s, s < z + 1 → rk c s u = rk c s v) (hu : u < c.1) (hv : v < c.1) : ∀ s, rk c s u = rk c s v := fun s => by
  obtain ⟨q, e, hq, h1⟩ := hst
  subst e
  rcases Nat.lt_or_ge s q with w | w
  · exact h s (by omega)
  · obtain ⟨d, rfl⟩ : ∃ d, s = q + d := ⟨s - q, by omega⟩
    rw [rk_rest hw h1 d u hu, rk_rest hw h1 d v hv]; exact h q (by omega)
theorem rk_eq2 {c : CMl} {hp : Nat → Int32} {r u v : Nat} {x y : Int32} (h48 : c.1 ≤ 48) (h : RKx c c.1 r (rowH hp r)) (hu : u < c.1) (hv : v < c.1) (ex : hp (48 * r + u) = x) (ey : hp (48 * r + v) = y) : x.toInt = y.toInt ↔ rk c r u = rk c r v := by
  have h1 := rk_eqv (n := c.1) h hu hv h48
  unfold rowH at h1
  rw [ex, ey] at h1
  exact ⟨fun q => h1.mp (Int32.toInt_inj.mp q), fun q => congrArg Int32.toInt (h1.mpr q)⟩
/-- what keep makes of the pages -/
def KPU (PG PG' : Nat → AM) : Prop := ∀ p, p < 18 → (p < 6 ∨ 10 ≤ p) → PG' p = PG p
theorem KPU.rf {PG : Nat → AM} : KPU PG PG := fun _ _ _ => rfl
theorem kp_copy {PG PG' : Nat → AM} {kc : Nat} (h : ∀ j, j < 18 → PG' j = if j = 6 + kc then PG 0 else PG j) (hk : kc < 4) : KPU PG PG' ∧ ∀ i, i < 4 → PG' (6 + i) = if i = kc then PG 0 else PG (6 + i) := by
  refine ⟨fun p a b => (h p a).trans (if_neg (by omega)), fun i hi => ?_⟩
  rw [h (6 + i) (by omega)]
  by_cases q : i = kc
  · rw [if_pos q, if_pos (show 6 + i = 6 + kc by omega)]
  · rw [if_neg q, if_neg (show ¬ 6 + i = 6 + kc by omega)]
/-! melted, by the reference -/
theorem mlg_1 {m : AM} {fl : Nat → Int32} {w : Nat} {x : Int32} (h48 : m.1 ≤ 48) (hx : RKx (cm1 m) m.1 m.1 fl) (hw : w < m.1) (e : fl w = x) (hz : x.toInt = (w : Int)) : mlP m w = true := by
  have l1 := (rk_le (cm1 m) m.1 w).1
  have h1 := hx w hw
  rw [e] at h1
  rw [h1, nI_toInt (by omega)] at hz
  exact decide_eq_true (show rk (cm1 m) m.1 w = w by omega)
theorem mlg_0 {m : AM} {fl : Nat → Int32} {w : Nat} {x : Int32} (h48 : m.1 ≤ 48) (hx : RKx (cm1 m) m.1 m.1 fl) (hw : w < m.1) (e : fl w = x) (hz : x.toInt ≠ (w : Int)) : mlP m w = false := by
  have l1 := (rk_le (cm1 m) m.1 w).1
  have h1 := hx w hw
  rw [e] at h1
  rw [h1, nI_toInt (by omega)] at hz
  exact decide_eq_false (show ¬ rk (cm1 m) m.1 w = w by omega)
theorem melt_row {m : AM} {k p : Nat} {bs x : Int32} (h24 : m.1 ≤ 24) (hw : WFm m) (hb : ∀ v, m.2.2.2 k p v = bt bs v) (h : CLx bs (fun v => cb (mlP m) (clsS (cm1 m) v)) 24 x) : BS x (fun j => decide (j < cb (mlP m) m.1) && anyN (fun v => m.2.2.2 k p v && decide (clsS (cm1 m) v = nth (mlP m) m.1 j)) 24) := BS.cg h (fun j _ => by
  apply bool_iff
  show anyN (fun v => bt bs v && decide (cb (mlP m) (clsS (cm1 m) v) = j)) 24 = true ↔ (decide (j < cb (mlP m) m.1) && anyN (fun v => m.2.2.2 k p v && decide (clsS (cm1 m) v = nth (mlP m) m.1 j)) 24) = true
  rw [Bool.and_eq_true, anyN_iff, anyN_iff, decide_eq_true_eq]
  constructor
  · rintro ⟨v, hv, h3⟩
    rw [Bool.and_eq_true, decide_eq_true_eq] at h3
    have h4 : v < m.1 := hw k p v (by rw [hb v]; exact h3.1)
    have h5 := ml_le (m := m) v
    have h6 := ml_cls (m := m) v
    refine ⟨by rw [← h3.2]; exact cb_lt (show clsS (cm1 m) v < m.1 by omega) h6, v, hv, ?_⟩
    rw [hb v, h3.1, Bool.true_and, ← h3.2, nth_cb (show clsS (cm1 m) v < m.1 by omega) h6]
    exact decide_eq_true rfl
  · rintro ⟨hj, v, hv, h3⟩
    rw [hb v, Bool.and_eq_true, decide_eq_true_eq] at h3
    refine ⟨v, hv, ?_⟩
    rw [h3.1, Bool.true_and, h3.2, (nth_in hj).2.2]
    exact decide_eq_true rfl)
theorem sh_up0 {f g : Nat → Int32} {k t : Nat} {x : Int32} (e : upd f (24 * k + t) x = g) : upd f (k * 24 + t) x = g := by rw [Nat.mul_comm k 24]; exact e
theorem pg_melt {fm' fr' ff' fp' : Nat → Int32} {m : AM} (h24 : m.1 ≤ 24) (h1 : cN fm' 0 = cb (mlP m) m.1) (h2 : cN fr' 0 = cb (mlP m) (clsS (cm1 m) m.2.1)) (h3 : PFx (mlP m) m.1 m.2.2.1 ff') (h4 : PRy (mlP m) m.1 m.1 0 (fun k p q => anyN (fun v => m.2.2.2 k p v && decide (clsS (cm1 m) v = q)) 24) fp') : pgs fm' fr' ff' fp' 0 = aMelt m := by
  rw [pgs_0]
  have hc := cb_le (mlP m) m.1
  unfold aMelt
  rw [h2]
  exact cmp_am h1 (by omega) h3 (fun k p a b c => h4 k p a b c (Or.inl b))
theorem rk_eq3 {c : CMl} {hp : Nat → Int32} {z u v : Nat} {x y : Int32} (h48 : c.1 ≤ 48) (h : RKx c c.1 c.1 (rowH hp z)) (hu : u < c.1) (hv : v < c.1) (ex : hp (48 * z + u) = x) (ey : hp (48 * z + v) = y) : x.toInt = y.toInt ↔ clsS c u = clsS c v := by
  have h1 := rk_eqv (n := c.1) h hu hv h48
  unfold rowH at h1
  rw [ex, ey] at h1
  exact ⟨fun q => h1.mp (Int32.toInt_inj.mp q), fun q => congrArg Int32.toInt (h1.mpr q)⟩
theorem dX12_classes_0 : decode cX12_classes 0 = .ok (.aload_n 0, 1) := dl_42 (by decide +kernel)
theorem dX12_classes_1 : decode cX12_classes 1 = .ok (.iconst 0, 1) := dl_3 (by decide +kernel)
theorem dX12_classes_2 : decode cX12_classes 2 = .ok (.bipush (-4), 2) := dl_16 (by decide +kernel)
theorem dX12_classes_4 : decode cX12_classes 4 = .ok (.invokevirtual 298, 3) := dl_182 (by decide +kernel)
theorem wl_X12_298 : Cond.methodLink RX12 298 yX12_layHeaps ∈ TB := tbm (tq6 (List.mem_of_getElem? (i := 209) (by decide +kernel))) (by decide +kernel)
theorem wc_X12_layHeaps : Cond.code yX12_layHeaps cX12_layHeaps 6 none ∈ TB := tbm (tq6 (List.mem_of_getElem? (i := 212) (rfl))) (by decide +kernel)
theorem wi_X12_layHeaps : Cond.instanceMethod yX12_layHeaps ∈ TB := tbm (tq6 (List.mem_of_getElem? (i := 211) (by decide +kernel))) (by decide +kernel)
theorem ws_X12_layHeaps : Cond.selects RX12 yX12_layHeaps yX12_layHeaps ∈ TB := tbm (tq0 (List.mem_of_getElem? (i := 68) (by decide +kernel))) (by decide +kernel)
theorem mi_X12_layHeaps : MI yX12_layHeaps cX12_layHeaps 6 none 2 := ⟨wc_X12_layHeaps, wn_X12, ⟨by decide +kernel, by decide +kernel, by decide +kernel⟩, wi_X12_layHeaps, ws_X12_layHeaps⟩
theorem dX12_classes_7 : decode cX12_classes 7 = .ok (.iconst 0, 1) := dl_3 (by decide +kernel)
theorem dX12_classes_8 : decode cX12_classes 8 = .ok (.istore_n 1, 1) := dl_60 (by decide +kernel)
theorem dX12_classes_9 : decode cX12_classes 9 = .ok (.iconst 0, 1) := dl_3 (by decide +kernel)
theorem dX12_classes_10 : decode cX12_classes 10 = .ok (.istore_n 2, 1) := dl_61 (by decide +kernel)
theorem dX12_classes_11 : decode cX12_classes 11 = .ok (.iload_n 2, 1) := dl_28 (by decide +kernel)
theorem dX12_classes_12 : decode cX12_classes 12 = .ok (.aload_n 0, 1) := dl_42 (by decide +kernel)
theorem dX12_classes_13 : decode cX12_classes 13 = .ok (.getfield 282, 3) := dl_180 (by decide +kernel)
theorem dX12_classes_16 : decode cX12_classes 16 = .ok (.if_icmp .ge 26, 3) := dl_162 (by decide +kernel)
theorem dX12_classes_42 : decode cX12_classes 42 = .ok (.iload_n 1, 1) := dl_27 (by decide +kernel)
theorem dX12_classes_43 : decode cX12_classes 43 = .ok (.ireturn, 1) := dl_172 (by decide +kernel)
theorem dX12_classes_19 : decode cX12_classes 19 = .ok (.iload_n 1, 1) := dl_27 (by decide +kernel)
theorem dX12_classes_20 : decode cX12_classes 20 = .ok (.aload_n 0, 1) := dl_42 (by decide +kernel)
theorem dX12_classes_21 : decode cX12_classes 21 = .ok (.iload_n 2, 1) := dl_28 (by decide +kernel)
theorem dX12_classes_22 : decode cX12_classes 22 = .ok (.invokevirtual 301, 3) := dl_182 (by decide +kernel)
theorem wl_X12_301 : Cond.methodLink RX12 301 yX12_heapOf ∈ TB := tbm (tq6 (List.mem_of_getElem? (i := 225) (by decide +kernel))) (by decide +kernel)
theorem wc_X12_heapOf : Cond.code yX12_heapOf cX12_heapOf 2 (some .int) ∈ TB := tbm (tq6 (List.mem_of_getElem? (i := 228) (rfl))) (by decide +kernel)
theorem wi_X12_heapOf : Cond.instanceMethod yX12_heapOf ∈ TB := tbm (tq6 (List.mem_of_getElem? (i := 227) (by decide +kernel))) (by decide +kernel)
theorem ws_X12_heapOf : Cond.selects RX12 yX12_heapOf yX12_heapOf ∈ TB := tbm (tq0 (List.mem_of_getElem? (i := 72) (by decide +kernel))) (by decide +kernel)
theorem mi_X12_heapOf : MI yX12_heapOf cX12_heapOf 2 (some .int) 1 := ⟨wc_X12_heapOf, wn_X12, ⟨by decide +kernel, by decide +kernel, by decide +kernel⟩, wi_X12_heapOf, ws_X12_heapOf⟩
theorem dX12_classes_25 : decode cX12_classes 25 = .ok (.iload_n 2, 1) := dl_28 (by decide +kernel)
theorem dX12_classes_26 : decode cX12_classes 26 = .ok (.if_icmp .ne 7, 3) := dl_160 (by decide +kernel)
theorem dX12_classes_33 : decode cX12_classes 33 = .ok (.iconst 0, 1) := dl_3 (by decide +kernel)
theorem dX12_classes_34 : decode cX12_classes 34 = .ok (.iadd, 1) := dl_96 (by decide +kernel)
theorem dX12_classes_35 : decode cX12_classes 35 = .ok (.istore_n 1, 1) := dl_60 (by decide +kernel)
theorem dX12_classes_36 : decode cX12_classes 36 = .ok (.iinc 2 1, 3) := dl_132 (by decide +kernel)
theorem dX12_classes_39 : decode cX12_classes 39 = .ok (.goto (-28), 3) := dl_167 (by decide +kernel)
theorem dX12_classes_29 : decode cX12_classes 29 = .ok (.iconst 1, 1) := dl_4 (by decide +kernel)
theorem dX12_classes_30 : decode cX12_classes 30 = .ok (.goto 4, 3) := dl_167 (by decide +kernel)
set_option maxRecDepth 100000 in
set_option maxHeartbeats 4000000 in
theorem y_classes (l : Launch) (E : EV) (ro : va_W) (hm : Nat) (m_manys : Nat) (m_reals : Nat) (m_factsOf : Nat) (m_possible : Nat) (q_undos : Nat) (q_models : Nat) (m_tape : Nat) (q_taped : Nat) (q_fault : Int32) (q_wrong : Int32) (q_wrongAt : Int32) (q_spot : Int32) (q_place : Int32) (q_token : Int32) (q_value : Int32) (m_ends : Nat) (m_letters : Nat) (m_actOf : Nat) (m_whom : Nat) (m_actMany : Nat) (m_tokens : Nat) (m_afters : Nat) (m_afterOf : Nat) (q_counted : Int32) (m_pile : Nat) (m_caseMany : Nat) (m_happen : Nat) (m_hasIf : Nat) (m_becomes : Nat) (m_goneOf : Nat) (m_heard : Nat) (m_pairs : Nat) (m_heaps : Nat) (q_rounds : Int32) (q_heapMany : Int32) (m_led : Nat) (m_newAt : Nat) (m_knowing : Nat) (m_firsts : Nat) (q_people : Nat) (m_secrets : Nat) (m_tried : Nat) (m_lanes : Nat) (m_lengths : Nat) (m_cells : Nat) (f_manys : Nat → Int32) (f_reals : Nat → Int32) (f_factsOf : Nat → Int32) (f_possible : Nat → Int32) (f_heaps : Nat → Int32) (f_led : Nat → Int64) (hb_manys : NB 18 24 f_manys) (hb_reals : NB 18 23 f_reals) (hpg : PG f_manys f_reals) (hwf : WFP (pgs f_manys f_reals f_factsOf f_possible)) : CT l yX12_classes (Cond.code yX12_classes cX12_classes 3 (some .int) :: TB) ({ frames := 3, cells := 0, slots := 0, locals := 78 }) E ro [.ref hm] [(hm, .inr (12, [.ref m_manys, .ref m_reals, .ref m_factsOf, .ref m_possible, .int (nI q_undos), .int (nI q_models), .ref m_tape, .int (nI q_taped), .int q_fault, .int q_wrong, .int q_wrongAt, .int q_spot, .int q_place, .int q_token, .int q_value, .ref m_ends, .ref m_letters, .ref m_actOf, .ref m_whom, .ref m_actMany, .ref m_tokens, .ref m_afters, .ref m_afterOf, .int q_counted, .ref m_pile, .ref m_caseMany, .ref m_happen, .ref m_hasIf, .ref m_becomes, .ref m_goneOf, .ref m_heard, .ref m_pairs, .ref m_heaps, .int q_rounds, .int q_heapMany, .ref m_led, .ref m_newAt, .ref m_knowing, .ref m_firsts, .int (nI q_people), .ref m_secrets, .ref m_tried, .ref m_lanes, .ref m_lengths, .ref m_cells])), (m_manys, .inl (E.2.1 1, 18, .inl f_manys)), (m_reals, .inl (E.2.1 1, 18, .inl f_reals)), (m_factsOf, .inl (E.2.1 1, 432, .inl f_factsOf)), (m_possible, .inl (E.2.1 1, 1728, .inl f_possible)), (m_heaps, .inl (E.2.1 1, 2400, .inl f_heaps)), (m_led, .inl (E.2.1 2, 192, .inr (.inl f_led)))] (Qi E (fun (rz : Int32) uz => (∃ (rz_ : Int32) (hmz : Int32) (f_heapsz : Nat → Int32) (f_ledz : Nat → Int64), uz = [(hm, .inr (12, [.ref m_manys, .ref m_reals, .ref m_factsOf, .ref m_possible, .int (nI q_undos), .int (nI q_models), .ref m_tape, .int (nI q_taped), .int q_fault, .int q_wrong, .int q_wrongAt, .int q_spot, .int q_place, .int q_token, .int q_value, .ref m_ends, .ref m_letters, .ref m_actOf, .ref m_whom, .ref m_actMany, .ref m_tokens, .ref m_afters, .ref m_afterOf, .int q_counted, .ref m_pile, .ref m_caseMany, .ref m_happen, .ref m_hasIf, .ref m_becomes, .ref m_goneOf, .ref m_heard, .ref m_pairs, .ref m_heaps, .int rz_, .int hmz, .ref m_led, .ref m_newAt, .ref m_knowing, .ref m_firsts, .int (nI q_people), .ref m_secrets, .ref m_tried, .ref m_lanes, .ref m_lengths, .ref m_cells])), (m_manys, .inl (E.2.1 1, 18, .inl f_manys)), (m_reals, .inl (E.2.1 1, 18, .inl f_reals)), (m_factsOf, .inl (E.2.1 1, 432, .inl f_factsOf)), (m_possible, .inl (E.2.1 1, 1728, .inl f_possible)), (m_heaps, .inl (E.2.1 1, 2400, .inl f_heapsz)), (m_led, .inl (E.2.1 2, 192, .inr (.inl f_ledz)))] ∧ (rz = ansClasses (pgs f_manys f_reals f_factsOf f_possible 0))))) 0 0 := by
  refine ct_of rfl rfl ?_
  intro X C hT hin hro
  show WW X 3 E 0 [(0, .ref hm)] [] [(hm, .inr (12, [.ref m_manys, .ref m_reals, .ref m_factsOf, .ref m_possible, .int (nI q_undos), .int (nI q_models), .ref m_tape, .int (nI q_taped), .int q_fault, .int q_wrong, .int q_wrongAt, .int q_spot, .int q_place, .int q_token, .int q_value, .ref m_ends, .ref m_letters, .ref m_actOf, .ref m_whom, .ref m_actMany, .ref m_tokens, .ref m_afters, .ref m_afterOf, .int q_counted, .ref m_pile, .ref m_caseMany, .ref m_happen, .ref m_hasIf, .ref m_becomes, .ref m_goneOf, .ref m_heard, .ref m_pairs, .ref m_heaps, .int q_rounds, .int q_heapMany, .ref m_led, .ref m_newAt, .ref m_knowing, .ref m_firsts, .int (nI q_people), .ref m_secrets, .ref m_tried, .ref m_lanes, .ref m_lengths, .ref m_cells])), (m_manys, .inl (E.2.1 1, 18, .inl f_manys)), (m_reals, .inl (E.2.1 1, 18, .inl f_reals)), (m_factsOf, .inl (E.2.1 1, 432, .inl f_factsOf)), (m_possible, .inl (E.2.1 1, 1728, .inl f_possible)), (m_heaps, .inl (E.2.1 1, 2400, .inl f_heaps)), (m_led, .inl (E.2.1 2, 192, .inr (.inl f_led)))] 0 0
  have hmn0 := (hb_manys 0 (by omega)).2
  refine ww_aload_n C dX12_classes_0 0 rfl rfl ?_
  refine ww_iconst (v := 0) C dX12_classes_1 rfl ?_
  refine ww_bipush (v := (-4)) C dX12_classes_2 rfl ?_
  refine ww_cv (wr := []) (k' := 0) (n' := 0) C (run_V (As := [.int 0, .int (-4)]) (rest := []) C (r_layHeapsN X.2.1 E ro hm m_manys m_reals m_factsOf m_possible q_undos q_models m_tape q_taped q_fault q_wrong q_wrongAt q_spot q_place q_token q_value m_ends m_letters m_actOf m_whom m_actMany m_tokens m_afters m_afterOf q_counted m_pile m_caseMany m_happen m_hasIf m_becomes m_goneOf m_heard m_pairs m_heaps q_rounds q_heapMany m_led m_newAt m_knowing m_firsts q_people m_secrets m_tried m_lanes m_lengths m_cells f_manys f_reals f_factsOf f_possible f_heaps f_led hb_manys hb_reals hpg hwf) mi_X12_layHeaps wl_X12_298 rfl 0 12 rfl rfl rfl rfl rfl dX12_classes_4) (roK hro) [0, 1, 2, 3, 4, 5, 6] [] rfl rfl (plk (by decide +kernel)) rfl (fun uz hw => ?_)
  refine ex4 hw ?_
  clear hw
  intro rz__2 hmz_3 f_heapsz_4 f_ledz_5 hw
  refine an5 hw ?_
  clear hw
  intro he_11 h_6 h_7 h_8 h_9 hw
  have h_10 := hw
  clear hw
  subst he_11
  refine ww_eq (ws' := [(hm, .inr (12, [.ref m_manys, .ref m_reals, .ref m_factsOf, .ref m_possible, .int (nI q_undos), .int (nI q_models), .ref m_tape, .int (nI q_taped), .int q_fault, .int q_wrong, .int q_wrongAt, .int q_spot, .int q_place, .int q_token, .int q_value, .ref m_ends, .ref m_letters, .ref m_actOf, .ref m_whom, .ref m_actMany, .ref m_tokens, .ref m_afters, .ref m_afterOf, .int q_counted, .ref m_pile, .ref m_caseMany, .ref m_happen, .ref m_hasIf, .ref m_becomes, .ref m_goneOf, .ref m_heard, .ref m_pairs, .ref m_heaps, .int (nI rz__2), .int (nI hmz_3), .ref m_led, .ref m_newAt, .ref m_knowing, .ref m_firsts, .int (nI q_people), .ref m_secrets, .ref m_tried, .ref m_lanes, .ref m_lengths, .ref m_cells])), (m_manys, .inl (E.2.1 1, 18, .inl f_manys)), (m_reals, .inl (E.2.1 1, 18, .inl f_reals)), (m_factsOf, .inl (E.2.1 1, 432, .inl f_factsOf)), (m_possible, .inl (E.2.1 1, 1728, .inl f_possible)), (m_heaps, .inl (E.2.1 1, 2400, .inl f_heapsz_4)), (m_led, .inl (E.2.1 2, 192, .inr (.inl f_ledz_5)))]) ?_ rfl rfl rfl
  refine ww_iconst (v := 0) C dX12_classes_7 rfl ?_
  refine ww_istore_n (lv' := [(1, .int 0), (0, .ref hm)]) C dX12_classes_8 rfl rfl rfl ?_
  refine ww_iconst (v := 0) C dX12_classes_9 rfl ?_
  refine ww_istore_n (lv' := [(2, .int 0), (1, .int 0), (0, .ref hm)]) C dX12_classes_10 rfl rfl rfl ?_
  have loop_11 : ∀ (fu : Nat) (i1 : Nat) (c1 : Nat), (i1 ≤ cN f_manys 0) → (c1 ≤ i1) → (c1 = cb (fun w => decide (rowH f_heapsz_4 rz__2 w = nI w)) i1) → cN f_manys 0 - i1 < fu → WW X 3 E 11 [(2, .int (nI i1)), (1, .int (nI c1)), (0, .ref hm)] [] [(hm, .inr (12, [.ref m_manys, .ref m_reals, .ref m_factsOf, .ref m_possible, .int (nI q_undos), .int (nI q_models), .ref m_tape, .int (nI q_taped), .int q_fault, .int q_wrong, .int q_wrongAt, .int q_spot, .int q_place, .int q_token, .int q_value, .ref m_ends, .ref m_letters, .ref m_actOf, .ref m_whom, .ref m_actMany, .ref m_tokens, .ref m_afters, .ref m_afterOf, .int q_counted, .ref m_pile, .ref m_caseMany, .ref m_happen, .ref m_hasIf, .ref m_becomes, .ref m_goneOf, .ref m_heard, .ref m_pairs, .ref m_heaps, .int (nI rz__2), .int (nI hmz_3), .ref m_led, .ref m_newAt, .ref m_knowing, .ref m_firsts, .int (nI q_people), .ref m_secrets, .ref m_tried, .ref m_lanes, .ref m_lengths, .ref m_cells])), (m_manys, .inl (E.2.1 1, 18, .inl f_manys)), (m_reals, .inl (E.2.1 1, 18, .inl f_reals)), (m_factsOf, .inl (E.2.1 1, 432, .inl f_factsOf)), (m_possible, .inl (E.2.1 1, 1728, .inl f_possible)), (m_heaps, .inl (E.2.1 1, 2400, .inl f_heapsz_4)), (m_led, .inl (E.2.1 2, 192, .inr (.inl f_ledz_5)))] 0 0 := by
    intro fu
    induction fu with
    | zero => intro i1 c1 hi1 hcb hc1 hmeas; exact absurd hmeas (Nat.not_lt_zero _)
    | succ fu ih_11 =>
      intro i1 c1 hi1 hcb hc1 hmeas
      refine ww_iload_n C dX12_classes_11 0 rfl rfl ?_
      refine ww_aload_n C dX12_classes_12 2 rfl rfl ?_
      refine ww_get C fg_X12_282 0 rfl rfl dX12_classes_13 ?_
      refine ww_icmp_ge (tgt := 42) C dX12_classes_16 (by decide) (fun c_12 => ?_) (fun c_12 => ?_)
      · have zc_12 : ((i1 : Nat) : Int) ≥ ((hmz_3 : Nat) : Int) := i_le (nI_toInt (n := hmz_3) (by omega)) (nI_toInt (n := i1) (by omega)) c_12
        refine ww_iload_n C dX12_classes_42 1 rfl rfl ?_
        exact ww_iret (u := [(hm, .inr (12, [.ref m_manys, .ref m_reals, .ref m_factsOf, .ref m_possible, .int (nI q_undos), .int (nI q_models), .ref m_tape, .int (nI q_taped), .int q_fault, .int q_wrong, .int q_wrongAt, .int q_spot, .int q_place, .int q_token, .int q_value, .ref m_ends, .ref m_letters, .ref m_actOf, .ref m_whom, .ref m_actMany, .ref m_tokens, .ref m_afters, .ref m_afterOf, .int q_counted, .ref m_pile, .ref m_caseMany, .ref m_happen, .ref m_hasIf, .ref m_becomes, .ref m_goneOf, .ref m_heard, .ref m_pairs, .ref m_heaps, .int (nI rz__2), .int (nI hmz_3), .ref m_led, .ref m_newAt, .ref m_knowing, .ref m_firsts, .int (nI q_people), .ref m_secrets, .ref m_tried, .ref m_lanes, .ref m_lengths, .ref m_cells])), (m_manys, .inl (E.2.1 1, 18, .inl f_manys)), (m_reals, .inl (E.2.1 1, 18, .inl f_reals)), (m_factsOf, .inl (E.2.1 1, 432, .inl f_factsOf)), (m_possible, .inl (E.2.1 1, 1728, .inl f_possible)), (m_heaps, .inl (E.2.1 1, 2400, .inl f_heapsz_4)), (m_led, .inl (E.2.1 2, 192, .inr (.inl f_ledz_5)))]) C hT [0, 1, 2, 3, 4, 5, 6] rfl rfl rfl rfl dX12_classes_43 (⟨(nI rz__2), (nI hmz_3), f_heapsz_4, f_ledz_5, rfl, (by rw [hc1, show i1 = cN f_manys 0 by omega]; exact congrArg nI (rk_mlp (m := (pgs f_manys f_reals f_factsOf f_possible 0)) (show cN f_manys 0 ≤ 48 by omega) (RST.end h_10 (cm1_wf (hwf 0 (by omega))) h_9)))⟩)
      · have zc_12 : ((i1 : Nat) : Int) < ((hmz_3 : Nat) : Int) := i_nle (nI_toInt (n := hmz_3) (by omega)) (nI_toInt (n := i1) (by omega)) c_12
        refine ww_iload_n C dX12_classes_19 1 rfl rfl ?_
        refine ww_aload_n C dX12_classes_20 2 rfl rfl ?_
        refine ww_iload_n C dX12_classes_21 0 rfl rfl ?_
        refine ww_ci (wr := [(m_manys, .inl (E.2.1 1, 18, .inl f_manys)), (m_reals, .inl (E.2.1 1, 18, .inl f_reals)), (m_factsOf, .inl (E.2.1 1, 432, .inl f_factsOf)), (m_possible, .inl (E.2.1 1, 1728, .inl f_possible)), (m_led, .inl (E.2.1 2, 192, .inr (.inl f_ledz_5)))]) (k' := 0) (n' := 0) C (run_V (As := [.int (nI i1)]) (rest := [.int (nI c1)]) C (r_heapOf X.2.1 E ro hm i1 m_manys m_reals m_factsOf m_possible q_undos q_models m_tape q_taped q_fault q_wrong q_wrongAt q_spot q_place q_token q_value m_ends m_letters m_actOf m_whom m_actMany m_tokens m_afters m_afterOf q_counted m_pile m_caseMany m_happen m_hasIf m_becomes m_goneOf m_heard m_pairs m_heaps rz__2 (nI hmz_3) m_led m_newAt m_knowing m_firsts q_people m_secrets m_tried m_lanes m_lengths m_cells f_heapsz_4 (by omega) (by omega)) mi_X12_heapOf wl_X12_301 rfl 0 12 rfl rfl rfl rfl rfl dX12_classes_22) (roK hro) [0, 5] [1, 2, 3, 4, 6] rfl rfl rfl rfl (fun r_13 uz hw => ?_)
        refine an1 hw ?_
        clear hw
        intro he_14 hw
        have he_15 := hw
        clear hw
        have he_14 := he_14.symm
        subst he_14
        subst he_15
        refine ww_eq (ws' := [(m_manys, .inl (E.2.1 1, 18, .inl f_manys)), (m_reals, .inl (E.2.1 1, 18, .inl f_reals)), (m_factsOf, .inl (E.2.1 1, 432, .inl f_factsOf)), (m_possible, .inl (E.2.1 1, 1728, .inl f_possible)), (m_led, .inl (E.2.1 2, 192, .inr (.inl f_ledz_5))), (hm, .inr (12, [.ref m_manys, .ref m_reals, .ref m_factsOf, .ref m_possible, .int (nI q_undos), .int (nI q_models), .ref m_tape, .int (nI q_taped), .int q_fault, .int q_wrong, .int q_wrongAt, .int q_spot, .int q_place, .int q_token, .int q_value, .ref m_ends, .ref m_letters, .ref m_actOf, .ref m_whom, .ref m_actMany, .ref m_tokens, .ref m_afters, .ref m_afterOf, .int q_counted, .ref m_pile, .ref m_caseMany, .ref m_happen, .ref m_hasIf, .ref m_becomes, .ref m_goneOf, .ref m_heard, .ref m_pairs, .ref m_heaps, .int (nI rz__2), .int (nI hmz_3), .ref m_led, .ref m_newAt, .ref m_knowing, .ref m_firsts, .int (nI q_people), .ref m_secrets, .ref m_tried, .ref m_lanes, .ref m_lengths, .ref m_cells])), (m_heaps, .inl (E.2.1 1, 2400, .inl f_heapsz_4))]) ?_ rfl rfl rfl
        refine ww_iload_n C dX12_classes_25 0 rfl rfl ?_
        refine ww_icmp_ne (tgt := 33) C dX12_classes_26 (by decide) (fun c_16 => ?_) (fun c_16 => ?_)
        · have zc_16 : (f_heapsz_4 (48 * rz__2 + i1)).toInt ≠ ((i1 : Nat) : Int) := i_ne rfl (nI_toInt (n := i1) (by omega)) c_16
          refine ww_iconst (v := 0) C dX12_classes_33 rfl ?_
          refine ww_iadd (v := (nI c1)) C dX12_classes_34 (nI_add c1 0) ?_
          refine ww_istore_n (lv' := [(1, .int (nI c1)), (2, .int (nI i1)), (0, .ref hm)]) C dX12_classes_35 rfl rfl rfl ?_
          refine ww_iinc (j := 1) (v := (nI (i1 + 1))) (lv' := [(2, .int (nI (i1 + 1))), (1, .int (nI c1)), (0, .ref hm)]) C dX12_classes_36 rfl (nI_add i1 1) rfl rfl ?_
          refine ww_goto (tgt := 11) C dX12_classes_39 (by decide) ?_
          exact ww_lv [0, 1, 2] rfl (ww_sub [5, 0, 1, 2, 3, 6, 4] rfl rfl (ih_11 (i1 + 1) c1 (by omega) (by omega) (by rw [cb_f (show decide (rowH f_heapsz_4 rz__2 i1 = nI i1) = false from decide_eq_false (fun h9 => by have h8 := congrArg Int32.toInt h9; rw [nI_toInt (by omega)] at h8; exact absurd h8 (by assumption))), ← hc1]) (by omega)))
        · have zc_16 : (f_heapsz_4 (48 * rz__2 + i1)).toInt = ((i1 : Nat) : Int) := i_eq rfl (nI_toInt (n := i1) (by omega)) c_16
          refine ww_iconst (v := 1) C dX12_classes_29 rfl ?_
          refine ww_goto (tgt := 34) C dX12_classes_30 (by decide) ?_
          refine ww_iadd (v := (nI (c1 + 1))) C dX12_classes_34 (nI_add c1 1) ?_
          refine ww_istore_n (lv' := [(1, .int (nI (c1 + 1))), (2, .int (nI i1)), (0, .ref hm)]) C dX12_classes_35 rfl rfl rfl ?_
          refine ww_iinc (j := 1) (v := (nI (i1 + 1))) (lv' := [(2, .int (nI (i1 + 1))), (1, .int (nI (c1 + 1))), (0, .ref hm)]) C dX12_classes_36 rfl (nI_add i1 1) rfl rfl ?_
          refine ww_goto (tgt := 11) C dX12_classes_39 (by decide) ?_
          exact ww_lv [0, 1, 2] rfl (ww_sub [5, 0, 1, 2, 3, 6, 4] rfl rfl (ih_11 (i1 + 1) (c1 + 1) (by omega) (by omega) (by rw [cb_t (show decide (rowH f_heapsz_4 rz__2 i1 = nI i1) = true from decide_eq_true (Int32.toInt_inj.mp (by rw [nI_toInt (by omega)]; assumption))), ← hc1]) (by omega)))
  exact ww_lv [0, 1, 2] rfl (ww_sub [0, 1, 2, 3, 4, 5, 6] rfl rfl (loop_11 _ 0 0 (by omega) (by omega) rfl (Nat.lt_succ_self _)))
theorem dX12_classOf_0 : decode cX12_classOf 0 = .ok (.aload_n 0, 1) := dl_42 (by decide +kernel)
theorem dX12_classOf_1 : decode cX12_classOf 1 = .ok (.iload_n 1, 1) := dl_27 (by decide +kernel)
theorem dX12_classOf_2 : decode cX12_classOf 2 = .ok (.invokevirtual 132, 3) := dl_182 (by decide +kernel)
theorem dX12_classOf_5 : decode cX12_classOf 5 = .ok (.ifCond .ne 5, 3) := dl_154 (by decide +kernel)
theorem dX12_classOf_10 : decode cX12_classOf 10 = .ok (.aload_n 0, 1) := dl_42 (by decide +kernel)
theorem dX12_classOf_11 : decode cX12_classOf 11 = .ok (.iconst 0, 1) := dl_3 (by decide +kernel)
theorem dX12_classOf_12 : decode cX12_classOf 12 = .ok (.bipush (-4), 2) := dl_16 (by decide +kernel)
theorem dX12_classOf_14 : decode cX12_classOf 14 = .ok (.invokevirtual 298, 3) := dl_182 (by decide +kernel)
theorem dX12_classOf_17 : decode cX12_classOf 17 = .ok (.aload_n 0, 1) := dl_42 (by decide +kernel)
theorem dX12_classOf_18 : decode cX12_classOf 18 = .ok (.iload_n 1, 1) := dl_27 (by decide +kernel)
theorem dX12_classOf_19 : decode cX12_classOf 19 = .ok (.invokevirtual 301, 3) := dl_182 (by decide +kernel)
theorem dX12_classOf_22 : decode cX12_classOf 22 = .ok (.ireturn, 1) := dl_172 (by decide +kernel)
theorem dX12_classOf_8 : decode cX12_classOf 8 = .ok (.iconst (-1), 1) := dl_2 (by decide +kernel)
theorem dX12_classOf_9 : decode cX12_classOf 9 = .ok (.ireturn, 1) := dl_172 (by decide +kernel)
set_option maxRecDepth 100000 in
set_option maxHeartbeats 4000000 in
theorem y_classOf (l : Launch) (E : EV) (ro : va_W) (hm : Nat) (v0 : Int32) (m_manys : Nat) (m_reals : Nat) (m_factsOf : Nat) (m_possible : Nat) (q_undos : Nat) (q_models : Nat) (m_tape : Nat) (q_taped : Nat) (q_fault : Int32) (q_wrong : Int32) (q_wrongAt : Int32) (q_spot : Int32) (q_place : Int32) (q_token : Int32) (q_value : Int32) (m_ends : Nat) (m_letters : Nat) (m_actOf : Nat) (m_whom : Nat) (m_actMany : Nat) (m_tokens : Nat) (m_afters : Nat) (m_afterOf : Nat) (q_counted : Int32) (m_pile : Nat) (m_caseMany : Nat) (m_happen : Nat) (m_hasIf : Nat) (m_becomes : Nat) (m_goneOf : Nat) (m_heard : Nat) (m_pairs : Nat) (m_heaps : Nat) (q_rounds : Int32) (q_heapMany : Int32) (m_led : Nat) (m_newAt : Nat) (m_knowing : Nat) (m_firsts : Nat) (q_people : Nat) (m_secrets : Nat) (m_tried : Nat) (m_lanes : Nat) (m_lengths : Nat) (m_cells : Nat) (f_manys : Nat → Int32) (f_reals : Nat → Int32) (f_factsOf : Nat → Int32) (f_possible : Nat → Int32) (f_heaps : Nat → Int32) (f_led : Nat → Int64) (hb_manys : NB 18 24 f_manys) (hb_reals : NB 18 23 f_reals) (hpg : PG f_manys f_reals) (hwf : WFP (pgs f_manys f_reals f_factsOf f_possible)) : CT l yX12_classOf (Cond.code yX12_classOf cX12_classOf 2 (some .int) :: TB) ({ frames := 3, cells := 0, slots := 0, locals := 78 }) E ro [.ref hm, .int v0] [(hm, .inr (12, [.ref m_manys, .ref m_reals, .ref m_factsOf, .ref m_possible, .int (nI q_undos), .int (nI q_models), .ref m_tape, .int (nI q_taped), .int q_fault, .int q_wrong, .int q_wrongAt, .int q_spot, .int q_place, .int q_token, .int q_value, .ref m_ends, .ref m_letters, .ref m_actOf, .ref m_whom, .ref m_actMany, .ref m_tokens, .ref m_afters, .ref m_afterOf, .int q_counted, .ref m_pile, .ref m_caseMany, .ref m_happen, .ref m_hasIf, .ref m_becomes, .ref m_goneOf, .ref m_heard, .ref m_pairs, .ref m_heaps, .int q_rounds, .int q_heapMany, .ref m_led, .ref m_newAt, .ref m_knowing, .ref m_firsts, .int (nI q_people), .ref m_secrets, .ref m_tried, .ref m_lanes, .ref m_lengths, .ref m_cells])), (m_manys, .inl (E.2.1 1, 18, .inl f_manys)), (m_reals, .inl (E.2.1 1, 18, .inl f_reals)), (m_factsOf, .inl (E.2.1 1, 432, .inl f_factsOf)), (m_possible, .inl (E.2.1 1, 1728, .inl f_possible)), (m_heaps, .inl (E.2.1 1, 2400, .inl f_heaps)), (m_led, .inl (E.2.1 2, 192, .inr (.inl f_led)))] (Qi E (fun (rz : Int32) uz => (∃ (rz_ : Int32) (hmz : Int32) (f_heapsz : Nat → Int32) (f_ledz : Nat → Int64), uz = [(hm, .inr (12, [.ref m_manys, .ref m_reals, .ref m_factsOf, .ref m_possible, .int (nI q_undos), .int (nI q_models), .ref m_tape, .int (nI q_taped), .int q_fault, .int q_wrong, .int q_wrongAt, .int q_spot, .int q_place, .int q_token, .int q_value, .ref m_ends, .ref m_letters, .ref m_actOf, .ref m_whom, .ref m_actMany, .ref m_tokens, .ref m_afters, .ref m_afterOf, .int q_counted, .ref m_pile, .ref m_caseMany, .ref m_happen, .ref m_hasIf, .ref m_becomes, .ref m_goneOf, .ref m_heard, .ref m_pairs, .ref m_heaps, .int rz_, .int hmz, .ref m_led, .ref m_newAt, .ref m_knowing, .ref m_firsts, .int (nI q_people), .ref m_secrets, .ref m_tried, .ref m_lanes, .ref m_lengths, .ref m_cells])), (m_manys, .inl (E.2.1 1, 18, .inl f_manys)), (m_reals, .inl (E.2.1 1, 18, .inl f_reals)), (m_factsOf, .inl (E.2.1 1, 432, .inl f_factsOf)), (m_possible, .inl (E.2.1 1, 1728, .inl f_possible)), (m_heaps, .inl (E.2.1 1, 2400, .inl f_heapsz)), (m_led, .inl (E.2.1 2, 192, .inr (.inl f_ledz)))] ∧ (rz = ansClassOf (pgs f_manys f_reals f_factsOf f_possible 0) v0)))) 0 0 := by
  refine ct_of rfl rfl ?_
  intro X C hT hin hro
  show WW X 2 E 0 [(0, .ref hm), (1, .int v0)] [] [(hm, .inr (12, [.ref m_manys, .ref m_reals, .ref m_factsOf, .ref m_possible, .int (nI q_undos), .int (nI q_models), .ref m_tape, .int (nI q_taped), .int q_fault, .int q_wrong, .int q_wrongAt, .int q_spot, .int q_place, .int q_token, .int q_value, .ref m_ends, .ref m_letters, .ref m_actOf, .ref m_whom, .ref m_actMany, .ref m_tokens, .ref m_afters, .ref m_afterOf, .int q_counted, .ref m_pile, .ref m_caseMany, .ref m_happen, .ref m_hasIf, .ref m_becomes, .ref m_goneOf, .ref m_heard, .ref m_pairs, .ref m_heaps, .int q_rounds, .int q_heapMany, .ref m_led, .ref m_newAt, .ref m_knowing, .ref m_firsts, .int (nI q_people), .ref m_secrets, .ref m_tried, .ref m_lanes, .ref m_lengths, .ref m_cells])), (m_manys, .inl (E.2.1 1, 18, .inl f_manys)), (m_reals, .inl (E.2.1 1, 18, .inl f_reals)), (m_factsOf, .inl (E.2.1 1, 432, .inl f_factsOf)), (m_possible, .inl (E.2.1 1, 1728, .inl f_possible)), (m_heaps, .inl (E.2.1 1, 2400, .inl f_heaps)), (m_led, .inl (E.2.1 2, 192, .inr (.inl f_led)))] 0 0
  have hmn0 := (hb_manys 0 (by omega)).2
  refine ww_aload_n C dX12_classOf_0 0 rfl rfl ?_
  refine ww_iload_n C dX12_classOf_1 1 rfl rfl ?_
  refine ww_ci (wr := [(m_reals, .inl (E.2.1 1, 18, .inl f_reals)), (m_factsOf, .inl (E.2.1 1, 432, .inl f_factsOf)), (m_possible, .inl (E.2.1 1, 1728, .inl f_possible)), (m_heaps, .inl (E.2.1 1, 2400, .inl f_heaps)), (m_led, .inl (E.2.1 2, 192, .inr (.inl f_led)))]) (k' := 0) (n' := 0) C (run_V (As := [.int v0]) (rest := []) C (r_isWorld X.2.1 E ro hm v0 m_manys m_reals m_factsOf m_possible q_undos q_models m_tape q_taped q_fault q_wrong q_wrongAt q_spot q_place q_token q_value m_ends m_letters m_actOf m_whom m_actMany m_tokens m_afters m_afterOf q_counted m_pile m_caseMany m_happen m_hasIf m_becomes m_goneOf m_heard m_pairs m_heaps q_rounds q_heapMany m_led m_newAt m_knowing m_firsts q_people m_secrets m_tried m_lanes m_lengths m_cells f_manys hb_manys) mi_X12_isWorld wl_X12_132 rfl 0 12 rfl rfl rfl rfl rfl dX12_classOf_2) (roK hro) [0, 1] [2, 3, 4, 5, 6] rfl rfl rfl rfl (fun r_1 uz hw => ?_)
  rcases hw with hw | hw
  · refine an3 hw ?_
    clear hw
    intro he_4 he_5 h_2 hw
    have h_3 := hw
    clear hw
    have he_4 := he_4.symm
    subst he_4
    subst he_5
    refine ww_eq (ws' := [(m_reals, .inl (E.2.1 1, 18, .inl f_reals)), (m_factsOf, .inl (E.2.1 1, 432, .inl f_factsOf)), (m_possible, .inl (E.2.1 1, 1728, .inl f_possible)), (m_heaps, .inl (E.2.1 1, 2400, .inl f_heaps)), (m_led, .inl (E.2.1 2, 192, .inr (.inl f_led))), (hm, .inr (12, [.ref m_manys, .ref m_reals, .ref m_factsOf, .ref m_possible, .int (nI q_undos), .int (nI q_models), .ref m_tape, .int (nI q_taped), .int q_fault, .int q_wrong, .int q_wrongAt, .int q_spot, .int q_place, .int q_token, .int q_value, .ref m_ends, .ref m_letters, .ref m_actOf, .ref m_whom, .ref m_actMany, .ref m_tokens, .ref m_afters, .ref m_afterOf, .int q_counted, .ref m_pile, .ref m_caseMany, .ref m_happen, .ref m_hasIf, .ref m_becomes, .ref m_goneOf, .ref m_heard, .ref m_pairs, .ref m_heaps, .int q_rounds, .int q_heapMany, .ref m_led, .ref m_newAt, .ref m_knowing, .ref m_firsts, .int (nI q_people), .ref m_secrets, .ref m_tried, .ref m_lanes, .ref m_lengths, .ref m_cells])), (m_manys, .inl (E.2.1 1, 18, .inl f_manys))]) ?_ rfl rfl rfl
    refine ww_if_ne_t (tgt := 10) C dX12_classOf_5 (by decide) (by decide) ?_
    obtain ⟨j_9, hj_9, rfl⟩ := i_nat (x := v0) (N := 24) (by omega) (by omega)
    have hzj_9 := nI_toInt (n := j_9) (by omega)
    refine ww_aload_n C dX12_classOf_10 0 rfl rfl ?_
    refine ww_iconst (v := 0) C dX12_classOf_11 rfl ?_
    refine ww_bipush (v := (-4)) C dX12_classOf_12 rfl ?_
    refine ww_cv (wr := []) (k' := 0) (n' := 0) C (run_V (As := [.int 0, .int (-4)]) (rest := []) C (r_layHeapsN X.2.1 E ro hm m_manys m_reals m_factsOf m_possible q_undos q_models m_tape q_taped q_fault q_wrong q_wrongAt q_spot q_place q_token q_value m_ends m_letters m_actOf m_whom m_actMany m_tokens m_afters m_afterOf q_counted m_pile m_caseMany m_happen m_hasIf m_becomes m_goneOf m_heard m_pairs m_heaps q_rounds q_heapMany m_led m_newAt m_knowing m_firsts q_people m_secrets m_tried m_lanes m_lengths m_cells f_manys f_reals f_factsOf f_possible f_heaps f_led hb_manys hb_reals hpg hwf) mi_X12_layHeaps wl_X12_298 rfl 0 12 rfl rfl rfl rfl rfl dX12_classOf_14) (roK hro) [5, 6, 0, 1, 2, 3, 4] [] rfl rfl (plk (by decide +kernel)) rfl (fun uz hw => ?_)
    refine ex4 hw ?_
    clear hw
    intro rz__11 hmz_12 f_heapsz_13 f_ledz_14 hw
    refine an5 hw ?_
    clear hw
    intro he_20 h_15 h_16 h_17 h_18 hw
    have h_19 := hw
    clear hw
    subst he_20
    refine ww_eq (ws' := [(hm, .inr (12, [.ref m_manys, .ref m_reals, .ref m_factsOf, .ref m_possible, .int (nI q_undos), .int (nI q_models), .ref m_tape, .int (nI q_taped), .int q_fault, .int q_wrong, .int q_wrongAt, .int q_spot, .int q_place, .int q_token, .int q_value, .ref m_ends, .ref m_letters, .ref m_actOf, .ref m_whom, .ref m_actMany, .ref m_tokens, .ref m_afters, .ref m_afterOf, .int q_counted, .ref m_pile, .ref m_caseMany, .ref m_happen, .ref m_hasIf, .ref m_becomes, .ref m_goneOf, .ref m_heard, .ref m_pairs, .ref m_heaps, .int (nI rz__11), .int (nI hmz_12), .ref m_led, .ref m_newAt, .ref m_knowing, .ref m_firsts, .int (nI q_people), .ref m_secrets, .ref m_tried, .ref m_lanes, .ref m_lengths, .ref m_cells])), (m_manys, .inl (E.2.1 1, 18, .inl f_manys)), (m_reals, .inl (E.2.1 1, 18, .inl f_reals)), (m_factsOf, .inl (E.2.1 1, 432, .inl f_factsOf)), (m_possible, .inl (E.2.1 1, 1728, .inl f_possible)), (m_heaps, .inl (E.2.1 1, 2400, .inl f_heapsz_13)), (m_led, .inl (E.2.1 2, 192, .inr (.inl f_ledz_14)))]) ?_ rfl rfl rfl
    refine ww_aload_n C dX12_classOf_17 0 rfl rfl ?_
    refine ww_iload_n C dX12_classOf_18 1 rfl rfl ?_
    refine ww_ci (wr := [(m_manys, .inl (E.2.1 1, 18, .inl f_manys)), (m_reals, .inl (E.2.1 1, 18, .inl f_reals)), (m_factsOf, .inl (E.2.1 1, 432, .inl f_factsOf)), (m_possible, .inl (E.2.1 1, 1728, .inl f_possible)), (m_led, .inl (E.2.1 2, 192, .inr (.inl f_ledz_14)))]) (k' := 0) (n' := 0) C (run_V (As := [.int (nI j_9)]) (rest := []) C (r_heapOf X.2.1 E ro hm j_9 m_manys m_reals m_factsOf m_possible q_undos q_models m_tape q_taped q_fault q_wrong q_wrongAt q_spot q_place q_token q_value m_ends m_letters m_actOf m_whom m_actMany m_tokens m_afters m_afterOf q_counted m_pile m_caseMany m_happen m_hasIf m_becomes m_goneOf m_heard m_pairs m_heaps rz__11 (nI hmz_12) m_led m_newAt m_knowing m_firsts q_people m_secrets m_tried m_lanes m_lengths m_cells f_heapsz_13 (by omega) (by omega)) mi_X12_heapOf wl_X12_301 rfl 0 12 rfl rfl rfl rfl rfl dX12_classOf_19) (roK hro) [0, 5] [1, 2, 3, 4, 6] rfl rfl rfl rfl (fun r_21 uz hw => ?_)
    refine an1 hw ?_
    clear hw
    intro he_22 hw
    have he_23 := hw
    clear hw
    have he_22 := he_22.symm
    subst he_22
    subst he_23
    refine ww_eq (ws' := [(m_manys, .inl (E.2.1 1, 18, .inl f_manys)), (m_reals, .inl (E.2.1 1, 18, .inl f_reals)), (m_factsOf, .inl (E.2.1 1, 432, .inl f_factsOf)), (m_possible, .inl (E.2.1 1, 1728, .inl f_possible)), (m_led, .inl (E.2.1 2, 192, .inr (.inl f_ledz_14))), (hm, .inr (12, [.ref m_manys, .ref m_reals, .ref m_factsOf, .ref m_possible, .int (nI q_undos), .int (nI q_models), .ref m_tape, .int (nI q_taped), .int q_fault, .int q_wrong, .int q_wrongAt, .int q_spot, .int q_place, .int q_token, .int q_value, .ref m_ends, .ref m_letters, .ref m_actOf, .ref m_whom, .ref m_actMany, .ref m_tokens, .ref m_afters, .ref m_afterOf, .int q_counted, .ref m_pile, .ref m_caseMany, .ref m_happen, .ref m_hasIf, .ref m_becomes, .ref m_goneOf, .ref m_heard, .ref m_pairs, .ref m_heaps, .int (nI rz__11), .int (nI hmz_12), .ref m_led, .ref m_newAt, .ref m_knowing, .ref m_firsts, .int (nI q_people), .ref m_secrets, .ref m_tried, .ref m_lanes, .ref m_lengths, .ref m_cells])), (m_heaps, .inl (E.2.1 1, 2400, .inl f_heapsz_13))]) ?_ rfl rfl rfl
    exact ww_iret (u := [(hm, .inr (12, [.ref m_manys, .ref m_reals, .ref m_factsOf, .ref m_possible, .int (nI q_undos), .int (nI q_models), .ref m_tape, .int (nI q_taped), .int q_fault, .int q_wrong, .int q_wrongAt, .int q_spot, .int q_place, .int q_token, .int q_value, .ref m_ends, .ref m_letters, .ref m_actOf, .ref m_whom, .ref m_actMany, .ref m_tokens, .ref m_afters, .ref m_afterOf, .int q_counted, .ref m_pile, .ref m_caseMany, .ref m_happen, .ref m_hasIf, .ref m_becomes, .ref m_goneOf, .ref m_heard, .ref m_pairs, .ref m_heaps, .int (nI rz__11), .int (nI hmz_12), .ref m_led, .ref m_newAt, .ref m_knowing, .ref m_firsts, .int (nI q_people), .ref m_secrets, .ref m_tried, .ref m_lanes, .ref m_lengths, .ref m_cells])), (m_manys, .inl (E.2.1 1, 18, .inl f_manys)), (m_reals, .inl (E.2.1 1, 18, .inl f_reals)), (m_factsOf, .inl (E.2.1 1, 432, .inl f_factsOf)), (m_possible, .inl (E.2.1 1, 1728, .inl f_possible)), (m_heaps, .inl (E.2.1 1, 2400, .inl f_heapsz_13)), (m_led, .inl (E.2.1 2, 192, .inr (.inl f_ledz_14)))]) C hT [5, 0, 1, 2, 3, 6, 4] rfl rfl rfl rfl dX12_classOf_22 (⟨(nI rz__11), (nI hmz_12), f_heapsz_13, f_ledz_14, rfl, (by show _ = if (nI j_9).toInt < 0 ∨ ((cN f_manys 0) : Int) ≤ (nI j_9).toInt then -1 else nI (clsS (cm1 (pgs f_manys f_reals f_factsOf f_possible 0)) (tN (nI j_9))); rw [if_neg (show ¬ ((nI j_9).toInt < 0 ∨ ((cN f_manys 0) : Int) ≤ (nI j_9).toInt) by omega)]; exact (by rw [tN_n (n := j_9) (by omega)]; exact (RST.end h_19 (cm1_wf (hwf 0 (by omega))) h_18) j_9 (by show j_9 < cN f_manys 0; omega)))⟩)
  · refine an2 hw ?_
    clear hw
    intro he_7 he_8 hw
    have h_6 := hw
    clear hw
    have he_7 := he_7.symm
    subst he_7
    subst he_8
    refine ww_eq (ws' := [(m_reals, .inl (E.2.1 1, 18, .inl f_reals)), (m_factsOf, .inl (E.2.1 1, 432, .inl f_factsOf)), (m_possible, .inl (E.2.1 1, 1728, .inl f_possible)), (m_heaps, .inl (E.2.1 1, 2400, .inl f_heaps)), (m_led, .inl (E.2.1 2, 192, .inr (.inl f_led))), (hm, .inr (12, [.ref m_manys, .ref m_reals, .ref m_factsOf, .ref m_possible, .int (nI q_undos), .int (nI q_models), .ref m_tape, .int (nI q_taped), .int q_fault, .int q_wrong, .int q_wrongAt, .int q_spot, .int q_place, .int q_token, .int q_value, .ref m_ends, .ref m_letters, .ref m_actOf, .ref m_whom, .ref m_actMany, .ref m_tokens, .ref m_afters, .ref m_afterOf, .int q_counted, .ref m_pile, .ref m_caseMany, .ref m_happen, .ref m_hasIf, .ref m_becomes, .ref m_goneOf, .ref m_heard, .ref m_pairs, .ref m_heaps, .int q_rounds, .int q_heapMany, .ref m_led, .ref m_newAt, .ref m_knowing, .ref m_firsts, .int (nI q_people), .ref m_secrets, .ref m_tried, .ref m_lanes, .ref m_lengths, .ref m_cells])), (m_manys, .inl (E.2.1 1, 18, .inl f_manys))]) ?_ rfl rfl rfl
    refine ww_if_ne_f (tgt := 10) C dX12_classOf_5 (by decide) (rfl) ?_
    refine ww_iconst (v := (-1)) C dX12_classOf_8 rfl ?_
    exact ww_iret (u := [(hm, .inr (12, [.ref m_manys, .ref m_reals, .ref m_factsOf, .ref m_possible, .int (nI q_undos), .int (nI q_models), .ref m_tape, .int (nI q_taped), .int q_fault, .int q_wrong, .int q_wrongAt, .int q_spot, .int q_place, .int q_token, .int q_value, .ref m_ends, .ref m_letters, .ref m_actOf, .ref m_whom, .ref m_actMany, .ref m_tokens, .ref m_afters, .ref m_afterOf, .int q_counted, .ref m_pile, .ref m_caseMany, .ref m_happen, .ref m_hasIf, .ref m_becomes, .ref m_goneOf, .ref m_heard, .ref m_pairs, .ref m_heaps, .int q_rounds, .int q_heapMany, .ref m_led, .ref m_newAt, .ref m_knowing, .ref m_firsts, .int (nI q_people), .ref m_secrets, .ref m_tried, .ref m_lanes, .ref m_lengths, .ref m_cells])), (m_manys, .inl (E.2.1 1, 18, .inl f_manys)), (m_reals, .inl (E.2.1 1, 18, .inl f_reals)), (m_factsOf, .inl (E.2.1 1, 432, .inl f_factsOf)), (m_possible, .inl (E.2.1 1, 1728, .inl f_possible)), (m_heaps, .inl (E.2.1 1, 2400, .inl f_heaps)), (m_led, .inl (E.2.1 2, 192, .inr (.inl f_led)))]) C hT [5, 6, 0, 1, 2, 3, 4] rfl rfl rfl rfl dX12_classOf_9 (⟨q_rounds, q_heapMany, f_heaps, f_led, rfl, (by show _ = if v0.toInt < 0 ∨ ((cN f_manys 0) : Int) ≤ v0.toInt then -1 else nI (clsS (cm1 (pgs f_manys f_reals f_factsOf f_possible 0)) (tN v0)); rw [if_pos (show v0.toInt < 0 ∨ ((cN f_manys 0) : Int) ≤ v0.toInt by omega)])⟩)
theorem dX12_depth_0 : decode cX12_depth 0 = .ok (.aload_n 0, 1) := dl_42 (by decide +kernel)
theorem dX12_depth_1 : decode cX12_depth 1 = .ok (.iload_n 1, 1) := dl_27 (by decide +kernel)
theorem dX12_depth_2 : decode cX12_depth 2 = .ok (.invokevirtual 132, 3) := dl_182 (by decide +kernel)
theorem dX12_depth_5 : decode cX12_depth 5 = .ok (.ifCond .eq 11, 3) := dl_153 (by decide +kernel)
theorem dX12_depth_8 : decode cX12_depth 8 = .ok (.aload_n 0, 1) := dl_42 (by decide +kernel)
theorem dX12_depth_9 : decode cX12_depth 9 = .ok (.iload_n 2, 1) := dl_28 (by decide +kernel)
theorem dX12_depth_10 : decode cX12_depth 10 = .ok (.invokevirtual 132, 3) := dl_182 (by decide +kernel)
theorem dX12_depth_13 : decode cX12_depth 13 = .ok (.ifCond .ne 5, 3) := dl_154 (by decide +kernel)
theorem dX12_depth_18 : decode cX12_depth 18 = .ok (.aload_n 0, 1) := dl_42 (by decide +kernel)
theorem dX12_depth_19 : decode cX12_depth 19 = .ok (.iconst 0, 1) := dl_3 (by decide +kernel)
theorem dX12_depth_20 : decode cX12_depth 20 = .ok (.bipush (-4), 2) := dl_16 (by decide +kernel)
theorem dX12_depth_22 : decode cX12_depth 22 = .ok (.invokevirtual 298, 3) := dl_182 (by decide +kernel)
theorem dX12_depth_25 : decode cX12_depth 25 = .ok (.iconst 0, 1) := dl_3 (by decide +kernel)
theorem dX12_depth_26 : decode cX12_depth 26 = .ok (.istore_n 3, 1) := dl_62 (by decide +kernel)
theorem dX12_depth_27 : decode cX12_depth 27 = .ok (.iload_n 3, 1) := dl_29 (by decide +kernel)
theorem dX12_depth_28 : decode cX12_depth 28 = .ok (.aload_n 0, 1) := dl_42 (by decide +kernel)
theorem dX12_depth_29 : decode cX12_depth 29 = .ok (.getfield 288, 3) := dl_180 (by decide +kernel)
theorem dX12_depth_32 : decode cX12_depth 32 = .ok (.if_icmp .gt 36, 3) := dl_163 (by decide +kernel)
theorem dX12_depth_68 : decode cX12_depth 68 = .ok (.bipush (-4), 2) := dl_16 (by decide +kernel)
theorem dX12_depth_70 : decode cX12_depth 70 = .ok (.ireturn, 1) := dl_172 (by decide +kernel)
theorem dX12_depth_35 : decode cX12_depth 35 = .ok (.aload_n 0, 1) := dl_42 (by decide +kernel)
theorem dX12_depth_36 : decode cX12_depth 36 = .ok (.getfield 74, 3) := dl_180 (by decide +kernel)
theorem dX12_depth_39 : decode cX12_depth 39 = .ok (.bipush 48, 2) := dl_16 (by decide +kernel)
theorem dX12_depth_41 : decode cX12_depth 41 = .ok (.iload_n 3, 1) := dl_29 (by decide +kernel)
theorem dX12_depth_42 : decode cX12_depth 42 = .ok (.imul, 1) := dl_104 (by decide +kernel)
theorem dX12_depth_43 : decode cX12_depth 43 = .ok (.iload_n 1, 1) := dl_27 (by decide +kernel)
theorem dX12_depth_44 : decode cX12_depth 44 = .ok (.iadd, 1) := dl_96 (by decide +kernel)
theorem dX12_depth_45 : decode cX12_depth 45 = .ok (.iaload, 1) := dl_46 (by decide +kernel)
theorem dX12_depth_46 : decode cX12_depth 46 = .ok (.aload_n 0, 1) := dl_42 (by decide +kernel)
theorem dX12_depth_47 : decode cX12_depth 47 = .ok (.getfield 74, 3) := dl_180 (by decide +kernel)
theorem dX12_depth_50 : decode cX12_depth 50 = .ok (.bipush 48, 2) := dl_16 (by decide +kernel)
theorem dX12_depth_52 : decode cX12_depth 52 = .ok (.iload_n 3, 1) := dl_29 (by decide +kernel)
theorem dX12_depth_53 : decode cX12_depth 53 = .ok (.imul, 1) := dl_104 (by decide +kernel)
theorem dX12_depth_54 : decode cX12_depth 54 = .ok (.iload_n 2, 1) := dl_28 (by decide +kernel)
theorem dX12_depth_55 : decode cX12_depth 55 = .ok (.iadd, 1) := dl_96 (by decide +kernel)
theorem dX12_depth_56 : decode cX12_depth 56 = .ok (.iaload, 1) := dl_46 (by decide +kernel)
theorem dX12_depth_57 : decode cX12_depth 57 = .ok (.if_icmp .eq 5, 3) := dl_159 (by decide +kernel)
theorem dX12_depth_62 : decode cX12_depth 62 = .ok (.iinc 3 1, 3) := dl_132 (by decide +kernel)
theorem dX12_depth_65 : decode cX12_depth 65 = .ok (.goto (-38), 3) := dl_167 (by decide +kernel)
theorem dX12_depth_60 : decode cX12_depth 60 = .ok (.iload_n 3, 1) := dl_29 (by decide +kernel)
theorem dX12_depth_61 : decode cX12_depth 61 = .ok (.ireturn, 1) := dl_172 (by decide +kernel)
theorem dX12_depth_16 : decode cX12_depth 16 = .ok (.iconst (-1), 1) := dl_2 (by decide +kernel)
theorem dX12_depth_17 : decode cX12_depth 17 = .ok (.ireturn, 1) := dl_172 (by decide +kernel)
set_option maxRecDepth 100000 in
set_option maxHeartbeats 4000000 in
theorem y_depth (l : Launch) (E : EV) (ro : va_W) (hm : Nat) (v0 : Int32) (v1 : Int32) (m_manys : Nat) (m_reals : Nat) (m_factsOf : Nat) (m_possible : Nat) (q_undos : Nat) (q_models : Nat) (m_tape : Nat) (q_taped : Nat) (q_fault : Int32) (q_wrong : Int32) (q_wrongAt : Int32) (q_spot : Int32) (q_place : Int32) (q_token : Int32) (q_value : Int32) (m_ends : Nat) (m_letters : Nat) (m_actOf : Nat) (m_whom : Nat) (m_actMany : Nat) (m_tokens : Nat) (m_afters : Nat) (m_afterOf : Nat) (q_counted : Int32) (m_pile : Nat) (m_caseMany : Nat) (m_happen : Nat) (m_hasIf : Nat) (m_becomes : Nat) (m_goneOf : Nat) (m_heard : Nat) (m_pairs : Nat) (m_heaps : Nat) (q_rounds : Int32) (q_heapMany : Int32) (m_led : Nat) (m_newAt : Nat) (m_knowing : Nat) (m_firsts : Nat) (q_people : Nat) (m_secrets : Nat) (m_tried : Nat) (m_lanes : Nat) (m_lengths : Nat) (m_cells : Nat) (f_manys : Nat → Int32) (f_reals : Nat → Int32) (f_factsOf : Nat → Int32) (f_possible : Nat → Int32) (f_heaps : Nat → Int32) (f_led : Nat → Int64) (hb_manys : NB 18 24 f_manys) (hb_reals : NB 18 23 f_reals) (hpg : PG f_manys f_reals) (hwf : WFP (pgs f_manys f_reals f_factsOf f_possible)) : CT l yX12_depth (Cond.code yX12_depth cX12_depth 4 (some .int) :: TB) ({ frames := 3, cells := 0, slots := 0, locals := 78 }) E ro [.ref hm, .int v0, .int v1] [(hm, .inr (12, [.ref m_manys, .ref m_reals, .ref m_factsOf, .ref m_possible, .int (nI q_undos), .int (nI q_models), .ref m_tape, .int (nI q_taped), .int q_fault, .int q_wrong, .int q_wrongAt, .int q_spot, .int q_place, .int q_token, .int q_value, .ref m_ends, .ref m_letters, .ref m_actOf, .ref m_whom, .ref m_actMany, .ref m_tokens, .ref m_afters, .ref m_afterOf, .int q_counted, .ref m_pile, .ref m_caseMany, .ref m_happen, .ref m_hasIf, .ref m_becomes, .ref m_goneOf, .ref m_heard, .ref m_pairs, .ref m_heaps, .int q_rounds, .int q_heapMany, .ref m_led, .ref m_newAt, .ref m_knowing, .ref m_firsts, .int (nI q_people), .ref m_secrets, .ref m_tried, .ref m_lanes, .ref m_lengths, .ref m_cells])), (m_manys, .inl (E.2.1 1, 18, .inl f_manys)), (m_reals, .inl (E.2.1 1, 18, .inl f_reals)), (m_factsOf, .inl (E.2.1 1, 432, .inl f_factsOf)), (m_possible, .inl (E.2.1 1, 1728, .inl f_possible)), (m_heaps, .inl (E.2.1 1, 2400, .inl f_heaps)), (m_led, .inl (E.2.1 2, 192, .inr (.inl f_led)))] (Qi E (fun (rz : Int32) uz => (∃ (rz_ : Int32) (hmz : Int32) (f_heapsz : Nat → Int32) (f_ledz : Nat → Int64), uz = [(hm, .inr (12, [.ref m_manys, .ref m_reals, .ref m_factsOf, .ref m_possible, .int (nI q_undos), .int (nI q_models), .ref m_tape, .int (nI q_taped), .int q_fault, .int q_wrong, .int q_wrongAt, .int q_spot, .int q_place, .int q_token, .int q_value, .ref m_ends, .ref m_letters, .ref m_actOf, .ref m_whom, .ref m_actMany, .ref m_tokens, .ref m_afters, .ref m_afterOf, .int q_counted, .ref m_pile, .ref m_caseMany, .ref m_happen, .ref m_hasIf, .ref m_becomes, .ref m_goneOf, .ref m_heard, .ref m_pairs, .ref m_heaps, .int rz_, .int hmz, .ref m_led, .ref m_newAt, .ref m_knowing, .ref m_firsts, .int (nI q_people), .ref m_secrets, .ref m_tried, .ref m_lanes, .ref m_lengths, .ref m_cells])), (m_manys, .inl (E.2.1 1, 18, .inl f_manys)), (m_reals, .inl (E.2.1 1, 18, .inl f_reals)), (m_factsOf, .inl (E.2.1 1, 432, .inl f_factsOf)), (m_possible, .inl (E.2.1 1, 1728, .inl f_possible)), (m_heaps, .inl (E.2.1 1, 2400, .inl f_heapsz)), (m_led, .inl (E.2.1 2, 192, .inr (.inl f_ledz)))] ∧ (ansDep (pgs f_manys f_reals f_factsOf f_possible 0) v0 v1 rz)))) 0 0 := by
  refine ct_of rfl rfl ?_
  intro X C hT hin hro
  show WW X 4 E 0 [(0, .ref hm), (1, .int v0), (2, .int v1)] [] [(hm, .inr (12, [.ref m_manys, .ref m_reals, .ref m_factsOf, .ref m_possible, .int (nI q_undos), .int (nI q_models), .ref m_tape, .int (nI q_taped), .int q_fault, .int q_wrong, .int q_wrongAt, .int q_spot, .int q_place, .int q_token, .int q_value, .ref m_ends, .ref m_letters, .ref m_actOf, .ref m_whom, .ref m_actMany, .ref m_tokens, .ref m_afters, .ref m_afterOf, .int q_counted, .ref m_pile, .ref m_caseMany, .ref m_happen, .ref m_hasIf, .ref m_becomes, .ref m_goneOf, .ref m_heard, .ref m_pairs, .ref m_heaps, .int q_rounds, .int q_heapMany, .ref m_led, .ref m_newAt, .ref m_knowing, .ref m_firsts, .int (nI q_people), .ref m_secrets, .ref m_tried, .ref m_lanes, .ref m_lengths, .ref m_cells])), (m_manys, .inl (E.2.1 1, 18, .inl f_manys)), (m_reals, .inl (E.2.1 1, 18, .inl f_reals)), (m_factsOf, .inl (E.2.1 1, 432, .inl f_factsOf)), (m_possible, .inl (E.2.1 1, 1728, .inl f_possible)), (m_heaps, .inl (E.2.1 1, 2400, .inl f_heaps)), (m_led, .inl (E.2.1 2, 192, .inr (.inl f_led)))] 0 0
  have hmn0 := (hb_manys 0 (by omega)).2
  refine ww_aload_n C dX12_depth_0 0 rfl rfl ?_
  refine ww_iload_n C dX12_depth_1 1 rfl rfl ?_
  refine ww_ci (wr := [(m_reals, .inl (E.2.1 1, 18, .inl f_reals)), (m_factsOf, .inl (E.2.1 1, 432, .inl f_factsOf)), (m_possible, .inl (E.2.1 1, 1728, .inl f_possible)), (m_heaps, .inl (E.2.1 1, 2400, .inl f_heaps)), (m_led, .inl (E.2.1 2, 192, .inr (.inl f_led)))]) (k' := 0) (n' := 0) C (run_V (As := [.int v0]) (rest := []) C (r_isWorld X.2.1 E ro hm v0 m_manys m_reals m_factsOf m_possible q_undos q_models m_tape q_taped q_fault q_wrong q_wrongAt q_spot q_place q_token q_value m_ends m_letters m_actOf m_whom m_actMany m_tokens m_afters m_afterOf q_counted m_pile m_caseMany m_happen m_hasIf m_becomes m_goneOf m_heard m_pairs m_heaps q_rounds q_heapMany m_led m_newAt m_knowing m_firsts q_people m_secrets m_tried m_lanes m_lengths m_cells f_manys hb_manys) mi_X12_isWorld wl_X12_132 rfl 0 12 rfl rfl rfl rfl rfl dX12_depth_2) (roK hro) [0, 1] [2, 3, 4, 5, 6] rfl rfl rfl rfl (fun r_1 uz hw => ?_)
  rcases hw with hw | hw
  · refine an3 hw ?_
    clear hw
    intro he_4 he_5 h_2 hw
    have h_3 := hw
    clear hw
    have he_4 := he_4.symm
    subst he_4
    subst he_5
    refine ww_eq (ws' := [(m_reals, .inl (E.2.1 1, 18, .inl f_reals)), (m_factsOf, .inl (E.2.1 1, 432, .inl f_factsOf)), (m_possible, .inl (E.2.1 1, 1728, .inl f_possible)), (m_heaps, .inl (E.2.1 1, 2400, .inl f_heaps)), (m_led, .inl (E.2.1 2, 192, .inr (.inl f_led))), (hm, .inr (12, [.ref m_manys, .ref m_reals, .ref m_factsOf, .ref m_possible, .int (nI q_undos), .int (nI q_models), .ref m_tape, .int (nI q_taped), .int q_fault, .int q_wrong, .int q_wrongAt, .int q_spot, .int q_place, .int q_token, .int q_value, .ref m_ends, .ref m_letters, .ref m_actOf, .ref m_whom, .ref m_actMany, .ref m_tokens, .ref m_afters, .ref m_afterOf, .int q_counted, .ref m_pile, .ref m_caseMany, .ref m_happen, .ref m_hasIf, .ref m_becomes, .ref m_goneOf, .ref m_heard, .ref m_pairs, .ref m_heaps, .int q_rounds, .int q_heapMany, .ref m_led, .ref m_newAt, .ref m_knowing, .ref m_firsts, .int (nI q_people), .ref m_secrets, .ref m_tried, .ref m_lanes, .ref m_lengths, .ref m_cells])), (m_manys, .inl (E.2.1 1, 18, .inl f_manys))]) ?_ rfl rfl rfl
    refine ww_if_eq_f (tgt := 16) C dX12_depth_5 (by decide) (by decide) ?_
    refine ww_aload_n C dX12_depth_8 0 rfl rfl ?_
    refine ww_iload_n C dX12_depth_9 2 rfl rfl ?_
    refine ww_ci (wr := [(m_reals, .inl (E.2.1 1, 18, .inl f_reals)), (m_factsOf, .inl (E.2.1 1, 432, .inl f_factsOf)), (m_possible, .inl (E.2.1 1, 1728, .inl f_possible)), (m_heaps, .inl (E.2.1 1, 2400, .inl f_heaps)), (m_led, .inl (E.2.1 2, 192, .inr (.inl f_led)))]) (k' := 0) (n' := 0) C (run_V (As := [.int v1]) (rest := []) C (r_isWorld X.2.1 E ro hm v1 m_manys m_reals m_factsOf m_possible q_undos q_models m_tape q_taped q_fault q_wrong q_wrongAt q_spot q_place q_token q_value m_ends m_letters m_actOf m_whom m_actMany m_tokens m_afters m_afterOf q_counted m_pile m_caseMany m_happen m_hasIf m_becomes m_goneOf m_heard m_pairs m_heaps q_rounds q_heapMany m_led m_newAt m_knowing m_firsts q_people m_secrets m_tried m_lanes m_lengths m_cells f_manys hb_manys) mi_X12_isWorld wl_X12_132 rfl 0 12 rfl rfl rfl rfl rfl dX12_depth_10) (roK hro) [5, 6] [0, 1, 2, 3, 4] rfl rfl rfl rfl (fun r_9 uz hw => ?_)
    rcases hw with hw | hw
    · refine an3 hw ?_
      clear hw
      intro he_12 he_13 h_10 hw
      have h_11 := hw
      clear hw
      have he_12 := he_12.symm
      subst he_12
      subst he_13
      refine ww_eq (ws' := [(m_reals, .inl (E.2.1 1, 18, .inl f_reals)), (m_factsOf, .inl (E.2.1 1, 432, .inl f_factsOf)), (m_possible, .inl (E.2.1 1, 1728, .inl f_possible)), (m_heaps, .inl (E.2.1 1, 2400, .inl f_heaps)), (m_led, .inl (E.2.1 2, 192, .inr (.inl f_led))), (hm, .inr (12, [.ref m_manys, .ref m_reals, .ref m_factsOf, .ref m_possible, .int (nI q_undos), .int (nI q_models), .ref m_tape, .int (nI q_taped), .int q_fault, .int q_wrong, .int q_wrongAt, .int q_spot, .int q_place, .int q_token, .int q_value, .ref m_ends, .ref m_letters, .ref m_actOf, .ref m_whom, .ref m_actMany, .ref m_tokens, .ref m_afters, .ref m_afterOf, .int q_counted, .ref m_pile, .ref m_caseMany, .ref m_happen, .ref m_hasIf, .ref m_becomes, .ref m_goneOf, .ref m_heard, .ref m_pairs, .ref m_heaps, .int q_rounds, .int q_heapMany, .ref m_led, .ref m_newAt, .ref m_knowing, .ref m_firsts, .int (nI q_people), .ref m_secrets, .ref m_tried, .ref m_lanes, .ref m_lengths, .ref m_cells])), (m_manys, .inl (E.2.1 1, 18, .inl f_manys))]) ?_ rfl rfl rfl
      refine ww_if_ne_t (tgt := 18) C dX12_depth_13 (by decide) (by decide) ?_
      obtain ⟨j_17, hj_17, rfl⟩ := i_nat (x := v0) (N := 24) (by omega) (by omega)
      have hzj_17 := nI_toInt (n := j_17) (by omega)
      obtain ⟨j_18, hj_18, rfl⟩ := i_nat (x := v1) (N := 24) (by omega) (by omega)
      have hzj_18 := nI_toInt (n := j_18) (by omega)
      refine ww_aload_n C dX12_depth_18 0 rfl rfl ?_
      refine ww_iconst (v := 0) C dX12_depth_19 rfl ?_
      refine ww_bipush (v := (-4)) C dX12_depth_20 rfl ?_
      refine ww_cv (wr := []) (k' := 0) (n' := 0) C (run_V (As := [.int 0, .int (-4)]) (rest := []) C (r_layHeapsN X.2.1 E ro hm m_manys m_reals m_factsOf m_possible q_undos q_models m_tape q_taped q_fault q_wrong q_wrongAt q_spot q_place q_token q_value m_ends m_letters m_actOf m_whom m_actMany m_tokens m_afters m_afterOf q_counted m_pile m_caseMany m_happen m_hasIf m_becomes m_goneOf m_heard m_pairs m_heaps q_rounds q_heapMany m_led m_newAt m_knowing m_firsts q_people m_secrets m_tried m_lanes m_lengths m_cells f_manys f_reals f_factsOf f_possible f_heaps f_led hb_manys hb_reals hpg hwf) mi_X12_layHeaps wl_X12_298 rfl 0 12 rfl rfl rfl rfl rfl dX12_depth_22) (roK hro) [5, 6, 0, 1, 2, 3, 4] [] rfl rfl (plk (by decide +kernel)) rfl (fun uz hw => ?_)
      refine ex4 hw ?_
      clear hw
      intro rz__20 hmz_21 f_heapsz_22 f_ledz_23 hw
      refine an5 hw ?_
      clear hw
      intro he_29 h_24 h_25 h_26 h_27 hw
      have h_28 := hw
      clear hw
      subst he_29
      refine ww_eq (ws' := [(hm, .inr (12, [.ref m_manys, .ref m_reals, .ref m_factsOf, .ref m_possible, .int (nI q_undos), .int (nI q_models), .ref m_tape, .int (nI q_taped), .int q_fault, .int q_wrong, .int q_wrongAt, .int q_spot, .int q_place, .int q_token, .int q_value, .ref m_ends, .ref m_letters, .ref m_actOf, .ref m_whom, .ref m_actMany, .ref m_tokens, .ref m_afters, .ref m_afterOf, .int q_counted, .ref m_pile, .ref m_caseMany, .ref m_happen, .ref m_hasIf, .ref m_becomes, .ref m_goneOf, .ref m_heard, .ref m_pairs, .ref m_heaps, .int (nI rz__20), .int (nI hmz_21), .ref m_led, .ref m_newAt, .ref m_knowing, .ref m_firsts, .int (nI q_people), .ref m_secrets, .ref m_tried, .ref m_lanes, .ref m_lengths, .ref m_cells])), (m_manys, .inl (E.2.1 1, 18, .inl f_manys)), (m_reals, .inl (E.2.1 1, 18, .inl f_reals)), (m_factsOf, .inl (E.2.1 1, 432, .inl f_factsOf)), (m_possible, .inl (E.2.1 1, 1728, .inl f_possible)), (m_heaps, .inl (E.2.1 1, 2400, .inl f_heapsz_22)), (m_led, .inl (E.2.1 2, 192, .inr (.inl f_ledz_23)))]) ?_ rfl rfl rfl
      refine ww_iconst (v := 0) C dX12_depth_25 rfl ?_
      refine ww_istore_n (lv' := [(3, .int 0), (0, .ref hm), (1, .int (nI j_17)), (2, .int (nI j_18))]) C dX12_depth_26 rfl rfl rfl ?_
      have loop_27 : ∀ (fu : Nat) (r1 : Nat), (r1 ≤ rz__20 + 1) → (∀ s, s < r1 → rk (cm1 (pgs f_manys f_reals f_factsOf f_possible 0)) s j_17 = rk (cm1 (pgs f_manys f_reals f_factsOf f_possible 0)) s j_18) → rz__20 + 1 - r1 < fu → WW X 4 E 27 [(3, .int (nI r1)), (0, .ref hm), (1, .int (nI j_17)), (2, .int (nI j_18))] [] [(hm, .inr (12, [.ref m_manys, .ref m_reals, .ref m_factsOf, .ref m_possible, .int (nI q_undos), .int (nI q_models), .ref m_tape, .int (nI q_taped), .int q_fault, .int q_wrong, .int q_wrongAt, .int q_spot, .int q_place, .int q_token, .int q_value, .ref m_ends, .ref m_letters, .ref m_actOf, .ref m_whom, .ref m_actMany, .ref m_tokens, .ref m_afters, .ref m_afterOf, .int q_counted, .ref m_pile, .ref m_caseMany, .ref m_happen, .ref m_hasIf, .ref m_becomes, .ref m_goneOf, .ref m_heard, .ref m_pairs, .ref m_heaps, .int (nI rz__20), .int (nI hmz_21), .ref m_led, .ref m_newAt, .ref m_knowing, .ref m_firsts, .int (nI q_people), .ref m_secrets, .ref m_tried, .ref m_lanes, .ref m_lengths, .ref m_cells])), (m_manys, .inl (E.2.1 1, 18, .inl f_manys)), (m_reals, .inl (E.2.1 1, 18, .inl f_reals)), (m_factsOf, .inl (E.2.1 1, 432, .inl f_factsOf)), (m_possible, .inl (E.2.1 1, 1728, .inl f_possible)), (m_heaps, .inl (E.2.1 1, 2400, .inl f_heapsz_22)), (m_led, .inl (E.2.1 2, 192, .inr (.inl f_ledz_23)))] 0 0 := by
        intro fu
        induction fu with
        | zero => intro r1 hr1 hdr hmeas; exact absurd hmeas (Nat.not_lt_zero _)
        | succ fu ih_27 =>
          intro r1 hr1 hdr hmeas
          refine ww_iload_n C dX12_depth_27 0 rfl rfl ?_
          refine ww_aload_n C dX12_depth_28 1 rfl rfl ?_
          refine ww_get C fg_X12_288 0 rfl rfl dX12_depth_29 ?_
          refine ww_icmp_gt (tgt := 68) C dX12_depth_32 (by decide) (fun c_30 => ?_) (fun c_30 => ?_)
          · have zc_30 : ((r1 : Nat) : Int) > ((rz__20 : Nat) : Int) := i_lt (nI_toInt (n := rz__20) (by omega)) (nI_toInt (n := r1) (by omega)) c_30
            refine ww_bipush (v := (-4)) C dX12_depth_68 rfl ?_
            exact ww_iret (u := [(hm, .inr (12, [.ref m_manys, .ref m_reals, .ref m_factsOf, .ref m_possible, .int (nI q_undos), .int (nI q_models), .ref m_tape, .int (nI q_taped), .int q_fault, .int q_wrong, .int q_wrongAt, .int q_spot, .int q_place, .int q_token, .int q_value, .ref m_ends, .ref m_letters, .ref m_actOf, .ref m_whom, .ref m_actMany, .ref m_tokens, .ref m_afters, .ref m_afterOf, .int q_counted, .ref m_pile, .ref m_caseMany, .ref m_happen, .ref m_hasIf, .ref m_becomes, .ref m_goneOf, .ref m_heard, .ref m_pairs, .ref m_heaps, .int (nI rz__20), .int (nI hmz_21), .ref m_led, .ref m_newAt, .ref m_knowing, .ref m_firsts, .int (nI q_people), .ref m_secrets, .ref m_tried, .ref m_lanes, .ref m_lengths, .ref m_cells])), (m_manys, .inl (E.2.1 1, 18, .inl f_manys)), (m_reals, .inl (E.2.1 1, 18, .inl f_reals)), (m_factsOf, .inl (E.2.1 1, 432, .inl f_factsOf)), (m_possible, .inl (E.2.1 1, 1728, .inl f_possible)), (m_heaps, .inl (E.2.1 1, 2400, .inl f_heapsz_22)), (m_led, .inl (E.2.1 2, 192, .inr (.inl f_ledz_23)))]) C hT [0, 1, 2, 3, 4, 5, 6] rfl rfl rfl rfl dX12_depth_70 (⟨(nI rz__20), (nI hmz_21), f_heapsz_22, f_ledz_23, rfl, (Or.inr ⟨(show 0 ≤ (nI j_17).toInt ∧ (nI j_17).toInt < (cN f_manys 0 : Int) ∧ 0 ≤ (nI j_18).toInt ∧ (nI j_18).toInt < (cN f_manys 0 : Int) by omega), by rw [tN_n (n := j_17) (by omega), tN_n (n := j_18) (by omega)]; exact (Or.inl ⟨rfl, fun s _ => dep_none h_28 (cm1_wf (hwf 0 (by omega))) (fun s hs => hdr s (by omega)) (show j_17 < cN f_manys 0 by omega) (show j_18 < cN f_manys 0 by omega) s⟩)⟩)⟩)
          · have zc_30 : ((r1 : Nat) : Int) ≤ ((rz__20 : Nat) : Int) := i_nlt (nI_toInt (n := rz__20) (by omega)) (nI_toInt (n := r1) (by omega)) c_30
            refine ww_aload_n C dX12_depth_35 1 rfl rfl ?_
            refine ww_get C fg_X12_74 0 rfl rfl dX12_depth_36 ?_
            refine ww_bipush (v := 48) C dX12_depth_39 rfl ?_
            refine ww_iload_n C dX12_depth_41 0 rfl rfl ?_
            refine ww_imul (v := (nI (48 * r1))) C dX12_depth_42 (pk_mul 48 r1) ?_
            refine ww_iload_n C dX12_depth_43 2 rfl rfl ?_
            refine ww_iadd (v := (nI ((48 * r1) + j_17))) C dX12_depth_44 (nI_add (48 * r1) j_17) ?_
            obtain ⟨x_31, ex_31⟩ : ∃ z : Int32, f_heapsz_22 ((48 * r1) + j_17) = z := ⟨_, rfl⟩
            refine ww_iald (v := x_31) C 5 rfl (vp_in_nI (by omega) (by omega)) (ldn (by omega) ex_31) dX12_depth_45 ?_
            refine ww_aload_n C dX12_depth_46 1 rfl rfl ?_
            refine ww_get C fg_X12_74 0 rfl rfl dX12_depth_47 ?_
            refine ww_bipush (v := 48) C dX12_depth_50 rfl ?_
            refine ww_iload_n C dX12_depth_52 0 rfl rfl ?_
            refine ww_imul (v := (nI (48 * r1))) C dX12_depth_53 (pk_mul 48 r1) ?_
            refine ww_iload_n C dX12_depth_54 3 rfl rfl ?_
            refine ww_iadd (v := (nI ((48 * r1) + j_18))) C dX12_depth_55 (nI_add (48 * r1) j_18) ?_
            obtain ⟨x_32, ex_32⟩ : ∃ z : Int32, f_heapsz_22 ((48 * r1) + j_18) = z := ⟨_, rfl⟩
            refine ww_iald (v := x_32) C 5 rfl (vp_in_nI (by omega) (by omega)) (ldn (by omega) ex_32) dX12_depth_56 ?_
            refine ww_icmp_eq (tgt := 62) C dX12_depth_57 (by decide) (fun c_33 => ?_) (fun c_33 => ?_)
            · have zc_33 : x_31.toInt = x_32.toInt := i_eq rfl rfl c_33
              refine ww_iinc (j := 0) (v := (nI (r1 + 1))) (lv' := [(3, .int (nI (r1 + 1))), (0, .ref hm), (1, .int (nI j_17)), (2, .int (nI j_18))]) C dX12_depth_62 rfl (nI_add r1 1) rfl rfl ?_
              refine ww_goto (tgt := 27) C dX12_depth_65 (by decide) ?_
              exact ww_lv [0, 1, 2, 3] rfl (ww_sub [0, 1, 2, 3, 4, 5, 6] rfl rfl (ih_27 (r1 + 1) (by omega) (fun s hs => if hk : s = r1 then (by rw [hk]; exact (rk_eq2 (show cN f_manys 0 ≤ 48 by omega) (h_27 r1 (by omega)) (show j_17 < cN f_manys 0 by omega) (show j_18 < cN f_manys 0 by omega) (by assumption) (by assumption)).mp (by assumption)) else hdr s (by omega)) (by omega)))
            · have zc_33 : x_31.toInt ≠ x_32.toInt := i_ne rfl rfl c_33
              refine ww_iload_n C dX12_depth_60 0 rfl rfl ?_
              exact ww_iret (u := [(hm, .inr (12, [.ref m_manys, .ref m_reals, .ref m_factsOf, .ref m_possible, .int (nI q_undos), .int (nI q_models), .ref m_tape, .int (nI q_taped), .int q_fault, .int q_wrong, .int q_wrongAt, .int q_spot, .int q_place, .int q_token, .int q_value, .ref m_ends, .ref m_letters, .ref m_actOf, .ref m_whom, .ref m_actMany, .ref m_tokens, .ref m_afters, .ref m_afterOf, .int q_counted, .ref m_pile, .ref m_caseMany, .ref m_happen, .ref m_hasIf, .ref m_becomes, .ref m_goneOf, .ref m_heard, .ref m_pairs, .ref m_heaps, .int (nI rz__20), .int (nI hmz_21), .ref m_led, .ref m_newAt, .ref m_knowing, .ref m_firsts, .int (nI q_people), .ref m_secrets, .ref m_tried, .ref m_lanes, .ref m_lengths, .ref m_cells])), (m_manys, .inl (E.2.1 1, 18, .inl f_manys)), (m_reals, .inl (E.2.1 1, 18, .inl f_reals)), (m_factsOf, .inl (E.2.1 1, 432, .inl f_factsOf)), (m_possible, .inl (E.2.1 1, 1728, .inl f_possible)), (m_heaps, .inl (E.2.1 1, 2400, .inl f_heapsz_22)), (m_led, .inl (E.2.1 2, 192, .inr (.inl f_ledz_23)))]) C hT [0, 1, 2, 3, 4, 5, 6] rfl rfl rfl rfl dX12_depth_61 (⟨(nI rz__20), (nI hmz_21), f_heapsz_22, f_ledz_23, rfl, (Or.inr ⟨(show 0 ≤ (nI j_17).toInt ∧ (nI j_17).toInt < (cN f_manys 0 : Int) ∧ 0 ≤ (nI j_18).toInt ∧ (nI j_18).toInt < (cN f_manys 0 : Int) by omega), by rw [tN_n (n := j_17) (by omega), tN_n (n := j_18) (by omega)]; exact (Or.inr ⟨r1, rfl, dep_r h_28 (by omega) hdr (fun h9 => absurd ((rk_eq2 (c := (cm1 (pgs f_manys f_reals f_factsOf f_possible 0))) (show cN f_manys 0 ≤ 48 by omega) (h_27 r1 (by omega)) (show j_17 < cN f_manys 0 by omega) (show j_18 < cN f_manys 0 by omega) (by assumption) (by assumption)).mpr h9) (by assumption)) (show j_17 < cN f_manys 0 by omega) (show j_18 < cN f_manys 0 by omega), (fun h9 => absurd ((rk_eq2 (c := (cm1 (pgs f_manys f_reals f_factsOf f_possible 0))) (show cN f_manys 0 ≤ 48 by omega) (h_27 r1 (by omega)) (show j_17 < cN f_manys 0 by omega) (show j_18 < cN f_manys 0 by omega) (by assumption) (by assumption)).mpr h9) (by assumption)), hdr⟩)⟩)⟩)
      exact ww_lv [0, 1, 2, 3] rfl (ww_sub [0, 1, 2, 3, 4, 5, 6] rfl rfl (loop_27 _ 0 (by omega) (fun s h => absurd h (Nat.not_lt_zero _)) (Nat.lt_succ_self _)))
    · refine an2 hw ?_
      clear hw
      intro he_15 he_16 hw
      have h_14 := hw
      clear hw
      have he_15 := he_15.symm
      subst he_15
      subst he_16
      refine ww_eq (ws' := [(m_reals, .inl (E.2.1 1, 18, .inl f_reals)), (m_factsOf, .inl (E.2.1 1, 432, .inl f_factsOf)), (m_possible, .inl (E.2.1 1, 1728, .inl f_possible)), (m_heaps, .inl (E.2.1 1, 2400, .inl f_heaps)), (m_led, .inl (E.2.1 2, 192, .inr (.inl f_led))), (hm, .inr (12, [.ref m_manys, .ref m_reals, .ref m_factsOf, .ref m_possible, .int (nI q_undos), .int (nI q_models), .ref m_tape, .int (nI q_taped), .int q_fault, .int q_wrong, .int q_wrongAt, .int q_spot, .int q_place, .int q_token, .int q_value, .ref m_ends, .ref m_letters, .ref m_actOf, .ref m_whom, .ref m_actMany, .ref m_tokens, .ref m_afters, .ref m_afterOf, .int q_counted, .ref m_pile, .ref m_caseMany, .ref m_happen, .ref m_hasIf, .ref m_becomes, .ref m_goneOf, .ref m_heard, .ref m_pairs, .ref m_heaps, .int q_rounds, .int q_heapMany, .ref m_led, .ref m_newAt, .ref m_knowing, .ref m_firsts, .int (nI q_people), .ref m_secrets, .ref m_tried, .ref m_lanes, .ref m_lengths, .ref m_cells])), (m_manys, .inl (E.2.1 1, 18, .inl f_manys))]) ?_ rfl rfl rfl
      refine ww_if_ne_f (tgt := 18) C dX12_depth_13 (by decide) (rfl) ?_
      refine ww_iconst (v := (-1)) C dX12_depth_16 rfl ?_
      exact ww_iret (u := [(hm, .inr (12, [.ref m_manys, .ref m_reals, .ref m_factsOf, .ref m_possible, .int (nI q_undos), .int (nI q_models), .ref m_tape, .int (nI q_taped), .int q_fault, .int q_wrong, .int q_wrongAt, .int q_spot, .int q_place, .int q_token, .int q_value, .ref m_ends, .ref m_letters, .ref m_actOf, .ref m_whom, .ref m_actMany, .ref m_tokens, .ref m_afters, .ref m_afterOf, .int q_counted, .ref m_pile, .ref m_caseMany, .ref m_happen, .ref m_hasIf, .ref m_becomes, .ref m_goneOf, .ref m_heard, .ref m_pairs, .ref m_heaps, .int q_rounds, .int q_heapMany, .ref m_led, .ref m_newAt, .ref m_knowing, .ref m_firsts, .int (nI q_people), .ref m_secrets, .ref m_tried, .ref m_lanes, .ref m_lengths, .ref m_cells])), (m_manys, .inl (E.2.1 1, 18, .inl f_manys)), (m_reals, .inl (E.2.1 1, 18, .inl f_reals)), (m_factsOf, .inl (E.2.1 1, 432, .inl f_factsOf)), (m_possible, .inl (E.2.1 1, 1728, .inl f_possible)), (m_heaps, .inl (E.2.1 1, 2400, .inl f_heaps)), (m_led, .inl (E.2.1 2, 192, .inr (.inl f_led)))]) C hT [5, 6, 0, 1, 2, 3, 4] rfl rfl rfl rfl dX12_depth_17 (⟨q_rounds, q_heapMany, f_heaps, f_led, rfl, (Or.inl ⟨(show v0.toInt < 0 ∨ (cN f_manys 0 : Int) ≤ v0.toInt ∨ v1.toInt < 0 ∨ (cN f_manys 0 : Int) ≤ v1.toInt by omega), rfl⟩)⟩)
  · refine an2 hw ?_
    clear hw
    intro he_7 he_8 hw
    have h_6 := hw
    clear hw
    have he_7 := he_7.symm
    subst he_7
    subst he_8
    refine ww_eq (ws' := [(m_reals, .inl (E.2.1 1, 18, .inl f_reals)), (m_factsOf, .inl (E.2.1 1, 432, .inl f_factsOf)), (m_possible, .inl (E.2.1 1, 1728, .inl f_possible)), (m_heaps, .inl (E.2.1 1, 2400, .inl f_heaps)), (m_led, .inl (E.2.1 2, 192, .inr (.inl f_led))), (hm, .inr (12, [.ref m_manys, .ref m_reals, .ref m_factsOf, .ref m_possible, .int (nI q_undos), .int (nI q_models), .ref m_tape, .int (nI q_taped), .int q_fault, .int q_wrong, .int q_wrongAt, .int q_spot, .int q_place, .int q_token, .int q_value, .ref m_ends, .ref m_letters, .ref m_actOf, .ref m_whom, .ref m_actMany, .ref m_tokens, .ref m_afters, .ref m_afterOf, .int q_counted, .ref m_pile, .ref m_caseMany, .ref m_happen, .ref m_hasIf, .ref m_becomes, .ref m_goneOf, .ref m_heard, .ref m_pairs, .ref m_heaps, .int q_rounds, .int q_heapMany, .ref m_led, .ref m_newAt, .ref m_knowing, .ref m_firsts, .int (nI q_people), .ref m_secrets, .ref m_tried, .ref m_lanes, .ref m_lengths, .ref m_cells])), (m_manys, .inl (E.2.1 1, 18, .inl f_manys))]) ?_ rfl rfl rfl
    refine ww_if_eq_t (tgt := 16) C dX12_depth_5 (by decide) (rfl) ?_
    refine ww_iconst (v := (-1)) C dX12_depth_16 rfl ?_
    exact ww_iret (u := [(hm, .inr (12, [.ref m_manys, .ref m_reals, .ref m_factsOf, .ref m_possible, .int (nI q_undos), .int (nI q_models), .ref m_tape, .int (nI q_taped), .int q_fault, .int q_wrong, .int q_wrongAt, .int q_spot, .int q_place, .int q_token, .int q_value, .ref m_ends, .ref m_letters, .ref m_actOf, .ref m_whom, .ref m_actMany, .ref m_tokens, .ref m_afters, .ref m_afterOf, .int q_counted, .ref m_pile, .ref m_caseMany, .ref m_happen, .ref m_hasIf, .ref m_becomes, .ref m_goneOf, .ref m_heard, .ref m_pairs, .ref m_heaps, .int q_rounds, .int q_heapMany, .ref m_led, .ref m_newAt, .ref m_knowing, .ref m_firsts, .int (nI q_people), .ref m_secrets, .ref m_tried, .ref m_lanes, .ref m_lengths, .ref m_cells])), (m_manys, .inl (E.2.1 1, 18, .inl f_manys)), (m_reals, .inl (E.2.1 1, 18, .inl f_reals)), (m_factsOf, .inl (E.2.1 1, 432, .inl f_factsOf)), (m_possible, .inl (E.2.1 1, 1728, .inl f_possible)), (m_heaps, .inl (E.2.1 1, 2400, .inl f_heaps)), (m_led, .inl (E.2.1 2, 192, .inr (.inl f_led)))]) C hT [5, 6, 0, 1, 2, 3, 4] rfl rfl rfl rfl dX12_depth_17 (⟨q_rounds, q_heapMany, f_heaps, f_led, rfl, (Or.inl ⟨(show v0.toInt < 0 ∨ (cN f_manys 0 : Int) ≤ v0.toInt ∨ v1.toInt < 0 ∨ (cN f_manys 0 : Int) ≤ v1.toInt by omega), rfl⟩)⟩)
end
section
theorem or0c {bs x z : Int32} {NN : Nat → Nat} {i : Nat} (h : CLx bs NN i x) (hb : bt bs i = false) (e : x ||| (0 : Int32) = z) : CLx bs NN (i + 1) z := by rw [or0 e]; exact CLx.f h hb
theorem dX12_melt_0 : decode cX12_melt 0 = .ok (.aload_n 0, 1) := dl_42 (by decide +kernel)
theorem dX12_melt_1 : decode cX12_melt 1 = .ok (.getfield 7, 3) := dl_180 (by decide +kernel)
theorem dX12_melt_4 : decode cX12_melt 4 = .ok (.iconst 0, 1) := dl_3 (by decide +kernel)
theorem dX12_melt_5 : decode cX12_melt 5 = .ok (.iaload, 1) := dl_46 (by decide +kernel)
theorem dX12_melt_6 : decode cX12_melt 6 = .ok (.ifCond .ne 6, 3) := dl_154 (by decide +kernel)
theorem dX12_melt_12 : decode cX12_melt 12 = .ok (.aload_n 0, 1) := dl_42 (by decide +kernel)
theorem dX12_melt_13 : decode cX12_melt 13 = .ok (.iconst 0, 1) := dl_3 (by decide +kernel)
theorem dX12_melt_14 : decode cX12_melt 14 = .ok (.bipush (-4), 2) := dl_16 (by decide +kernel)
theorem dX12_melt_16 : decode cX12_melt 16 = .ok (.invokevirtual 298, 3) := dl_182 (by decide +kernel)
theorem dX12_melt_19 : decode cX12_melt 19 = .ok (.aload_n 0, 1) := dl_42 (by decide +kernel)
theorem dX12_melt_20 : decode cX12_melt 20 = .ok (.invokevirtual 121, 3) := dl_182 (by decide +kernel)
theorem dX12_melt_23 : decode cX12_melt 23 = .ok (.aload_n 0, 1) := dl_42 (by decide +kernel)
theorem dX12_melt_24 : decode cX12_melt 24 = .ok (.iconst 0, 1) := dl_3 (by decide +kernel)
theorem dX12_melt_25 : decode cX12_melt 25 = .ok (.iconst 1, 1) := dl_4 (by decide +kernel)
theorem dX12_melt_26 : decode cX12_melt 26 = .ok (.invokevirtual 109, 3) := dl_182 (by decide +kernel)
theorem dX12_melt_29 : decode cX12_melt 29 = .ok (.iconst 0, 1) := dl_3 (by decide +kernel)
theorem dX12_melt_30 : decode cX12_melt 30 = .ok (.istore_n 1, 1) := dl_60 (by decide +kernel)
theorem dX12_melt_31 : decode cX12_melt 31 = .ok (.iconst 0, 1) := dl_3 (by decide +kernel)
theorem dX12_melt_32 : decode cX12_melt 32 = .ok (.istore_n 2, 1) := dl_61 (by decide +kernel)
theorem dX12_melt_33 : decode cX12_melt 33 = .ok (.iload_n 2, 1) := dl_28 (by decide +kernel)
theorem dX12_melt_34 : decode cX12_melt 34 = .ok (.aload_n 0, 1) := dl_42 (by decide +kernel)
theorem dX12_melt_35 : decode cX12_melt 35 = .ok (.getfield 7, 3) := dl_180 (by decide +kernel)
theorem dX12_melt_38 : decode cX12_melt 38 = .ok (.iconst 1, 1) := dl_4 (by decide +kernel)
theorem dX12_melt_39 : decode cX12_melt 39 = .ok (.iaload, 1) := dl_46 (by decide +kernel)
theorem dX12_melt_40 : decode cX12_melt 40 = .ok (.if_icmp .ge 28, 3) := dl_162 (by decide +kernel)
theorem dX12_melt_68 : decode cX12_melt 68 = .ok (.iconst 0, 1) := dl_3 (by decide +kernel)
theorem dX12_melt_69 : decode cX12_melt 69 = .ok (.istore_n 2, 1) := dl_61 (by decide +kernel)
theorem dX12_melt_70 : decode cX12_melt 70 = .ok (.iload_n 2, 1) := dl_28 (by decide +kernel)
theorem dX12_melt_71 : decode cX12_melt 71 = .ok (.aload_n 0, 1) := dl_42 (by decide +kernel)
theorem dX12_melt_72 : decode cX12_melt 72 = .ok (.getfield 7, 3) := dl_180 (by decide +kernel)
theorem dX12_melt_75 : decode cX12_melt 75 = .ok (.iconst 1, 1) := dl_4 (by decide +kernel)
theorem dX12_melt_76 : decode cX12_melt 76 = .ok (.iaload, 1) := dl_46 (by decide +kernel)
theorem dX12_melt_77 : decode cX12_melt 77 = .ok (.if_icmp .ge 130, 3) := dl_162 (by decide +kernel)
theorem dX12_melt_207 : decode cX12_melt 207 = .ok (.aload_n 0, 1) := dl_42 (by decide +kernel)
theorem dX12_melt_208 : decode cX12_melt 208 = .ok (.getfield 13, 3) := dl_180 (by decide +kernel)
theorem dX12_melt_211 : decode cX12_melt 211 = .ok (.iconst 0, 1) := dl_3 (by decide +kernel)
theorem dX12_melt_212 : decode cX12_melt 212 = .ok (.aload_n 0, 1) := dl_42 (by decide +kernel)
theorem dX12_melt_213 : decode cX12_melt 213 = .ok (.getfield 81, 3) := dl_180 (by decide +kernel)
theorem wf_X12_81 : Cond.fieldLink RX12 81 RX12 "newAt" "[I" ∈ TB := tbm (tq5 (List.mem_of_getElem? (i := 114) (by decide +kernel))) (by decide +kernel)
theorem fg_X12_81 : FG RX12 81 12 36 := ⟨RX12, TX12, 45, uw_X12, wf_X12_81, rfl, by decide, rfl⟩
theorem dX12_melt_216 : decode cX12_melt 216 = .ok (.aload_n 0, 1) := dl_42 (by decide +kernel)
theorem dX12_melt_217 : decode cX12_melt 217 = .ok (.aload_n 0, 1) := dl_42 (by decide +kernel)
theorem dX12_melt_218 : decode cX12_melt 218 = .ok (.getfield 13, 3) := dl_180 (by decide +kernel)
theorem dX12_melt_221 : decode cX12_melt 221 = .ok (.iconst 1, 1) := dl_4 (by decide +kernel)
theorem dX12_melt_222 : decode cX12_melt 222 = .ok (.iaload, 1) := dl_46 (by decide +kernel)
theorem dX12_melt_223 : decode cX12_melt 223 = .ok (.invokevirtual 301, 3) := dl_182 (by decide +kernel)
theorem dX12_melt_226 : decode cX12_melt 226 = .ok (.iaload, 1) := dl_46 (by decide +kernel)
theorem dX12_melt_227 : decode cX12_melt 227 = .ok (.iastore, 1) := dl_79 (by decide +kernel)
theorem dX12_melt_228 : decode cX12_melt 228 = .ok (.aload_n 0, 1) := dl_42 (by decide +kernel)
theorem dX12_melt_229 : decode cX12_melt 229 = .ok (.getfield 7, 3) := dl_180 (by decide +kernel)
theorem dX12_melt_232 : decode cX12_melt 232 = .ok (.iconst 0, 1) := dl_3 (by decide +kernel)
theorem dX12_melt_233 : decode cX12_melt 233 = .ok (.iload_n 1, 1) := dl_27 (by decide +kernel)
theorem dX12_melt_234 : decode cX12_melt 234 = .ok (.iastore, 1) := dl_79 (by decide +kernel)
theorem dX12_melt_235 : decode cX12_melt 235 = .ok (.iload_n 1, 1) := dl_27 (by decide +kernel)
theorem dX12_melt_236 : decode cX12_melt 236 = .ok (.ireturn, 1) := dl_172 (by decide +kernel)
theorem dX12_melt_80 : decode cX12_melt 80 = .ok (.aload_n 0, 1) := dl_42 (by decide +kernel)
theorem dX12_melt_81 : decode cX12_melt 81 = .ok (.iload_n 2, 1) := dl_28 (by decide +kernel)
theorem dX12_melt_82 : decode cX12_melt 82 = .ok (.invokevirtual 301, 3) := dl_182 (by decide +kernel)
theorem dX12_melt_85 : decode cX12_melt 85 = .ok (.iload_n 2, 1) := dl_28 (by decide +kernel)
theorem dX12_melt_86 : decode cX12_melt 86 = .ok (.if_icmp .ne 115, 3) := dl_160 (by decide +kernel)
theorem dX12_melt_201 : decode cX12_melt 201 = .ok (.iinc 2 1, 3) := dl_132 (by decide +kernel)
theorem dX12_melt_204 : decode cX12_melt 204 = .ok (.goto (-134), 3) := dl_167 (by decide +kernel)
theorem dX12_melt_89 : decode cX12_melt 89 = .ok (.aload_n 0, 1) := dl_42 (by decide +kernel)
theorem dX12_melt_90 : decode cX12_melt 90 = .ok (.getfield 16, 3) := dl_180 (by decide +kernel)
theorem dX12_melt_93 : decode cX12_melt 93 = .ok (.aload_n 0, 1) := dl_42 (by decide +kernel)
theorem dX12_melt_94 : decode cX12_melt 94 = .ok (.getfield 81, 3) := dl_180 (by decide +kernel)
theorem dX12_melt_97 : decode cX12_melt 97 = .ok (.iload_n 2, 1) := dl_28 (by decide +kernel)
theorem dX12_melt_98 : decode cX12_melt 98 = .ok (.iaload, 1) := dl_46 (by decide +kernel)
theorem dX12_melt_99 : decode cX12_melt 99 = .ok (.aload_n 0, 1) := dl_42 (by decide +kernel)
theorem dX12_melt_100 : decode cX12_melt 100 = .ok (.getfield 16, 3) := dl_180 (by decide +kernel)
theorem dX12_melt_103 : decode cX12_melt 103 = .ok (.bipush 24, 2) := dl_16 (by decide +kernel)
theorem dX12_melt_105 : decode cX12_melt 105 = .ok (.iload_n 2, 1) := dl_28 (by decide +kernel)
theorem dX12_melt_106 : decode cX12_melt 106 = .ok (.iadd, 1) := dl_96 (by decide +kernel)
theorem dX12_melt_107 : decode cX12_melt 107 = .ok (.iaload, 1) := dl_46 (by decide +kernel)
theorem dX12_melt_108 : decode cX12_melt 108 = .ok (.iastore, 1) := dl_79 (by decide +kernel)
theorem dX12_melt_109 : decode cX12_melt 109 = .ok (.iconst 0, 1) := dl_3 (by decide +kernel)
theorem dX12_melt_110 : decode cX12_melt 110 = .ok (.istore_n 3, 1) := dl_62 (by decide +kernel)
theorem dX12_melt_111 : decode cX12_melt 111 = .ok (.iload_n 3, 1) := dl_29 (by decide +kernel)
theorem dX12_melt_112 : decode cX12_melt 112 = .ok (.iconst 4, 1) := dl_7 (by decide +kernel)
theorem dX12_melt_113 : decode cX12_melt 113 = .ok (.if_icmp .ge 88, 3) := dl_162 (by decide +kernel)
theorem dX12_melt_116 : decode cX12_melt 116 = .ok (.iconst 0, 1) := dl_3 (by decide +kernel)
theorem dX12_melt_117 : decode cX12_melt 117 = .ok (.istore 4, 2) := dl_54 (by decide +kernel)
theorem dX12_melt_119 : decode cX12_melt 119 = .ok (.iconst 0, 1) := dl_3 (by decide +kernel)
theorem dX12_melt_120 : decode cX12_melt 120 = .ok (.istore 5, 2) := dl_54 (by decide +kernel)
theorem dX12_melt_122 : decode cX12_melt 122 = .ok (.iload 5, 2) := dl_21 (by decide +kernel)
theorem dX12_melt_124 : decode cX12_melt 124 = .ok (.aload_n 0, 1) := dl_42 (by decide +kernel)
theorem dX12_melt_125 : decode cX12_melt 125 = .ok (.getfield 7, 3) := dl_180 (by decide +kernel)
theorem dX12_melt_128 : decode cX12_melt 128 = .ok (.iconst 1, 1) := dl_4 (by decide +kernel)
theorem dX12_melt_129 : decode cX12_melt 129 = .ok (.iaload, 1) := dl_46 (by decide +kernel)
theorem dX12_melt_130 : decode cX12_melt 130 = .ok (.if_icmp .ge 47, 3) := dl_162 (by decide +kernel)
theorem dX12_melt_177 : decode cX12_melt 177 = .ok (.aload_n 0, 1) := dl_42 (by decide +kernel)
theorem dX12_melt_178 : decode cX12_melt 178 = .ok (.getfield 19, 3) := dl_180 (by decide +kernel)
theorem dX12_melt_181 : decode cX12_melt 181 = .ok (.bipush 24, 2) := dl_16 (by decide +kernel)
theorem dX12_melt_183 : decode cX12_melt 183 = .ok (.iload_n 3, 1) := dl_29 (by decide +kernel)
theorem dX12_melt_184 : decode cX12_melt 184 = .ok (.imul, 1) := dl_104 (by decide +kernel)
theorem dX12_melt_185 : decode cX12_melt 185 = .ok (.aload_n 0, 1) := dl_42 (by decide +kernel)
theorem dX12_melt_186 : decode cX12_melt 186 = .ok (.getfield 81, 3) := dl_180 (by decide +kernel)
theorem dX12_melt_189 : decode cX12_melt 189 = .ok (.iload_n 2, 1) := dl_28 (by decide +kernel)
theorem dX12_melt_190 : decode cX12_melt 190 = .ok (.iaload, 1) := dl_46 (by decide +kernel)
theorem dX12_melt_191 : decode cX12_melt 191 = .ok (.iadd, 1) := dl_96 (by decide +kernel)
theorem dX12_melt_192 : decode cX12_melt 192 = .ok (.iload 4, 2) := dl_21 (by decide +kernel)
theorem dX12_melt_194 : decode cX12_melt 194 = .ok (.iastore, 1) := dl_79 (by decide +kernel)
theorem dX12_melt_195 : decode cX12_melt 195 = .ok (.iinc 3 1, 3) := dl_132 (by decide +kernel)
theorem dX12_melt_198 : decode cX12_melt 198 = .ok (.goto (-87), 3) := dl_167 (by decide +kernel)
theorem dX12_melt_133 : decode cX12_melt 133 = .ok (.iload 4, 2) := dl_21 (by decide +kernel)
theorem dX12_melt_135 : decode cX12_melt 135 = .ok (.aload_n 0, 1) := dl_42 (by decide +kernel)
theorem dX12_melt_136 : decode cX12_melt 136 = .ok (.iconst 1, 1) := dl_4 (by decide +kernel)
theorem dX12_melt_137 : decode cX12_melt 137 = .ok (.iload_n 3, 1) := dl_29 (by decide +kernel)
theorem dX12_melt_138 : decode cX12_melt 138 = .ok (.iload_n 2, 1) := dl_28 (by decide +kernel)
theorem dX12_melt_139 : decode cX12_melt 139 = .ok (.invokevirtual 135, 3) := dl_182 (by decide +kernel)
theorem dX12_melt_142 : decode cX12_melt 142 = .ok (.iload 5, 2) := dl_21 (by decide +kernel)
theorem dX12_melt_144 : decode cX12_melt 144 = .ok (.ishr, 1) := dl_122 (by decide +kernel)
theorem dX12_melt_145 : decode cX12_melt 145 = .ok (.iconst 1, 1) := dl_4 (by decide +kernel)
theorem dX12_melt_146 : decode cX12_melt 146 = .ok (.iand, 1) := dl_126 (by decide +kernel)
theorem dX12_melt_147 : decode cX12_melt 147 = .ok (.iconst 1, 1) := dl_4 (by decide +kernel)
theorem dX12_melt_148 : decode cX12_melt 148 = .ok (.if_icmp .ne 19, 3) := dl_160 (by decide +kernel)
theorem dX12_melt_167 : decode cX12_melt 167 = .ok (.iconst 0, 1) := dl_3 (by decide +kernel)
theorem dX12_melt_168 : decode cX12_melt 168 = .ok (.ior, 1) := dl_128 (by decide +kernel)
theorem dX12_melt_169 : decode cX12_melt 169 = .ok (.istore 4, 2) := dl_54 (by decide +kernel)
theorem dX12_melt_171 : decode cX12_melt 171 = .ok (.iinc 5 1, 3) := dl_132 (by decide +kernel)
theorem dX12_melt_174 : decode cX12_melt 174 = .ok (.goto (-52), 3) := dl_167 (by decide +kernel)
theorem dX12_melt_151 : decode cX12_melt 151 = .ok (.iconst 1, 1) := dl_4 (by decide +kernel)
theorem dX12_melt_152 : decode cX12_melt 152 = .ok (.aload_n 0, 1) := dl_42 (by decide +kernel)
theorem dX12_melt_153 : decode cX12_melt 153 = .ok (.getfield 81, 3) := dl_180 (by decide +kernel)
theorem dX12_melt_156 : decode cX12_melt 156 = .ok (.aload_n 0, 1) := dl_42 (by decide +kernel)
theorem dX12_melt_157 : decode cX12_melt 157 = .ok (.iload 5, 2) := dl_21 (by decide +kernel)
theorem dX12_melt_159 : decode cX12_melt 159 = .ok (.invokevirtual 301, 3) := dl_182 (by decide +kernel)
theorem dX12_melt_162 : decode cX12_melt 162 = .ok (.iaload, 1) := dl_46 (by decide +kernel)
theorem dX12_melt_163 : decode cX12_melt 163 = .ok (.ishl, 1) := dl_120 (by decide +kernel)
theorem dX12_melt_164 : decode cX12_melt 164 = .ok (.goto 4, 3) := dl_167 (by decide +kernel)
theorem dX12_melt_43 : decode cX12_melt 43 = .ok (.aload_n 0, 1) := dl_42 (by decide +kernel)
theorem dX12_melt_44 : decode cX12_melt 44 = .ok (.iload_n 2, 1) := dl_28 (by decide +kernel)
theorem dX12_melt_45 : decode cX12_melt 45 = .ok (.invokevirtual 301, 3) := dl_182 (by decide +kernel)
theorem dX12_melt_48 : decode cX12_melt 48 = .ok (.iload_n 2, 1) := dl_28 (by decide +kernel)
theorem dX12_melt_49 : decode cX12_melt 49 = .ok (.if_icmp .ne 13, 3) := dl_160 (by decide +kernel)
theorem dX12_melt_62 : decode cX12_melt 62 = .ok (.iinc 2 1, 3) := dl_132 (by decide +kernel)
theorem dX12_melt_65 : decode cX12_melt 65 = .ok (.goto (-32), 3) := dl_167 (by decide +kernel)
theorem dX12_melt_52 : decode cX12_melt 52 = .ok (.aload_n 0, 1) := dl_42 (by decide +kernel)
theorem dX12_melt_53 : decode cX12_melt 53 = .ok (.getfield 81, 3) := dl_180 (by decide +kernel)
theorem dX12_melt_56 : decode cX12_melt 56 = .ok (.iload_n 2, 1) := dl_28 (by decide +kernel)
theorem dX12_melt_57 : decode cX12_melt 57 = .ok (.iload_n 1, 1) := dl_27 (by decide +kernel)
theorem dX12_melt_58 : decode cX12_melt 58 = .ok (.iastore, 1) := dl_79 (by decide +kernel)
theorem dX12_melt_59 : decode cX12_melt 59 = .ok (.iinc 1 1, 3) := dl_132 (by decide +kernel)
theorem dX12_melt_9 : decode cX12_melt 9 = .ok (.bipush (-2), 2) := dl_16 (by decide +kernel)
theorem dX12_melt_11 : decode cX12_melt 11 = .ok (.ireturn, 1) := dl_172 (by decide +kernel)
set_option maxRecDepth 100000 in
set_option maxHeartbeats 4000000 in
theorem y_melt (l : Launch) (E : EV) (ro : va_W) (hm : Nat) (m_manys : Nat) (m_reals : Nat) (m_factsOf : Nat) (m_possible : Nat) (q_undos : Nat) (q_models : Nat) (m_tape : Nat) (q_taped : Nat) (q_fault : Int32) (q_wrong : Int32) (q_wrongAt : Int32) (q_spot : Int32) (q_place : Int32) (q_token : Int32) (q_value : Int32) (m_ends : Nat) (m_letters : Nat) (m_actOf : Nat) (m_whom : Nat) (m_actMany : Nat) (m_tokens : Nat) (m_afters : Nat) (m_afterOf : Nat) (q_counted : Int32) (m_pile : Nat) (m_caseMany : Nat) (m_happen : Nat) (m_hasIf : Nat) (m_becomes : Nat) (m_goneOf : Nat) (m_heard : Nat) (m_pairs : Nat) (m_heaps : Nat) (q_rounds : Int32) (q_heapMany : Int32) (m_led : Nat) (m_newAt : Nat) (m_knowing : Nat) (m_firsts : Nat) (q_people : Nat) (m_secrets : Nat) (m_tried : Nat) (m_lanes : Nat) (m_lengths : Nat) (m_cells : Nat) (f_manys : Nat → Int32) (f_reals : Nat → Int32) (f_factsOf : Nat → Int32) (f_possible : Nat → Int32) (f_heaps : Nat → Int32) (f_led : Nat → Int64) (f_newAt : Nat → Int32) (hb_manys : NB 18 24 f_manys) (hb_reals : NB 18 23 f_reals) (hpg : PG f_manys f_reals) (hwf : WFP (pgs f_manys f_reals f_factsOf f_possible)) (hq_undos : q_undos ≤ 8) : CT l yX12_melt (Cond.code yX12_melt cX12_melt 6 (some .int) :: TB) ({ frames := 3, cells := 0, slots := 0, locals := 78 }) E ro [.ref hm] [(hm, .inr (12, [.ref m_manys, .ref m_reals, .ref m_factsOf, .ref m_possible, .int (nI q_undos), .int (nI q_models), .ref m_tape, .int (nI q_taped), .int q_fault, .int q_wrong, .int q_wrongAt, .int q_spot, .int q_place, .int q_token, .int q_value, .ref m_ends, .ref m_letters, .ref m_actOf, .ref m_whom, .ref m_actMany, .ref m_tokens, .ref m_afters, .ref m_afterOf, .int q_counted, .ref m_pile, .ref m_caseMany, .ref m_happen, .ref m_hasIf, .ref m_becomes, .ref m_goneOf, .ref m_heard, .ref m_pairs, .ref m_heaps, .int q_rounds, .int q_heapMany, .ref m_led, .ref m_newAt, .ref m_knowing, .ref m_firsts, .int (nI q_people), .ref m_secrets, .ref m_tried, .ref m_lanes, .ref m_lengths, .ref m_cells])), (m_manys, .inl (E.2.1 1, 18, .inl f_manys)), (m_reals, .inl (E.2.1 1, 18, .inl f_reals)), (m_factsOf, .inl (E.2.1 1, 432, .inl f_factsOf)), (m_possible, .inl (E.2.1 1, 1728, .inl f_possible)), (m_heaps, .inl (E.2.1 1, 2400, .inl f_heaps)), (m_led, .inl (E.2.1 2, 192, .inr (.inl f_led))), (m_newAt, .inl (E.2.1 1, 24, .inl f_newAt))] (Qi E (fun (rz : Int32) uz => (∃ (uz_ : Nat) (rz_ : Int32) (hmz : Int32) (f_manysz : Nat → Int32) (f_realsz : Nat → Int32) (f_factsOfz : Nat → Int32) (f_possiblez : Nat → Int32) (f_heapsz : Nat → Int32) (f_ledz : Nat → Int64) (f_newAtz : Nat → Int32), uz = [(hm, .inr (12, [.ref m_manys, .ref m_reals, .ref m_factsOf, .ref m_possible, .int (nI uz_), .int (nI q_models), .ref m_tape, .int (nI q_taped), .int q_fault, .int q_wrong, .int q_wrongAt, .int q_spot, .int q_place, .int q_token, .int q_value, .ref m_ends, .ref m_letters, .ref m_actOf, .ref m_whom, .ref m_actMany, .ref m_tokens, .ref m_afters, .ref m_afterOf, .int q_counted, .ref m_pile, .ref m_caseMany, .ref m_happen, .ref m_hasIf, .ref m_becomes, .ref m_goneOf, .ref m_heard, .ref m_pairs, .ref m_heaps, .int rz_, .int hmz, .ref m_led, .ref m_newAt, .ref m_knowing, .ref m_firsts, .int (nI q_people), .ref m_secrets, .ref m_tried, .ref m_lanes, .ref m_lengths, .ref m_cells])), (m_manys, .inl (E.2.1 1, 18, .inl f_manysz)), (m_reals, .inl (E.2.1 1, 18, .inl f_realsz)), (m_factsOf, .inl (E.2.1 1, 432, .inl f_factsOfz)), (m_possible, .inl (E.2.1 1, 1728, .inl f_possiblez)), (m_heaps, .inl (E.2.1 1, 2400, .inl f_heapsz)), (m_led, .inl (E.2.1 2, 192, .inr (.inl f_ledz))), (m_newAt, .inl (E.2.1 1, 24, .inl f_newAtz))] ∧ (NB 18 24 f_manysz) ∧ (NB 18 23 f_realsz) ∧ (PG f_manysz f_realsz) ∧ (WFP (pgs f_manysz f_realsz f_factsOfz f_possiblez)) ∧ (uz_ ≤ 8) ∧ ((asM uz_ (pgs f_manysz f_realsz f_factsOfz f_possiblez), rz) = opMelt (asM q_undos (pgs f_manys f_reals f_factsOf f_possible))) ∧ (KP6 (pgs f_manys f_reals f_factsOf f_possible) (pgs f_manysz f_realsz f_factsOfz f_possiblez))))) 0 0 := by
  refine ct_of rfl rfl ?_
  intro X C hT hin hro
  show WW X 6 E 0 [(0, .ref hm)] [] [(hm, .inr (12, [.ref m_manys, .ref m_reals, .ref m_factsOf, .ref m_possible, .int (nI q_undos), .int (nI q_models), .ref m_tape, .int (nI q_taped), .int q_fault, .int q_wrong, .int q_wrongAt, .int q_spot, .int q_place, .int q_token, .int q_value, .ref m_ends, .ref m_letters, .ref m_actOf, .ref m_whom, .ref m_actMany, .ref m_tokens, .ref m_afters, .ref m_afterOf, .int q_counted, .ref m_pile, .ref m_caseMany, .ref m_happen, .ref m_hasIf, .ref m_becomes, .ref m_goneOf, .ref m_heard, .ref m_pairs, .ref m_heaps, .int q_rounds, .int q_heapMany, .ref m_led, .ref m_newAt, .ref m_knowing, .ref m_firsts, .int (nI q_people), .ref m_secrets, .ref m_tried, .ref m_lanes, .ref m_lengths, .ref m_cells])), (m_manys, .inl (E.2.1 1, 18, .inl f_manys)), (m_reals, .inl (E.2.1 1, 18, .inl f_reals)), (m_factsOf, .inl (E.2.1 1, 432, .inl f_factsOf)), (m_possible, .inl (E.2.1 1, 1728, .inl f_possible)), (m_heaps, .inl (E.2.1 1, 2400, .inl f_heaps)), (m_led, .inl (E.2.1 2, 192, .inr (.inl f_led))), (m_newAt, .inl (E.2.1 1, 24, .inl f_newAt))] 0 0
  have hmn0 := (hb_manys 0 (by omega)).2
  have hpg0 := hpg 0 (by omega)
  refine ww_aload_n C dX12_melt_0 0 rfl rfl ?_
  refine ww_get C fg_X12_7 0 rfl rfl dX12_melt_1 ?_
  refine ww_iconst (v := 0) C dX12_melt_4 rfl ?_
  have hbx_1 := (hb_manys 0 (by omega)).2
  refine ww_iald (v := (nI (cN f_manys 0))) C 1 rfl (vin rfl) (hb_manys 0 (by omega)).1 dX12_melt_5 ?_
  refine ww_if_ne (tgt := 12) C dX12_melt_6 (by decide) (fun c_2 => ?_) (fun c_2 => ?_)
  · have zc_2 : ((cN f_manys 0 : Nat) : Int) ≠ 0 := i_ne (nI_toInt (n := cN f_manys 0) (by omega)) rfl c_2
    refine ww_aload_n C dX12_melt_12 0 rfl rfl ?_
    refine ww_iconst (v := 0) C dX12_melt_13 rfl ?_
    refine ww_bipush (v := (-4)) C dX12_melt_14 rfl ?_
    refine ww_cv (wr := [(m_newAt, .inl (E.2.1 1, 24, .inl f_newAt))]) (k' := 0) (n' := 0) C (run_V (As := [.int 0, .int (-4)]) (rest := []) C (r_layHeapsN X.2.1 E ro hm m_manys m_reals m_factsOf m_possible q_undos q_models m_tape q_taped q_fault q_wrong q_wrongAt q_spot q_place q_token q_value m_ends m_letters m_actOf m_whom m_actMany m_tokens m_afters m_afterOf q_counted m_pile m_caseMany m_happen m_hasIf m_becomes m_goneOf m_heard m_pairs m_heaps q_rounds q_heapMany m_led m_newAt m_knowing m_firsts q_people m_secrets m_tried m_lanes m_lengths m_cells f_manys f_reals f_factsOf f_possible f_heaps f_led hb_manys hb_reals hpg hwf) mi_X12_layHeaps wl_X12_298 rfl 0 12 rfl rfl rfl rfl rfl dX12_melt_16) (roK hro) [0, 1, 2, 3, 4, 5, 6] [7] rfl rfl (plk (by decide +kernel)) rfl (fun uz hw => ?_)
    refine ex4 hw ?_
    clear hw
    intro rz__4 hmz_5 f_heapsz_6 f_ledz_7 hw
    refine an5 hw ?_
    clear hw
    intro he_13 h_8 h_9 h_10 h_11 hw
    have h_12 := hw
    clear hw
    subst he_13
    refine ww_eq (ws' := [(m_newAt, .inl (E.2.1 1, 24, .inl f_newAt)), (hm, .inr (12, [.ref m_manys, .ref m_reals, .ref m_factsOf, .ref m_possible, .int (nI q_undos), .int (nI q_models), .ref m_tape, .int (nI q_taped), .int q_fault, .int q_wrong, .int q_wrongAt, .int q_spot, .int q_place, .int q_token, .int q_value, .ref m_ends, .ref m_letters, .ref m_actOf, .ref m_whom, .ref m_actMany, .ref m_tokens, .ref m_afters, .ref m_afterOf, .int q_counted, .ref m_pile, .ref m_caseMany, .ref m_happen, .ref m_hasIf, .ref m_becomes, .ref m_goneOf, .ref m_heard, .ref m_pairs, .ref m_heaps, .int (nI rz__4), .int (nI hmz_5), .ref m_led, .ref m_newAt, .ref m_knowing, .ref m_firsts, .int (nI q_people), .ref m_secrets, .ref m_tried, .ref m_lanes, .ref m_lengths, .ref m_cells])), (m_manys, .inl (E.2.1 1, 18, .inl f_manys)), (m_reals, .inl (E.2.1 1, 18, .inl f_reals)), (m_factsOf, .inl (E.2.1 1, 432, .inl f_factsOf)), (m_possible, .inl (E.2.1 1, 1728, .inl f_possible)), (m_heaps, .inl (E.2.1 1, 2400, .inl f_heapsz_6)), (m_led, .inl (E.2.1 2, 192, .inr (.inl f_ledz_7)))]) ?_ rfl rfl rfl
    have hre := (RST.end h_12 (cm1_wf (hwf 0 (by omega))) h_11)
    refine ww_aload_n C dX12_melt_19 0 rfl rfl ?_
    refine ww_cv (wr := [(m_newAt, .inl (E.2.1 1, 24, .inl f_newAt)), (m_heaps, .inl (E.2.1 1, 2400, .inl f_heapsz_6)), (m_led, .inl (E.2.1 2, 192, .inr (.inl f_ledz_7)))]) (k' := 0) (n' := 0) C (run_V (As := []) (rest := []) C (r_acts X.2.1 E ro hm m_manys m_reals m_factsOf m_possible q_undos q_models m_tape q_taped q_fault q_wrong q_wrongAt q_spot q_place q_token q_value m_ends m_letters m_actOf m_whom m_actMany m_tokens m_afters m_afterOf q_counted m_pile m_caseMany m_happen m_hasIf m_becomes m_goneOf m_heard m_pairs m_heaps (nI rz__4) (nI hmz_5) m_led m_newAt m_knowing m_firsts q_people m_secrets m_tried m_lanes m_lengths m_cells f_manys f_reals f_factsOf f_possible hb_manys hb_reals hpg hwf (by omega)) mi_X12_acts wl_X12_121 rfl 0 12 rfl rfl rfl rfl rfl dX12_melt_20) (roK hro) [1, 2, 3, 4, 5] [0, 6, 7] rfl rfl (plk (by decide +kernel)) rfl (fun uz hw => ?_)
    refine ex5 hw ?_
    clear hw
    intro uz__15 f_manysz_16 f_realsz_17 f_factsOfz_18 f_possiblez_19 hw
    refine an8 hw ?_
    clear hw
    intro he_30 h_20 h_21 h_22 h_23 h_24 h_25 h_26 hw
    refine an2 hw ?_
    clear hw
    intro h_27 h_28 hw
    have h_29 := hw
    clear hw
    subst he_30
    refine ww_eq (ws' := [(m_newAt, .inl (E.2.1 1, 24, .inl f_newAt)), (m_heaps, .inl (E.2.1 1, 2400, .inl f_heapsz_6)), (m_led, .inl (E.2.1 2, 192, .inr (.inl f_ledz_7))), (hm, .inr (12, [.ref m_manys, .ref m_reals, .ref m_factsOf, .ref m_possible, .int (nI uz__15), .int (nI q_models), .ref m_tape, .int (nI q_taped), .int q_fault, .int q_wrong, .int q_wrongAt, .int q_spot, .int q_place, .int q_token, .int q_value, .ref m_ends, .ref m_letters, .ref m_actOf, .ref m_whom, .ref m_actMany, .ref m_tokens, .ref m_afters, .ref m_afterOf, .int q_counted, .ref m_pile, .ref m_caseMany, .ref m_happen, .ref m_hasIf, .ref m_becomes, .ref m_goneOf, .ref m_heard, .ref m_pairs, .ref m_heaps, .int (nI rz__4), .int (nI hmz_5), .ref m_led, .ref m_newAt, .ref m_knowing, .ref m_firsts, .int (nI q_people), .ref m_secrets, .ref m_tried, .ref m_lanes, .ref m_lengths, .ref m_cells])), (m_manys, .inl (E.2.1 1, 18, .inl f_manysz_16)), (m_reals, .inl (E.2.1 1, 18, .inl f_realsz_17)), (m_factsOf, .inl (E.2.1 1, 432, .inl f_factsOfz_18)), (m_possible, .inl (E.2.1 1, 1728, .inl f_possiblez_19))]) ?_ rfl rfl rfl
    have hmb := (h_20 0 (by omega)).2
    have hrb := (h_21 0 (by omega)).2
    refine ww_aload_n C dX12_melt_23 0 rfl rfl ?_
    refine ww_iconst (v := 0) C dX12_melt_24 rfl ?_
    refine ww_iconst (v := 1) C dX12_melt_25 rfl ?_
    refine ww_cv (wr := [(m_newAt, .inl (E.2.1 1, 24, .inl f_newAt)), (m_heaps, .inl (E.2.1 1, 2400, .inl f_heapsz_6)), (m_led, .inl (E.2.1 2, 192, .inr (.inl f_ledz_7)))]) (k' := 0) (n' := 0) C (run_V (As := [.int 0, .int 1]) (rest := []) C (r_copy X.2.1 E ro hm 0 1 m_manys m_reals m_factsOf m_possible uz__15 q_models m_tape q_taped q_fault q_wrong q_wrongAt q_spot q_place q_token q_value m_ends m_letters m_actOf m_whom m_actMany m_tokens m_afters m_afterOf q_counted m_pile m_caseMany m_happen m_hasIf m_becomes m_goneOf m_heard m_pairs m_heaps (nI rz__4) (nI hmz_5) m_led m_newAt m_knowing m_firsts q_people m_secrets m_tried m_lanes m_lengths m_cells f_manysz_16 f_realsz_17 f_factsOfz_18 f_possiblez_19 h_20 h_21 h_22 h_23 (by omega) (by omega)) mi_X12_copy wl_X12_109 rfl 0 12 rfl rfl rfl rfl rfl dX12_melt_26) (roK hro) [3, 4, 5, 6, 7] [0, 1, 2] rfl rfl (plk (by decide +kernel)) rfl (fun uz hw => ?_)
    refine ex4 hw ?_
    clear hw
    intro f_manysz_32 f_realsz_33 f_factsOfz_34 f_possiblez_35 hw
    refine an8 hw ?_
    clear hw
    intro he_45 h_36 h_37 h_38 h_39 h_40 h_41 h_42 hw
    refine an1 hw ?_
    clear hw
    intro h_43 hw
    have h_44 := hw
    clear hw
    subst he_45
    refine ww_eq (ws' := [(m_newAt, .inl (E.2.1 1, 24, .inl f_newAt)), (m_heaps, .inl (E.2.1 1, 2400, .inl f_heapsz_6)), (m_led, .inl (E.2.1 2, 192, .inr (.inl f_ledz_7))), (hm, .inr (12, [.ref m_manys, .ref m_reals, .ref m_factsOf, .ref m_possible, .int (nI uz__15), .int (nI q_models), .ref m_tape, .int (nI q_taped), .int q_fault, .int q_wrong, .int q_wrongAt, .int q_spot, .int q_place, .int q_token, .int q_value, .ref m_ends, .ref m_letters, .ref m_actOf, .ref m_whom, .ref m_actMany, .ref m_tokens, .ref m_afters, .ref m_afterOf, .int q_counted, .ref m_pile, .ref m_caseMany, .ref m_happen, .ref m_hasIf, .ref m_becomes, .ref m_goneOf, .ref m_heard, .ref m_pairs, .ref m_heaps, .int (nI rz__4), .int (nI hmz_5), .ref m_led, .ref m_newAt, .ref m_knowing, .ref m_firsts, .int (nI q_people), .ref m_secrets, .ref m_tried, .ref m_lanes, .ref m_lengths, .ref m_cells])), (m_manys, .inl (E.2.1 1, 18, .inl f_manysz_32)), (m_reals, .inl (E.2.1 1, 18, .inl f_realsz_33)), (m_factsOf, .inl (E.2.1 1, 432, .inl f_factsOfz_34)), (m_possible, .inl (E.2.1 1, 1728, .inl f_possiblez_35))]) ?_ rfl rfl rfl
    have hm1 := cN_s (by omega) h_40
    have hr1 := cN_s (by omega) h_41
    have hm10 := cN_n (j := 0) h_40 (by omega)
    have hkm := KP.at h_25 (p := 0) (by omega)
    have hkr := KP.at h_26 (p := 0) (by omega)
    have hp1 := (h_44 1 (by omega)).trans ((if_pos rfl).trans (REMS.p0 h_29))
    refine ww_iconst (v := 0) C dX12_melt_29 rfl ?_
    refine ww_istore_n (lv' := [(1, .int 0), (0, .ref hm)]) C dX12_melt_30 rfl rfl rfl ?_
    refine ww_iconst (v := 0) C dX12_melt_31 rfl ?_
    refine ww_istore_n (lv' := [(2, .int 0), (1, .int 0), (0, .ref hm)]) C dX12_melt_32 rfl rfl rfl ?_
    have loop_33 : ∀ (fu : Nat) (w1 : Nat) (c1 : Nat) (g1 : Nat → Int32), (w1 ≤ cN f_manys 0) → (c1 ≤ w1) → (c1 = cb (mlP (pgs f_manys f_reals f_factsOf f_possible 0)) w1) → (MNx (mlP (pgs f_manys f_reals f_factsOf f_possible 0)) w1 g1) → cN f_manys 0 - w1 < fu → WW X 6 E 33 [(2, .int (nI w1)), (1, .int (nI c1)), (0, .ref hm)] [] [(m_newAt, .inl (E.2.1 1, 24, .inl g1)), (m_heaps, .inl (E.2.1 1, 2400, .inl f_heapsz_6)), (m_led, .inl (E.2.1 2, 192, .inr (.inl f_ledz_7))), (hm, .inr (12, [.ref m_manys, .ref m_reals, .ref m_factsOf, .ref m_possible, .int (nI uz__15), .int (nI q_models), .ref m_tape, .int (nI q_taped), .int q_fault, .int q_wrong, .int q_wrongAt, .int q_spot, .int q_place, .int q_token, .int q_value, .ref m_ends, .ref m_letters, .ref m_actOf, .ref m_whom, .ref m_actMany, .ref m_tokens, .ref m_afters, .ref m_afterOf, .int q_counted, .ref m_pile, .ref m_caseMany, .ref m_happen, .ref m_hasIf, .ref m_becomes, .ref m_goneOf, .ref m_heard, .ref m_pairs, .ref m_heaps, .int (nI rz__4), .int (nI hmz_5), .ref m_led, .ref m_newAt, .ref m_knowing, .ref m_firsts, .int (nI q_people), .ref m_secrets, .ref m_tried, .ref m_lanes, .ref m_lengths, .ref m_cells])), (m_manys, .inl (E.2.1 1, 18, .inl f_manysz_32)), (m_reals, .inl (E.2.1 1, 18, .inl f_realsz_33)), (m_factsOf, .inl (E.2.1 1, 432, .inl f_factsOfz_34)), (m_possible, .inl (E.2.1 1, 1728, .inl f_possiblez_35))] 0 0 := by
      intro fu
      induction fu with
      | zero => intro w1 c1 g1 hw1 hcw hc1 hmn hmeas; exact absurd hmeas (Nat.not_lt_zero _)
      | succ fu ih_33 =>
        intro w1 c1 g1 hw1 hcw hc1 hmn hmeas
        refine ww_iload_n C dX12_melt_33 0 rfl rfl ?_
        refine ww_aload_n C dX12_melt_34 2 rfl rfl ?_
        refine ww_get C fg_X12_7 3 rfl rfl dX12_melt_35 ?_
        refine ww_iconst (v := 1) C dX12_melt_38 rfl ?_
        have hbx_46 := (h_36 1 (by omega)).2
        refine ww_iald (v := (nI (cN f_manysz_32 1))) C 4 rfl (vin rfl) (h_36 1 (by omega)).1 dX12_melt_39 ?_
        refine ww_icmp_ge (tgt := 68) C dX12_melt_40 (by decide) (fun c_47 => ?_) (fun c_47 => ?_)
        · have zc_47 : ((w1 : Nat) : Int) ≥ ((cN f_manysz_32 1 : Nat) : Int) := i_le (nI_toInt (n := cN f_manysz_32 1) (by omega)) (nI_toInt (n := w1) (by omega)) c_47
          refine ww_iconst (v := 0) C dX12_melt_68 rfl ?_
          refine ww_istore_n (lv' := [(2, .int 0), (1, .int (nI c1)), (0, .ref hm)]) C dX12_melt_69 rfl rfl rfl ?_
          have hw1n : w1 = cN f_manys 0 := by omega
          rw [hw1n] at hmn hc1
          have hC24 := cb_le (mlP (pgs f_manys f_reals f_factsOf f_possible 0)) (cN f_manys 0)
          have loop_70 : ∀ (fu : Nat) (w2 : Nat) (g_fa : Nat → Int32) (g_po : Nat → Int32), (w2 ≤ cN f_manys 0) → (PFx (mlP (pgs f_manys f_reals f_factsOf f_possible 0)) w2 (pgs f_manys f_reals f_factsOf f_possible 0).2.2.1 g_fa) → (OFF 24 0 f_factsOfz_34 g_fa) → (PRy (mlP (pgs f_manys f_reals f_factsOf f_possible 0)) (cN f_manys 0) w2 0 (fun k p q => anyN (fun v => (pgs f_manys f_reals f_factsOf f_possible 0).2.2.2 k p v && decide (clsS (cm1 (pgs f_manys f_reals f_factsOf f_possible 0)) v = q)) 24) g_po) → (OFF 96 0 f_possiblez_35 g_po) → cN f_manys 0 - w2 < fu → WW X 6 E 70 [(2, .int (nI w2)), (1, .int (nI c1)), (0, .ref hm)] [] [(m_newAt, .inl (E.2.1 1, 24, .inl g1)), (m_heaps, .inl (E.2.1 1, 2400, .inl f_heapsz_6)), (m_led, .inl (E.2.1 2, 192, .inr (.inl f_ledz_7))), (hm, .inr (12, [.ref m_manys, .ref m_reals, .ref m_factsOf, .ref m_possible, .int (nI uz__15), .int (nI q_models), .ref m_tape, .int (nI q_taped), .int q_fault, .int q_wrong, .int q_wrongAt, .int q_spot, .int q_place, .int q_token, .int q_value, .ref m_ends, .ref m_letters, .ref m_actOf, .ref m_whom, .ref m_actMany, .ref m_tokens, .ref m_afters, .ref m_afterOf, .int q_counted, .ref m_pile, .ref m_caseMany, .ref m_happen, .ref m_hasIf, .ref m_becomes, .ref m_goneOf, .ref m_heard, .ref m_pairs, .ref m_heaps, .int (nI rz__4), .int (nI hmz_5), .ref m_led, .ref m_newAt, .ref m_knowing, .ref m_firsts, .int (nI q_people), .ref m_secrets, .ref m_tried, .ref m_lanes, .ref m_lengths, .ref m_cells])), (m_manys, .inl (E.2.1 1, 18, .inl f_manysz_32)), (m_reals, .inl (E.2.1 1, 18, .inl f_realsz_33)), (m_factsOf, .inl (E.2.1 1, 432, .inl g_fa)), (m_possible, .inl (E.2.1 1, 1728, .inl g_po))] 0 0 := by
            intro fu
            induction fu with
            | zero => intro w2 g_fa g_po hw2 hpf hof hpy hog hmeas; exact absurd hmeas (Nat.not_lt_zero _)
            | succ fu ih_70 =>
              intro w2 g_fa g_po hw2 hpf hof hpy hog hmeas
              refine ww_iload_n C dX12_melt_70 0 rfl rfl ?_
              refine ww_aload_n C dX12_melt_71 2 rfl rfl ?_
              refine ww_get C fg_X12_7 3 rfl rfl dX12_melt_72 ?_
              refine ww_iconst (v := 1) C dX12_melt_75 rfl ?_
              have hbx_48 := (h_36 1 (by omega)).2
              refine ww_iald (v := (nI (cN f_manysz_32 1))) C 4 rfl (vin rfl) (h_36 1 (by omega)).1 dX12_melt_76 ?_
              refine ww_icmp_ge (tgt := 207) C dX12_melt_77 (by decide) (fun c_49 => ?_) (fun c_49 => ?_)
              · have zc_49 : ((w2 : Nat) : Int) ≥ ((cN f_manysz_32 1 : Nat) : Int) := i_le (nI_toInt (n := cN f_manysz_32 1) (by omega)) (nI_toInt (n := w2) (by omega)) c_49
                refine ww_aload_n C dX12_melt_207 2 rfl rfl ?_
                refine ww_get C fg_X12_13 3 rfl rfl dX12_melt_208 ?_
                refine ww_iconst (v := 0) C dX12_melt_211 rfl ?_
                refine ww_aload_n C dX12_melt_212 2 rfl rfl ?_
                refine ww_get C fg_X12_81 3 rfl rfl dX12_melt_213 ?_
                refine ww_aload_n C dX12_melt_216 2 rfl rfl ?_
                refine ww_aload_n C dX12_melt_217 2 rfl rfl ?_
                refine ww_get C fg_X12_13 3 rfl rfl dX12_melt_218 ?_
                refine ww_iconst (v := 1) C dX12_melt_221 rfl ?_
                have hbx_50 := (h_37 1 (by omega)).2
                refine ww_iald (v := (nI (cN f_realsz_33 1))) C 5 rfl (vin rfl) (h_37 1 (by omega)).1 dX12_melt_222 ?_
                refine ww_ci (wr := [(m_newAt, .inl (E.2.1 1, 24, .inl g1)), (m_led, .inl (E.2.1 2, 192, .inr (.inl f_ledz_7))), (m_manys, .inl (E.2.1 1, 18, .inl f_manysz_32)), (m_reals, .inl (E.2.1 1, 18, .inl f_realsz_33)), (m_factsOf, .inl (E.2.1 1, 432, .inl g_fa)), (m_possible, .inl (E.2.1 1, 1728, .inl g_po))]) (k' := 0) (n' := 0) C (run_V (As := [.int (nI (cN f_realsz_33 1))]) (rest := [.ref m_newAt, .int 0, .ref m_reals]) C (r_heapOf X.2.1 E ro hm (cN f_realsz_33 1) m_manys m_reals m_factsOf m_possible uz__15 q_models m_tape q_taped q_fault q_wrong q_wrongAt q_spot q_place q_token q_value m_ends m_letters m_actOf m_whom m_actMany m_tokens m_afters m_afterOf q_counted m_pile m_caseMany m_happen m_hasIf m_becomes m_goneOf m_heard m_pairs m_heaps rz__4 (nI hmz_5) m_led m_newAt m_knowing m_firsts q_people m_secrets m_tried m_lanes m_lengths m_cells f_heapsz_6 (by omega) (by omega)) mi_X12_heapOf wl_X12_301 rfl 0 12 rfl rfl rfl rfl rfl dX12_melt_223) (roK hro) [3, 1] [0, 2, 4, 5, 6, 7] rfl rfl (plk (by decide +kernel)) rfl (fun r_51 uz hw => ?_)
                refine an1 hw ?_
                clear hw
                intro he_52 hw
                have he_53 := hw
                clear hw
                have he_52 := he_52.symm
                subst he_52
                subst he_53
                refine ww_eq (ws' := [(m_newAt, .inl (E.2.1 1, 24, .inl g1)), (m_led, .inl (E.2.1 2, 192, .inr (.inl f_ledz_7))), (m_manys, .inl (E.2.1 1, 18, .inl f_manysz_32)), (m_reals, .inl (E.2.1 1, 18, .inl f_realsz_33)), (m_factsOf, .inl (E.2.1 1, 432, .inl g_fa)), (m_possible, .inl (E.2.1 1, 1728, .inl g_po)), (hm, .inr (12, [.ref m_manys, .ref m_reals, .ref m_factsOf, .ref m_possible, .int (nI uz__15), .int (nI q_models), .ref m_tape, .int (nI q_taped), .int q_fault, .int q_wrong, .int q_wrongAt, .int q_spot, .int q_place, .int q_token, .int q_value, .ref m_ends, .ref m_letters, .ref m_actOf, .ref m_whom, .ref m_actMany, .ref m_tokens, .ref m_afters, .ref m_afterOf, .int q_counted, .ref m_pile, .ref m_caseMany, .ref m_happen, .ref m_hasIf, .ref m_becomes, .ref m_goneOf, .ref m_heard, .ref m_pairs, .ref m_heaps, .int (nI rz__4), .int (nI hmz_5), .ref m_led, .ref m_newAt, .ref m_knowing, .ref m_firsts, .int (nI q_people), .ref m_secrets, .ref m_tried, .ref m_lanes, .ref m_lengths, .ref m_cells])), (m_heaps, .inl (E.2.1 1, 2400, .inl f_heapsz_6))]) ?_ rfl rfl rfl
                have hcu_c_54 := hre (cN f_realsz_33 1) (show cN f_realsz_33 1 < cN f_manys 0 by omega)
                have hle_hcu_c_54 := ml_le (m := (pgs f_manys f_reals f_factsOf f_possible 0)) (cN f_realsz_33 1)
                have hcb_hcu_c_54 := cb_le (mlP (pgs f_manys f_reals f_factsOf f_possible 0)) (clsS (cm1 (pgs f_manys f_reals f_factsOf f_possible 0)) (cN f_realsz_33 1))
                refine ww_eq (st' := [.int (nI (clsS (cm1 (pgs f_manys f_reals f_factsOf f_possible 0)) (cN f_realsz_33 1))), .ref m_newAt, .int 0, .ref m_reals]) ?_ rfl (by rw [show (f_heapsz_6 (48 * rz__4 + (cN f_realsz_33 1))) = nI (clsS (cm1 (pgs f_manys f_reals f_factsOf f_possible 0)) (cN f_realsz_33 1)) from hcu_c_54]) rfl
                refine ww_iald (v := (nI (cb (mlP (pgs f_manys f_reals f_factsOf f_possible 0)) (clsS (cm1 (pgs f_manys f_reals f_factsOf f_possible 0)) (cN f_realsz_33 1))))) C 0 rfl (vp_in_nI (by omega) (by omega)) (ldn (by omega) (hmn (clsS (cm1 (pgs f_manys f_reals f_factsOf f_possible 0)) (cN f_realsz_33 1)) (by omega) (ml_cls (m := (pgs f_manys f_reals f_factsOf f_possible 0)) (cN f_realsz_33 1)))) dX12_melt_226 ?_
                obtain ⟨f_56, ef_56⟩ : ∃ z : Nat → Int32, upd f_realsz_33 0 (nI (cb (mlP (pgs f_manys f_reals f_factsOf f_possible 0)) (clsS (cm1 (pgs f_manys f_reals f_factsOf f_possible 0)) (cN f_realsz_33 1)))) = z := ⟨_, rfl⟩
                refine ww_iast (ws' := [(m_newAt, .inl (E.2.1 1, 24, .inl g1)), (m_led, .inl (E.2.1 2, 192, .inr (.inl f_ledz_7))), (m_manys, .inl (E.2.1 1, 18, .inl f_manysz_32)), (m_reals, .inl (E.2.1 1, 18, .inl f_56)), (m_factsOf, .inl (E.2.1 1, 432, .inl g_fa)), (m_possible, .inl (E.2.1 1, 1728, .inl g_po)), (hm, .inr (12, [.ref m_manys, .ref m_reals, .ref m_factsOf, .ref m_possible, .int (nI uz__15), .int (nI q_models), .ref m_tape, .int (nI q_taped), .int q_fault, .int q_wrong, .int q_wrongAt, .int q_spot, .int q_place, .int q_token, .int q_value, .ref m_ends, .ref m_letters, .ref m_actOf, .ref m_whom, .ref m_actMany, .ref m_tokens, .ref m_afters, .ref m_afterOf, .int q_counted, .ref m_pile, .ref m_caseMany, .ref m_happen, .ref m_hasIf, .ref m_becomes, .ref m_goneOf, .ref m_heard, .ref m_pairs, .ref m_heaps, .int (nI rz__4), .int (nI hmz_5), .ref m_led, .ref m_newAt, .ref m_knowing, .ref m_firsts, .int (nI q_people), .ref m_secrets, .ref m_tried, .ref m_lanes, .ref m_lengths, .ref m_cells])), (m_heaps, .inl (E.2.1 1, 2400, .inl f_heapsz_6))]) C 3 rfl (vin rfl) ef_56 rfl dX12_melt_227 ?_
                refine ww_aload_n C dX12_melt_228 2 rfl rfl ?_
                refine ww_get C fg_X12_7 6 rfl rfl dX12_melt_229 ?_
                refine ww_iconst (v := 0) C dX12_melt_232 rfl ?_
                refine ww_iload_n C dX12_melt_233 1 rfl rfl ?_
                obtain ⟨f_57, ef_57⟩ : ∃ z : Nat → Int32, upd f_manysz_32 0 (nI c1) = z := ⟨_, rfl⟩
                refine ww_iast (ws' := [(m_newAt, .inl (E.2.1 1, 24, .inl g1)), (m_led, .inl (E.2.1 2, 192, .inr (.inl f_ledz_7))), (m_manys, .inl (E.2.1 1, 18, .inl f_57)), (m_reals, .inl (E.2.1 1, 18, .inl f_56)), (m_factsOf, .inl (E.2.1 1, 432, .inl g_fa)), (m_possible, .inl (E.2.1 1, 1728, .inl g_po)), (hm, .inr (12, [.ref m_manys, .ref m_reals, .ref m_factsOf, .ref m_possible, .int (nI uz__15), .int (nI q_models), .ref m_tape, .int (nI q_taped), .int q_fault, .int q_wrong, .int q_wrongAt, .int q_spot, .int q_place, .int q_token, .int q_value, .ref m_ends, .ref m_letters, .ref m_actOf, .ref m_whom, .ref m_actMany, .ref m_tokens, .ref m_afters, .ref m_afterOf, .int q_counted, .ref m_pile, .ref m_caseMany, .ref m_happen, .ref m_hasIf, .ref m_becomes, .ref m_goneOf, .ref m_heard, .ref m_pairs, .ref m_heaps, .int (nI rz__4), .int (nI hmz_5), .ref m_led, .ref m_newAt, .ref m_knowing, .ref m_firsts, .int (nI q_people), .ref m_secrets, .ref m_tried, .ref m_lanes, .ref m_lengths, .ref m_cells])), (m_heaps, .inl (E.2.1 1, 2400, .inl f_heapsz_6))]) C 2 rfl (vin rfl) ef_57 rfl dX12_melt_234 ?_
                refine ww_iload_n C dX12_melt_235 1 rfl rfl ?_
                exact ww_iret (u := [(hm, .inr (12, [.ref m_manys, .ref m_reals, .ref m_factsOf, .ref m_possible, .int (nI uz__15), .int (nI q_models), .ref m_tape, .int (nI q_taped), .int q_fault, .int q_wrong, .int q_wrongAt, .int q_spot, .int q_place, .int q_token, .int q_value, .ref m_ends, .ref m_letters, .ref m_actOf, .ref m_whom, .ref m_actMany, .ref m_tokens, .ref m_afters, .ref m_afterOf, .int q_counted, .ref m_pile, .ref m_caseMany, .ref m_happen, .ref m_hasIf, .ref m_becomes, .ref m_goneOf, .ref m_heard, .ref m_pairs, .ref m_heaps, .int (nI rz__4), .int (nI hmz_5), .ref m_led, .ref m_newAt, .ref m_knowing, .ref m_firsts, .int (nI q_people), .ref m_secrets, .ref m_tried, .ref m_lanes, .ref m_lengths, .ref m_cells])), (m_manys, .inl (E.2.1 1, 18, .inl f_57)), (m_reals, .inl (E.2.1 1, 18, .inl f_56)), (m_factsOf, .inl (E.2.1 1, 432, .inl g_fa)), (m_possible, .inl (E.2.1 1, 1728, .inl g_po)), (m_heaps, .inl (E.2.1 1, 2400, .inl f_heapsz_6)), (m_led, .inl (E.2.1 2, 192, .inr (.inl f_ledz_7))), (m_newAt, .inl (E.2.1 1, 24, .inl g1))]) C hT [6, 2, 3, 4, 5, 7, 1, 0] (gqk (by eq_refl)) (ndk (by decide +kernel)) rfl rfl dX12_melt_236 (⟨uz__15, (nI rz__4), (nI hmz_5), f_57, f_56, g_fa, g_po, f_heapsz_6, f_ledz_7, g1, rfl, (NB.put h_36 (t := c1) (by omega) (by decide) ef_57), (NB.put h_37 (t := cb (mlP (pgs f_manys f_reals f_factsOf f_possible 0)) (clsS (cm1 (pgs f_manys f_reals f_factsOf f_possible 0)) (cN f_realsz_33 1))) (by omega) (by decide) ef_56), (PG.put (a := c1) (b := cb (mlP (pgs f_manys f_reals f_factsOf f_possible 0)) (clsS (cm1 (pgs f_manys f_reals f_factsOf f_possible 0)) (cN f_realsz_33 1))) h_38 ef_57 ef_56 (by omega) (by omega) (Or.inl (by rw [hc1]; exact cb_lt (by have := ml_le (m := (pgs f_manys f_reals f_factsOf f_possible 0)) (cN f_realsz_33 1); omega) (ml_cls (m := (pgs f_manys f_reals f_factsOf f_possible 0)) _)))), (WFP.at (WFP.copy (REMS.wf h_29 hwf) (by omega) h_44) (pgs_oth h_36 (OFF.put OFF.rf (by omega) (by omega) ef_57) (OFF.put OFF.rf (by omega) (by omega) ef_56) hof hog) (by rw [(pg_melt (m := (pgs f_manys f_reals f_factsOf f_possible 0)) (show cN f_manys 0 ≤ 24 by omega) (by rw [cN_s (by omega) ef_57]; exact hc1) (by rw [cN_s (by omega) ef_56]; show cb (mlP (pgs f_manys f_reals f_factsOf f_possible 0)) (clsS (cm1 (pgs f_manys f_reals f_factsOf f_possible 0)) (cN f_realsz_33 1)) = cb (mlP (pgs f_manys f_reals f_factsOf f_possible 0)) (clsS (cm1 (pgs f_manys f_reals f_factsOf f_possible 0)) (cN f_reals 0)); rw [show cN f_realsz_33 1 = cN f_reals 0 by omega]) (by have h9 : w2 = cN f_manys 0 := (by omega); rw [h9] at hpf; exact hpf) (by have h9 : w2 = cN f_manys 0 := (by omega); rw [h9] at hpy; exact hpy))]; exact cmp_wf)), (by omega), (by show _ = if (cN f_manys 0) = 0 then ((asM q_undos (pgs f_manys f_reals f_factsOf f_possible)), -2) else (aRem (asM q_undos (pgs f_manys f_reals f_factsOf f_possible)) (aMelt (pgs f_manys f_reals f_factsOf f_possible 0)), nI (cb (mlP (pgs f_manys f_reals f_factsOf f_possible 0)) (cN f_manys 0))); rw [if_neg (show ¬ ((cN f_manys 0) = 0) by omega)]; exact Prod.ext (rm_end hq_undos h_29 (fun p a b => ((pgs_oth h_36 (OFF.put OFF.rf (by omega) (by omega) ef_57) (OFF.put OFF.rf (by omega) (by omega) ef_56) hof hog) p b (by omega)).trans ((h_44 p b).trans (if_neg (by omega)))) (pg_melt (m := (pgs f_manys f_reals f_factsOf f_possible 0)) (show cN f_manys 0 ≤ 24 by omega) (by rw [cN_s (by omega) ef_57]; exact hc1) (by rw [cN_s (by omega) ef_56]; show cb (mlP (pgs f_manys f_reals f_factsOf f_possible 0)) (clsS (cm1 (pgs f_manys f_reals f_factsOf f_possible 0)) (cN f_realsz_33 1)) = cb (mlP (pgs f_manys f_reals f_factsOf f_possible 0)) (clsS (cm1 (pgs f_manys f_reals f_factsOf f_possible 0)) (cN f_reals 0)); rw [show cN f_realsz_33 1 = cN f_reals 0 by omega]) (by have h9 : w2 = cN f_manys 0 := (by omega); rw [h9] at hpf; exact hpf) (by have h9 : w2 = cN f_manys 0 := (by omega); rw [h9] at hpy; exact hpy))) (by rw [hc1])), (KP6.rem h_29 (fun p a b => ((pgs_oth h_36 (OFF.put OFF.rf (by omega) (by omega) ef_57) (OFF.put OFF.rf (by omega) (by omega) ef_56) hof hog) p b (by omega)).trans ((h_44 p b).trans (if_neg (by omega)))))⟩)
              · have zc_49 : ((w2 : Nat) : Int) < ((cN f_manysz_32 1 : Nat) : Int) := i_nle (nI_toInt (n := cN f_manysz_32 1) (by omega)) (nI_toInt (n := w2) (by omega)) c_49
                refine ww_aload_n C dX12_melt_80 2 rfl rfl ?_
                refine ww_iload_n C dX12_melt_81 0 rfl rfl ?_
                refine ww_ci (wr := [(m_newAt, .inl (E.2.1 1, 24, .inl g1)), (m_led, .inl (E.2.1 2, 192, .inr (.inl f_ledz_7))), (m_manys, .inl (E.2.1 1, 18, .inl f_manysz_32)), (m_reals, .inl (E.2.1 1, 18, .inl f_realsz_33)), (m_factsOf, .inl (E.2.1 1, 432, .inl g_fa)), (m_possible, .inl (E.2.1 1, 1728, .inl g_po))]) (k' := 0) (n' := 0) C (run_V (As := [.int (nI w2)]) (rest := []) C (r_heapOf X.2.1 E ro hm w2 m_manys m_reals m_factsOf m_possible uz__15 q_models m_tape q_taped q_fault q_wrong q_wrongAt q_spot q_place q_token q_value m_ends m_letters m_actOf m_whom m_actMany m_tokens m_afters m_afterOf q_counted m_pile m_caseMany m_happen m_hasIf m_becomes m_goneOf m_heard m_pairs m_heaps rz__4 (nI hmz_5) m_led m_newAt m_knowing m_firsts q_people m_secrets m_tried m_lanes m_lengths m_cells f_heapsz_6 (by omega) (by omega)) mi_X12_heapOf wl_X12_301 rfl 0 12 rfl rfl rfl rfl rfl dX12_melt_82) (roK hro) [3, 1] [0, 2, 4, 5, 6, 7] rfl rfl (plk (by decide +kernel)) rfl (fun r_58 uz hw => ?_)
                refine an1 hw ?_
                clear hw
                intro he_59 hw
                have he_60 := hw
                clear hw
                have he_59 := he_59.symm
                subst he_59
                subst he_60
                refine ww_eq (ws' := [(m_newAt, .inl (E.2.1 1, 24, .inl g1)), (m_led, .inl (E.2.1 2, 192, .inr (.inl f_ledz_7))), (m_manys, .inl (E.2.1 1, 18, .inl f_manysz_32)), (m_reals, .inl (E.2.1 1, 18, .inl f_realsz_33)), (m_factsOf, .inl (E.2.1 1, 432, .inl g_fa)), (m_possible, .inl (E.2.1 1, 1728, .inl g_po)), (hm, .inr (12, [.ref m_manys, .ref m_reals, .ref m_factsOf, .ref m_possible, .int (nI uz__15), .int (nI q_models), .ref m_tape, .int (nI q_taped), .int q_fault, .int q_wrong, .int q_wrongAt, .int q_spot, .int q_place, .int q_token, .int q_value, .ref m_ends, .ref m_letters, .ref m_actOf, .ref m_whom, .ref m_actMany, .ref m_tokens, .ref m_afters, .ref m_afterOf, .int q_counted, .ref m_pile, .ref m_caseMany, .ref m_happen, .ref m_hasIf, .ref m_becomes, .ref m_goneOf, .ref m_heard, .ref m_pairs, .ref m_heaps, .int (nI rz__4), .int (nI hmz_5), .ref m_led, .ref m_newAt, .ref m_knowing, .ref m_firsts, .int (nI q_people), .ref m_secrets, .ref m_tried, .ref m_lanes, .ref m_lengths, .ref m_cells])), (m_heaps, .inl (E.2.1 1, 2400, .inl f_heapsz_6))]) ?_ rfl rfl rfl
                refine ww_iload_n C dX12_melt_85 0 rfl rfl ?_
                refine ww_icmp_ne (tgt := 201) C dX12_melt_86 (by decide) (fun c_61 => ?_) (fun c_61 => ?_)
                · have zc_61 : (f_heapsz_6 (48 * rz__4 + w2)).toInt ≠ ((w2 : Nat) : Int) := i_ne rfl (nI_toInt (n := w2) (by omega)) c_61
                  refine ww_iinc (j := 0) (v := (nI (w2 + 1))) (lv' := [(2, .int (nI (w2 + 1))), (1, .int (nI c1)), (0, .ref hm)]) C dX12_melt_201 rfl (nI_add w2 1) rfl rfl ?_
                  refine ww_goto (tgt := 70) C dX12_melt_204 (by decide) ?_
                  exact ww_lv [0, 1, 2] rfl (ww_sub [0, 7, 1, 6, 2, 3, 4, 5] (ndk (by decide +kernel)) (gqk (by eq_refl)) (ih_70 (w2 + 1) g_fa g_po (by omega) (PFx.f hpf (mlg_0 (m := (pgs f_manys f_reals f_factsOf f_possible 0)) (show cN f_manys 0 ≤ 48 by omega) hre (show w2 < cN f_manys 0 by omega) (show rowH f_heapsz_6 rz__4 w2 = _ from rfl) (by assumption))) hof (PRy.fs (i := w2) hpy (by omega) (fun p a b => by rw [show p = w2 by omega]; exact (mlg_0 (m := (pgs f_manys f_reals f_factsOf f_possible 0)) (show cN f_manys 0 ≤ 48 by omega) hre (show w2 < cN f_manys 0 by omega) (show rowH f_heapsz_6 rz__4 w2 = _ from rfl) (by assumption)))) hog (by omega)))
                · have zc_61 : (f_heapsz_6 (48 * rz__4 + w2)).toInt = ((w2 : Nat) : Int) := i_eq rfl (nI_toInt (n := w2) (by omega)) c_61
                  have hP2 := (mlg_1 (m := (pgs f_manys f_reals f_factsOf f_possible 0)) (show cN f_manys 0 ≤ 48 by omega) hre (show w2 < cN f_manys 0 by omega) (show rowH f_heapsz_6 rz__4 w2 = _ from rfl) (by assumption))
                  have hcb2 := cb_le (mlP (pgs f_manys f_reals f_factsOf f_possible 0)) w2
                  refine ww_aload_n C dX12_melt_89 2 rfl rfl ?_
                  refine ww_get C fg_X12_16 6 rfl rfl dX12_melt_90 ?_
                  refine ww_aload_n C dX12_melt_93 2 rfl rfl ?_
                  refine ww_get C fg_X12_81 6 rfl rfl dX12_melt_94 ?_
                  refine ww_iload_n C dX12_melt_97 0 rfl rfl ?_
                  refine ww_iald (v := (nI (cb (mlP (pgs f_manys f_reals f_factsOf f_possible 0)) w2))) C 0 rfl (vp_in_nI (by omega) (by omega)) (ldn (by omega) (hmn w2 (by omega) hP2)) dX12_melt_98 ?_
                  refine ww_aload_n C dX12_melt_99 2 rfl rfl ?_
                  refine ww_get C fg_X12_16 6 rfl rfl dX12_melt_100 ?_
                  refine ww_bipush (v := 24) C dX12_melt_103 rfl ?_
                  refine ww_iload_n C dX12_melt_105 0 rfl rfl ?_
                  refine ww_iadd (v := (nI (24 + w2))) C dX12_melt_106 (nI_add 24 w2) ?_
                  obtain ⟨x_63, ex_63⟩ : ∃ z : Int32, g_fa (24 + w2) = z := ⟨_, rfl⟩
                  refine ww_iald (v := x_63) C 4 rfl (vp_in_nI (by omega) (by omega)) (ldn (by omega) ex_63) dX12_melt_107 ?_
                  obtain ⟨f_64, ef_64⟩ : ∃ z : Nat → Int32, upd g_fa (cb (mlP (pgs f_manys f_reals f_factsOf f_possible 0)) w2) x_63 = z := ⟨_, rfl⟩
                  refine ww_iast (ws' := [(m_newAt, .inl (E.2.1 1, 24, .inl g1)), (m_led, .inl (E.2.1 2, 192, .inr (.inl f_ledz_7))), (m_manys, .inl (E.2.1 1, 18, .inl f_manysz_32)), (m_reals, .inl (E.2.1 1, 18, .inl f_realsz_33)), (m_factsOf, .inl (E.2.1 1, 432, .inl f_64)), (m_possible, .inl (E.2.1 1, 1728, .inl g_po)), (hm, .inr (12, [.ref m_manys, .ref m_reals, .ref m_factsOf, .ref m_possible, .int (nI uz__15), .int (nI q_models), .ref m_tape, .int (nI q_taped), .int q_fault, .int q_wrong, .int q_wrongAt, .int q_spot, .int q_place, .int q_token, .int q_value, .ref m_ends, .ref m_letters, .ref m_actOf, .ref m_whom, .ref m_actMany, .ref m_tokens, .ref m_afters, .ref m_afterOf, .int q_counted, .ref m_pile, .ref m_caseMany, .ref m_happen, .ref m_hasIf, .ref m_becomes, .ref m_goneOf, .ref m_heard, .ref m_pairs, .ref m_heaps, .int (nI rz__4), .int (nI hmz_5), .ref m_led, .ref m_newAt, .ref m_knowing, .ref m_firsts, .int (nI q_people), .ref m_secrets, .ref m_tried, .ref m_lanes, .ref m_lengths, .ref m_cells])), (m_heaps, .inl (E.2.1 1, 2400, .inl f_heapsz_6))]) C 4 rfl (vp_in_nI (by omega) (by omega)) (ldn2 (by omega) ef_64) rfl dX12_melt_108 ?_
                  refine ww_iconst (v := 0) C dX12_melt_109 rfl ?_
                  refine ww_istore_n (lv' := [(3, .int 0), (2, .int (nI w2)), (1, .int (nI c1)), (0, .ref hm)]) C dX12_melt_110 rfl rfl rfl ?_
                  have loop_111 : ∀ (fu : Nat) (k3 : Nat) (g_po3 : Nat → Int32), (k3 ≤ 4) → (PRy (mlP (pgs f_manys f_reals f_factsOf f_possible 0)) (cN f_manys 0) w2 k3 (fun k p q => anyN (fun v => (pgs f_manys f_reals f_factsOf f_possible 0).2.2.2 k p v && decide (clsS (cm1 (pgs f_manys f_reals f_factsOf f_possible 0)) v = q)) 24) g_po3) → (OFF 96 0 f_possiblez_35 g_po3) → 4 - k3 < fu → WW X 6 E 111 [(3, .int (nI k3)), (2, .int (nI w2)), (1, .int (nI c1)), (0, .ref hm)] [] [(m_newAt, .inl (E.2.1 1, 24, .inl g1)), (m_led, .inl (E.2.1 2, 192, .inr (.inl f_ledz_7))), (m_manys, .inl (E.2.1 1, 18, .inl f_manysz_32)), (m_reals, .inl (E.2.1 1, 18, .inl f_realsz_33)), (m_factsOf, .inl (E.2.1 1, 432, .inl f_64)), (m_possible, .inl (E.2.1 1, 1728, .inl g_po3)), (hm, .inr (12, [.ref m_manys, .ref m_reals, .ref m_factsOf, .ref m_possible, .int (nI uz__15), .int (nI q_models), .ref m_tape, .int (nI q_taped), .int q_fault, .int q_wrong, .int q_wrongAt, .int q_spot, .int q_place, .int q_token, .int q_value, .ref m_ends, .ref m_letters, .ref m_actOf, .ref m_whom, .ref m_actMany, .ref m_tokens, .ref m_afters, .ref m_afterOf, .int q_counted, .ref m_pile, .ref m_caseMany, .ref m_happen, .ref m_hasIf, .ref m_becomes, .ref m_goneOf, .ref m_heard, .ref m_pairs, .ref m_heaps, .int (nI rz__4), .int (nI hmz_5), .ref m_led, .ref m_newAt, .ref m_knowing, .ref m_firsts, .int (nI q_people), .ref m_secrets, .ref m_tried, .ref m_lanes, .ref m_lengths, .ref m_cells])), (m_heaps, .inl (E.2.1 1, 2400, .inl f_heapsz_6))] 0 0 := by
                    intro fu
                    induction fu with
                    | zero => intro k3 g_po3 hk3 hpy3 hog3 hmeas; exact absurd hmeas (Nat.not_lt_zero _)
                    | succ fu ih_111 =>
                      intro k3 g_po3 hk3 hpy3 hog3 hmeas
                      refine ww_iload_n C dX12_melt_111 0 rfl rfl ?_
                      refine ww_iconst (v := 4) C dX12_melt_112 rfl ?_
                      refine ww_icmp_ge (tgt := 201) C dX12_melt_113 (by decide) (fun c_65 => ?_) (fun c_65 => ?_)
                      · have zc_65 : ((k3 : Nat) : Int) ≥ 4 := i_le rfl (nI_toInt (n := k3) (by omega)) c_65
                        refine ww_iinc (j := 1) (v := (nI (w2 + 1))) (lv' := [(2, .int (nI (w2 + 1))), (3, .int (nI k3)), (1, .int (nI c1)), (0, .ref hm)]) C dX12_melt_201 rfl (nI_add w2 1) rfl rfl ?_
                        refine ww_goto (tgt := 70) C dX12_melt_204 (by decide) ?_
                        exact ww_lv [0, 2, 3] rfl (ww_sub [0, 7, 1, 6, 2, 3, 4, 5] (ndk (by decide +kernel)) (gqk (by eq_refl)) (ih_70 (w2 + 1) f_64 g_po3 (by omega) (PFx.t hpf hP2 rfl (by have h9 : (pgs f_manys f_reals f_factsOf f_possible 0).2.2.1 w2 = _ := (congrArg (fun m : AM => m.2.2.1 w2) hp1).symm; rw [h9]; show _ = (pgs f_manysz_32 f_realsz_33 f_factsOfz_34 f_possiblez_35 1).2.2.1 w2; rw [pg_F (by omega), ← hof (24 * 1 + w2) (by omega)]; exact (by first | exact ex_63.symm | rfl)) ef_64) (OFF.put hof (by omega) (by omega) ef_64) (PRy.up hpy3 (by omega)) hog3 (by omega)))
                      · have zc_65 : ((k3 : Nat) : Int) < 4 := i_nle rfl (nI_toInt (n := k3) (by omega)) c_65
                        refine ww_iconst (v := 0) C dX12_melt_116 rfl ?_
                        refine ww_istore (lv' := [(4, .int 0), (3, .int (nI k3)), (2, .int (nI w2)), (1, .int (nI c1)), (0, .ref hm)]) C dX12_melt_117 rfl rfl ?_
                        refine ww_iconst (v := 0) C dX12_melt_119 rfl ?_
                        refine ww_istore (lv' := [(5, .int 0), (4, .int 0), (3, .int (nI k3)), (2, .int (nI w2)), (1, .int (nI c1)), (0, .ref hm)]) C dX12_melt_120 rfl rfl ?_
                        have hrow : ∀ v, (pgs f_manys f_reals f_factsOf f_possible 0).2.2.2 k3 w2 v = bt (g_po3 (96 * 1 + 24 * k3 + w2)) v := fun v => by rw [← hp1, pg_S (by omega) (by omega), ← hog3 (96 * 1 + 24 * k3 + w2) (by omega)]
                        have wfrow : ∀ v, cN f_manys 0 ≤ v → v < 32 → bt (g_po3 (96 * 1 + 24 * k3 + w2)) v = false := fun v a b => by rw [← hrow v]; cases hq : (pgs f_manys f_reals f_factsOf f_possible 0).2.2.2 k3 w2 v with | false => rfl | true => exact absurd (hwf 0 (by omega) k3 w2 v hq) (show ¬ v < cN f_manys 0 by omega)
                        have loop_122 : ∀ (fu : Nat) (u4 : Nat) (so4 : Int32), (u4 ≤ cN f_manys 0) → (CLx (g_po3 (96 * 1 + 24 * k3 + w2)) (fun v => cb (mlP (pgs f_manys f_reals f_factsOf f_possible 0)) (clsS (cm1 (pgs f_manys f_reals f_factsOf f_possible 0)) v)) u4 so4) → cN f_manys 0 - u4 < fu → WW X 6 E 122 [(5, .int (nI u4)), (4, .int so4), (3, .int (nI k3)), (2, .int (nI w2)), (1, .int (nI c1)), (0, .ref hm)] [] [(m_newAt, .inl (E.2.1 1, 24, .inl g1)), (m_led, .inl (E.2.1 2, 192, .inr (.inl f_ledz_7))), (m_manys, .inl (E.2.1 1, 18, .inl f_manysz_32)), (m_reals, .inl (E.2.1 1, 18, .inl f_realsz_33)), (m_factsOf, .inl (E.2.1 1, 432, .inl f_64)), (m_possible, .inl (E.2.1 1, 1728, .inl g_po3)), (hm, .inr (12, [.ref m_manys, .ref m_reals, .ref m_factsOf, .ref m_possible, .int (nI uz__15), .int (nI q_models), .ref m_tape, .int (nI q_taped), .int q_fault, .int q_wrong, .int q_wrongAt, .int q_spot, .int q_place, .int q_token, .int q_value, .ref m_ends, .ref m_letters, .ref m_actOf, .ref m_whom, .ref m_actMany, .ref m_tokens, .ref m_afters, .ref m_afterOf, .int q_counted, .ref m_pile, .ref m_caseMany, .ref m_happen, .ref m_hasIf, .ref m_becomes, .ref m_goneOf, .ref m_heard, .ref m_pairs, .ref m_heaps, .int (nI rz__4), .int (nI hmz_5), .ref m_led, .ref m_newAt, .ref m_knowing, .ref m_firsts, .int (nI q_people), .ref m_secrets, .ref m_tried, .ref m_lanes, .ref m_lengths, .ref m_cells])), (m_heaps, .inl (E.2.1 1, 2400, .inl f_heapsz_6))] 0 0 := by
                          intro fu
                          induction fu with
                          | zero => intro u4 so4 hu4 hcl hmeas; exact absurd hmeas (Nat.not_lt_zero _)
                          | succ fu ih_122 =>
                            intro u4 so4 hu4 hcl hmeas
                            refine ww_iload C dX12_melt_122 0 rfl ?_
                            refine ww_aload_n C dX12_melt_124 5 rfl rfl ?_
                            refine ww_get C fg_X12_7 6 rfl rfl dX12_melt_125 ?_
                            refine ww_iconst (v := 1) C dX12_melt_128 rfl ?_
                            have hbx_66 := (h_36 1 (by omega)).2
                            refine ww_iald (v := (nI (cN f_manysz_32 1))) C 2 rfl (vin rfl) (h_36 1 (by omega)).1 dX12_melt_129 ?_
                            refine ww_icmp_ge (tgt := 177) C dX12_melt_130 (by decide) (fun c_67 => ?_) (fun c_67 => ?_)
                            · have zc_67 : ((u4 : Nat) : Int) ≥ ((cN f_manysz_32 1 : Nat) : Int) := i_le (nI_toInt (n := cN f_manysz_32 1) (by omega)) (nI_toInt (n := u4) (by omega)) c_67
                              refine ww_aload_n C dX12_melt_177 5 rfl rfl ?_
                              refine ww_get C fg_X12_19 6 rfl rfl dX12_melt_178 ?_
                              refine ww_bipush (v := 24) C dX12_melt_181 rfl ?_
                              refine ww_iload_n C dX12_melt_183 2 rfl rfl ?_
                              refine ww_imul (v := (nI (24 * k3))) C dX12_melt_184 (pk_mul 24 k3) ?_
                              refine ww_aload_n C dX12_melt_185 5 rfl rfl ?_
                              refine ww_get C fg_X12_81 6 rfl rfl dX12_melt_186 ?_
                              refine ww_iload_n C dX12_melt_189 3 rfl rfl ?_
                              refine ww_iald (v := (nI (cb (mlP (pgs f_manys f_reals f_factsOf f_possible 0)) w2))) C 0 rfl (vp_in_nI (by omega) (by omega)) (ldn (by omega) (hmn w2 (by omega) hP2)) dX12_melt_190 ?_
                              refine ww_iadd (v := (nI ((24 * k3) + (cb (mlP (pgs f_manys f_reals f_factsOf f_possible 0)) w2)))) C dX12_melt_191 (nI_add (24 * k3) (cb (mlP (pgs f_manys f_reals f_factsOf f_possible 0)) w2)) ?_
                              refine ww_iload C dX12_melt_192 1 rfl ?_
                              obtain ⟨f_69, ef_69⟩ : ∃ z : Nat → Int32, upd g_po3 ((24 * k3) + (cb (mlP (pgs f_manys f_reals f_factsOf f_possible 0)) w2)) so4 = z := ⟨_, rfl⟩
                              refine ww_iast (ws' := [(m_newAt, .inl (E.2.1 1, 24, .inl g1)), (m_led, .inl (E.2.1 2, 192, .inr (.inl f_ledz_7))), (m_manys, .inl (E.2.1 1, 18, .inl f_manysz_32)), (m_reals, .inl (E.2.1 1, 18, .inl f_realsz_33)), (m_factsOf, .inl (E.2.1 1, 432, .inl f_64)), (m_possible, .inl (E.2.1 1, 1728, .inl f_69)), (hm, .inr (12, [.ref m_manys, .ref m_reals, .ref m_factsOf, .ref m_possible, .int (nI uz__15), .int (nI q_models), .ref m_tape, .int (nI q_taped), .int q_fault, .int q_wrong, .int q_wrongAt, .int q_spot, .int q_place, .int q_token, .int q_value, .ref m_ends, .ref m_letters, .ref m_actOf, .ref m_whom, .ref m_actMany, .ref m_tokens, .ref m_afters, .ref m_afterOf, .int q_counted, .ref m_pile, .ref m_caseMany, .ref m_happen, .ref m_hasIf, .ref m_becomes, .ref m_goneOf, .ref m_heard, .ref m_pairs, .ref m_heaps, .int (nI rz__4), .int (nI hmz_5), .ref m_led, .ref m_newAt, .ref m_knowing, .ref m_firsts, .int (nI q_people), .ref m_secrets, .ref m_tried, .ref m_lanes, .ref m_lengths, .ref m_cells])), (m_heaps, .inl (E.2.1 1, 2400, .inl f_heapsz_6))]) C 5 rfl (vp_in_nI (by omega) (by omega)) (ldn2 (by omega) ef_69) rfl dX12_melt_194 ?_
                              refine ww_iinc (j := 2) (v := (nI (k3 + 1))) (lv' := [(3, .int (nI (k3 + 1))), (5, .int (nI u4)), (4, .int so4), (2, .int (nI w2)), (1, .int (nI c1)), (0, .ref hm)]) C dX12_melt_195 rfl (nI_add k3 1) rfl rfl ?_
                              refine ww_goto (tgt := 111) C dX12_melt_198 (by decide) ?_
                              exact ww_lv [0, 3, 4, 5] rfl (ww_sub [0, 1, 2, 3, 4, 5, 6, 7] (ndk (by decide +kernel)) (gqk (by eq_refl)) (ih_111 (k3 + 1) f_69 (by omega) (PRy.t hpy3 (by omega) (show w2 < cN f_manys 0 by omega) (by omega) hP2 rfl (melt_row (show cN f_manys 0 ≤ 24 by omega) (hwf 0 (by omega)) hrow (CLx.fin hcl (by omega) (fun v a b => wfrow v (by omega) (by omega)))) (sh_up0 ef_69)) (OFF.put hog3 (by omega) (by omega) ef_69) (by omega)))
                            · have zc_67 : ((u4 : Nat) : Int) < ((cN f_manysz_32 1 : Nat) : Int) := i_nle (nI_toInt (n := cN f_manysz_32 1) (by omega)) (nI_toInt (n := u4) (by omega)) c_67
                              refine ww_iload C dX12_melt_133 1 rfl ?_
                              refine ww_aload_n C dX12_melt_135 5 rfl rfl ?_
                              refine ww_iconst (v := 1) C dX12_melt_136 rfl ?_
                              refine ww_iload_n C dX12_melt_137 2 rfl rfl ?_
                              refine ww_iload_n C dX12_melt_138 3 rfl rfl ?_
                              refine ww_ci (wr := [(m_newAt, .inl (E.2.1 1, 24, .inl g1)), (m_led, .inl (E.2.1 2, 192, .inr (.inl f_ledz_7))), (m_manys, .inl (E.2.1 1, 18, .inl f_manysz_32)), (m_reals, .inl (E.2.1 1, 18, .inl f_realsz_33)), (m_factsOf, .inl (E.2.1 1, 432, .inl f_64)), (m_heaps, .inl (E.2.1 1, 2400, .inl f_heapsz_6))]) (k' := 0) (n' := 0) C (run_V (As := [.int 1, .int (nI k3), .int (nI w2)]) (rest := [.int so4]) C (r_seen X.2.1 E ro hm 1 k3 w2 m_manys m_reals m_factsOf m_possible uz__15 q_models m_tape q_taped q_fault q_wrong q_wrongAt q_spot q_place q_token q_value m_ends m_letters m_actOf m_whom m_actMany m_tokens m_afters m_afterOf q_counted m_pile m_caseMany m_happen m_hasIf m_becomes m_goneOf m_heard m_pairs m_heaps (nI rz__4) (nI hmz_5) m_led m_newAt m_knowing m_firsts q_people m_secrets m_tried m_lanes m_lengths m_cells g_po3 (by omega) (by omega) (by omega)) mi_X12_seen wl_X12_135 rfl 0 12 rfl rfl rfl rfl rfl dX12_melt_139) (roK hro) [6, 5] [0, 1, 2, 3, 4, 7] rfl rfl (plk (by decide +kernel)) rfl (fun r_70 uz hw => ?_)
                              refine an1 hw ?_
                              clear hw
                              intro he_71 hw
                              have he_72 := hw
                              clear hw
                              have he_71 := he_71.symm
                              subst he_71
                              subst he_72
                              refine ww_eq (ws' := [(m_newAt, .inl (E.2.1 1, 24, .inl g1)), (m_led, .inl (E.2.1 2, 192, .inr (.inl f_ledz_7))), (m_manys, .inl (E.2.1 1, 18, .inl f_manysz_32)), (m_reals, .inl (E.2.1 1, 18, .inl f_realsz_33)), (m_factsOf, .inl (E.2.1 1, 432, .inl f_64)), (m_heaps, .inl (E.2.1 1, 2400, .inl f_heapsz_6)), (hm, .inr (12, [.ref m_manys, .ref m_reals, .ref m_factsOf, .ref m_possible, .int (nI uz__15), .int (nI q_models), .ref m_tape, .int (nI q_taped), .int q_fault, .int q_wrong, .int q_wrongAt, .int q_spot, .int q_place, .int q_token, .int q_value, .ref m_ends, .ref m_letters, .ref m_actOf, .ref m_whom, .ref m_actMany, .ref m_tokens, .ref m_afters, .ref m_afterOf, .int q_counted, .ref m_pile, .ref m_caseMany, .ref m_happen, .ref m_hasIf, .ref m_becomes, .ref m_goneOf, .ref m_heard, .ref m_pairs, .ref m_heaps, .int (nI rz__4), .int (nI hmz_5), .ref m_led, .ref m_newAt, .ref m_knowing, .ref m_firsts, .int (nI q_people), .ref m_secrets, .ref m_tried, .ref m_lanes, .ref m_lengths, .ref m_cells])), (m_possible, .inl (E.2.1 1, 1728, .inl g_po3))]) ?_ rfl rfl rfl
                              refine ww_iload C dX12_melt_142 0 rfl ?_
                              obtain ⟨x_73, ex_73⟩ : ∃ z : Int32, (g_po3 (96 * 1 + 24 * k3 + w2)) >>> ((nI u4) &&& 31) = z := ⟨_, rfl⟩
                              refine ww_ishr (v := x_73) C dX12_melt_144 ex_73 ?_
                              refine ww_iconst (v := 1) C dX12_melt_145 rfl ?_
                              obtain ⟨j_74, hj_74, ej_74⟩ := pk_andE x_73 (m := 1) 1 rfl
                              refine ww_iand (v := (nI j_74)) C dX12_melt_146 ej_74 ?_
                              refine ww_iconst (v := 1) C dX12_melt_147 rfl ?_
                              refine ww_icmp_ne (tgt := 167) C dX12_melt_148 (by decide) (fun c_75 => ?_) (fun c_75 => ?_)
                              · have zc_75 : ((j_74 : Nat) : Int) ≠ 1 := i_ne (nI_toInt (n := j_74) (by omega)) rfl c_75
                                refine ww_iconst (v := 0) C dX12_melt_167 rfl ?_
                                obtain ⟨x_76, ex_76⟩ : ∃ z : Int32, so4 ||| (0 : Int32) = z := ⟨_, rfl⟩
                                refine ww_ior (v := x_76) C dX12_melt_168 ex_76 ?_
                                refine ww_istore (lv' := [(4, .int x_76), (5, .int (nI u4)), (3, .int (nI k3)), (2, .int (nI w2)), (1, .int (nI c1)), (0, .ref hm)]) C dX12_melt_169 rfl rfl ?_
                                refine ww_iinc (j := 1) (v := (nI (u4 + 1))) (lv' := [(5, .int (nI (u4 + 1))), (4, .int x_76), (3, .int (nI k3)), (2, .int (nI w2)), (1, .int (nI c1)), (0, .ref hm)]) C dX12_melt_171 rfl (nI_add u4 1) rfl rfl ?_
                                refine ww_goto (tgt := 122) C dX12_melt_174 (by decide) ?_
                                exact ww_lv [0, 1, 2, 3, 4, 5] rfl (ww_sub [0, 1, 2, 3, 4, 7, 6, 5] (ndk (by decide +kernel)) (gqk (by eq_refl)) (ih_122 (u4 + 1) x_76 (by omega) (by first | exact CLx.t hcl (hasb_1 (p := u4) (by omega) (by assumption) (by assumption) (by omega)) (show cb (mlP (pgs f_manys f_reals f_factsOf f_possible 0)) (clsS (cm1 (pgs f_manys f_reals f_factsOf f_possible 0)) u4) ≤ 30 by omega) (by assumption) (by assumption) | exact or0c hcl (hasb_0 (p := u4) (by omega) (by assumption) (by assumption) (by omega)) (by assumption)) (by omega)))
                              · have zc_75 : ((j_74 : Nat) : Int) = 1 := i_eq (nI_toInt (n := j_74) (by omega)) rfl c_75
                                refine ww_iconst (v := 1) C dX12_melt_151 rfl ?_
                                refine ww_aload_n C dX12_melt_152 5 rfl rfl ?_
                                refine ww_get C fg_X12_81 6 rfl rfl dX12_melt_153 ?_
                                refine ww_aload_n C dX12_melt_156 5 rfl rfl ?_
                                refine ww_iload C dX12_melt_157 0 rfl ?_
                                refine ww_ci (wr := [(m_newAt, .inl (E.2.1 1, 24, .inl g1)), (m_led, .inl (E.2.1 2, 192, .inr (.inl f_ledz_7))), (m_manys, .inl (E.2.1 1, 18, .inl f_manysz_32)), (m_reals, .inl (E.2.1 1, 18, .inl f_realsz_33)), (m_factsOf, .inl (E.2.1 1, 432, .inl f_64)), (m_possible, .inl (E.2.1 1, 1728, .inl g_po3))]) (k' := 0) (n' := 0) C (run_V (As := [.int (nI u4)]) (rest := [.ref m_newAt, .int 1, .int so4]) C (r_heapOf X.2.1 E ro hm u4 m_manys m_reals m_factsOf m_possible uz__15 q_models m_tape q_taped q_fault q_wrong q_wrongAt q_spot q_place q_token q_value m_ends m_letters m_actOf m_whom m_actMany m_tokens m_afters m_afterOf q_counted m_pile m_caseMany m_happen m_hasIf m_becomes m_goneOf m_heard m_pairs m_heaps rz__4 (nI hmz_5) m_led m_newAt m_knowing m_firsts q_people m_secrets m_tried m_lanes m_lengths m_cells f_heapsz_6 (by omega) (by omega)) mi_X12_heapOf wl_X12_301 rfl 0 12 rfl rfl rfl rfl rfl dX12_melt_159) (roK hro) [6, 5] [0, 1, 2, 3, 4, 7] rfl rfl (plk (by decide +kernel)) rfl (fun r_77 uz hw => ?_)
                                refine an1 hw ?_
                                clear hw
                                intro he_78 hw
                                have he_79 := hw
                                clear hw
                                have he_78 := he_78.symm
                                subst he_78
                                subst he_79
                                refine ww_eq (ws' := [(m_newAt, .inl (E.2.1 1, 24, .inl g1)), (m_led, .inl (E.2.1 2, 192, .inr (.inl f_ledz_7))), (m_manys, .inl (E.2.1 1, 18, .inl f_manysz_32)), (m_reals, .inl (E.2.1 1, 18, .inl f_realsz_33)), (m_factsOf, .inl (E.2.1 1, 432, .inl f_64)), (m_possible, .inl (E.2.1 1, 1728, .inl g_po3)), (hm, .inr (12, [.ref m_manys, .ref m_reals, .ref m_factsOf, .ref m_possible, .int (nI uz__15), .int (nI q_models), .ref m_tape, .int (nI q_taped), .int q_fault, .int q_wrong, .int q_wrongAt, .int q_spot, .int q_place, .int q_token, .int q_value, .ref m_ends, .ref m_letters, .ref m_actOf, .ref m_whom, .ref m_actMany, .ref m_tokens, .ref m_afters, .ref m_afterOf, .int q_counted, .ref m_pile, .ref m_caseMany, .ref m_happen, .ref m_hasIf, .ref m_becomes, .ref m_goneOf, .ref m_heard, .ref m_pairs, .ref m_heaps, .int (nI rz__4), .int (nI hmz_5), .ref m_led, .ref m_newAt, .ref m_knowing, .ref m_firsts, .int (nI q_people), .ref m_secrets, .ref m_tried, .ref m_lanes, .ref m_lengths, .ref m_cells])), (m_heaps, .inl (E.2.1 1, 2400, .inl f_heapsz_6))]) ?_ rfl rfl rfl
                                have hcu_c_80 := hre u4 (show u4 < cN f_manys 0 by omega)
                                have hle_hcu_c_80 := ml_le (m := (pgs f_manys f_reals f_factsOf f_possible 0)) u4
                                have hcb_hcu_c_80 := cb_le (mlP (pgs f_manys f_reals f_factsOf f_possible 0)) (clsS (cm1 (pgs f_manys f_reals f_factsOf f_possible 0)) u4)
                                refine ww_eq (st' := [.int (nI (clsS (cm1 (pgs f_manys f_reals f_factsOf f_possible 0)) u4)), .ref m_newAt, .int 1, .int so4]) ?_ rfl (by rw [show (f_heapsz_6 (48 * rz__4 + u4)) = nI (clsS (cm1 (pgs f_manys f_reals f_factsOf f_possible 0)) u4) from hcu_c_80]) rfl
                                refine ww_iald (v := (nI (cb (mlP (pgs f_manys f_reals f_factsOf f_possible 0)) (clsS (cm1 (pgs f_manys f_reals f_factsOf f_possible 0)) u4)))) C 0 rfl (vp_in_nI (by omega) (by omega)) (ldn (by omega) (hmn (clsS (cm1 (pgs f_manys f_reals f_factsOf f_possible 0)) u4) (by omega) (ml_cls (m := (pgs f_manys f_reals f_factsOf f_possible 0)) u4))) dX12_melt_162 ?_
                                obtain ⟨x_82, ex_82⟩ : ∃ z : Int32, (1 : Int32) <<< ((nI (cb (mlP (pgs f_manys f_reals f_factsOf f_possible 0)) (clsS (cm1 (pgs f_manys f_reals f_factsOf f_possible 0)) u4))) &&& 31) = z := ⟨_, rfl⟩
                                refine ww_ishl (v := x_82) C dX12_melt_163 ex_82 ?_
                                refine ww_goto (tgt := 168) C dX12_melt_164 (by decide) ?_
                                obtain ⟨x_83, ex_83⟩ : ∃ z : Int32, so4 ||| x_82 = z := ⟨_, rfl⟩
                                refine ww_ior (v := x_83) C dX12_melt_168 ex_83 ?_
                                refine ww_istore (lv' := [(4, .int x_83), (5, .int (nI u4)), (3, .int (nI k3)), (2, .int (nI w2)), (1, .int (nI c1)), (0, .ref hm)]) C dX12_melt_169 rfl rfl ?_
                                refine ww_iinc (j := 1) (v := (nI (u4 + 1))) (lv' := [(5, .int (nI (u4 + 1))), (4, .int x_83), (3, .int (nI k3)), (2, .int (nI w2)), (1, .int (nI c1)), (0, .ref hm)]) C dX12_melt_171 rfl (nI_add u4 1) rfl rfl ?_
                                refine ww_goto (tgt := 122) C dX12_melt_174 (by decide) ?_
                                exact ww_lv [0, 1, 2, 3, 4, 5] rfl (ww_sub [0, 1, 2, 3, 4, 5, 6, 7] (ndk (by decide +kernel)) (gqk (by eq_refl)) (ih_122 (u4 + 1) x_83 (by omega) (by first | exact CLx.t hcl (hasb_1 (p := u4) (by omega) (by assumption) (by assumption) (by omega)) (show cb (mlP (pgs f_manys f_reals f_factsOf f_possible 0)) (clsS (cm1 (pgs f_manys f_reals f_factsOf f_possible 0)) u4) ≤ 30 by omega) (by assumption) (by assumption) | exact or0c hcl (hasb_0 (p := u4) (by omega) (by assumption) (by assumption) (by omega)) (by assumption)) (by omega)))
                        exact ww_lv [0, 1, 2, 3, 4, 5] rfl (ww_sub [0, 1, 2, 3, 4, 5, 6, 7] (ndk (by decide +kernel)) (gqk (by eq_refl)) (loop_122 _ 0 0 (by omega) CLx.nil (Nat.lt_succ_self _)))
                  exact ww_lv [0, 1, 2, 3] rfl (ww_sub [0, 1, 2, 3, 4, 5, 6, 7] (ndk (by decide +kernel)) (gqk (by eq_refl)) (loop_111 _ 0 g_po (by omega) hpy hog (Nat.lt_succ_self _)))
          exact ww_lv [0, 1, 2] rfl (ww_sub [0, 1, 2, 3, 4, 5, 6, 7] (ndk (by decide +kernel)) (gqk (by eq_refl)) (loop_70 _ 0 f_factsOfz_34 f_possiblez_35 (by omega) PFx.nil OFF.rf PRy.nil OFF.rf (Nat.lt_succ_self _)))
        · have zc_47 : ((w1 : Nat) : Int) < ((cN f_manysz_32 1 : Nat) : Int) := i_nle (nI_toInt (n := cN f_manysz_32 1) (by omega)) (nI_toInt (n := w1) (by omega)) c_47
          refine ww_aload_n C dX12_melt_43 2 rfl rfl ?_
          refine ww_iload_n C dX12_melt_44 0 rfl rfl ?_
          refine ww_ci (wr := [(m_newAt, .inl (E.2.1 1, 24, .inl g1)), (m_led, .inl (E.2.1 2, 192, .inr (.inl f_ledz_7))), (m_manys, .inl (E.2.1 1, 18, .inl f_manysz_32)), (m_reals, .inl (E.2.1 1, 18, .inl f_realsz_33)), (m_factsOf, .inl (E.2.1 1, 432, .inl f_factsOfz_34)), (m_possible, .inl (E.2.1 1, 1728, .inl f_possiblez_35))]) (k' := 0) (n' := 0) C (run_V (As := [.int (nI w1)]) (rest := []) C (r_heapOf X.2.1 E ro hm w1 m_manys m_reals m_factsOf m_possible uz__15 q_models m_tape q_taped q_fault q_wrong q_wrongAt q_spot q_place q_token q_value m_ends m_letters m_actOf m_whom m_actMany m_tokens m_afters m_afterOf q_counted m_pile m_caseMany m_happen m_hasIf m_becomes m_goneOf m_heard m_pairs m_heaps rz__4 (nI hmz_5) m_led m_newAt m_knowing m_firsts q_people m_secrets m_tried m_lanes m_lengths m_cells f_heapsz_6 (by omega) (by omega)) mi_X12_heapOf wl_X12_301 rfl 0 12 rfl rfl rfl rfl rfl dX12_melt_45) (roK hro) [3, 1] [0, 2, 4, 5, 6, 7] rfl rfl (plk (by decide +kernel)) rfl (fun r_84 uz hw => ?_)
          refine an1 hw ?_
          clear hw
          intro he_85 hw
          have he_86 := hw
          clear hw
          have he_85 := he_85.symm
          subst he_85
          subst he_86
          refine ww_eq (ws' := [(m_newAt, .inl (E.2.1 1, 24, .inl g1)), (m_led, .inl (E.2.1 2, 192, .inr (.inl f_ledz_7))), (m_manys, .inl (E.2.1 1, 18, .inl f_manysz_32)), (m_reals, .inl (E.2.1 1, 18, .inl f_realsz_33)), (m_factsOf, .inl (E.2.1 1, 432, .inl f_factsOfz_34)), (m_possible, .inl (E.2.1 1, 1728, .inl f_possiblez_35)), (hm, .inr (12, [.ref m_manys, .ref m_reals, .ref m_factsOf, .ref m_possible, .int (nI uz__15), .int (nI q_models), .ref m_tape, .int (nI q_taped), .int q_fault, .int q_wrong, .int q_wrongAt, .int q_spot, .int q_place, .int q_token, .int q_value, .ref m_ends, .ref m_letters, .ref m_actOf, .ref m_whom, .ref m_actMany, .ref m_tokens, .ref m_afters, .ref m_afterOf, .int q_counted, .ref m_pile, .ref m_caseMany, .ref m_happen, .ref m_hasIf, .ref m_becomes, .ref m_goneOf, .ref m_heard, .ref m_pairs, .ref m_heaps, .int (nI rz__4), .int (nI hmz_5), .ref m_led, .ref m_newAt, .ref m_knowing, .ref m_firsts, .int (nI q_people), .ref m_secrets, .ref m_tried, .ref m_lanes, .ref m_lengths, .ref m_cells])), (m_heaps, .inl (E.2.1 1, 2400, .inl f_heapsz_6))]) ?_ rfl rfl rfl
          refine ww_iload_n C dX12_melt_48 0 rfl rfl ?_
          refine ww_icmp_ne (tgt := 62) C dX12_melt_49 (by decide) (fun c_87 => ?_) (fun c_87 => ?_)
          · have zc_87 : (f_heapsz_6 (48 * rz__4 + w1)).toInt ≠ ((w1 : Nat) : Int) := i_ne rfl (nI_toInt (n := w1) (by omega)) c_87
            refine ww_iinc (j := 0) (v := (nI (w1 + 1))) (lv' := [(2, .int (nI (w1 + 1))), (1, .int (nI c1)), (0, .ref hm)]) C dX12_melt_62 rfl (nI_add w1 1) rfl rfl ?_
            refine ww_goto (tgt := 33) C dX12_melt_65 (by decide) ?_
            exact ww_lv [0, 1, 2] rfl (ww_sub [0, 7, 1, 6, 2, 3, 4, 5] (ndk (by decide +kernel)) (gqk (by eq_refl)) (ih_33 (w1 + 1) c1 g1 (by omega) (by omega) (hc1.trans (cb_f (mlg_0 (m := (pgs f_manys f_reals f_factsOf f_possible 0)) (show cN f_manys 0 ≤ 48 by omega) hre (show w1 < cN f_manys 0 by omega) (show rowH f_heapsz_6 rz__4 w1 = _ from rfl) (by assumption))).symm) (MNx.f hmn (mlg_0 (m := (pgs f_manys f_reals f_factsOf f_possible 0)) (show cN f_manys 0 ≤ 48 by omega) hre (show w1 < cN f_manys 0 by omega) (show rowH f_heapsz_6 rz__4 w1 = _ from rfl) (by assumption))) (by omega)))
          · have zc_87 : (f_heapsz_6 (48 * rz__4 + w1)).toInt = ((w1 : Nat) : Int) := i_eq rfl (nI_toInt (n := w1) (by omega)) c_87
            refine ww_aload_n C dX12_melt_52 2 rfl rfl ?_
            refine ww_get C fg_X12_81 6 rfl rfl dX12_melt_53 ?_
            refine ww_iload_n C dX12_melt_56 0 rfl rfl ?_
            refine ww_iload_n C dX12_melt_57 1 rfl rfl ?_
            obtain ⟨f_88, ef_88⟩ : ∃ z : Nat → Int32, upd g1 w1 (nI c1) = z := ⟨_, rfl⟩
            refine ww_iast (ws' := [(m_newAt, .inl (E.2.1 1, 24, .inl f_88)), (m_led, .inl (E.2.1 2, 192, .inr (.inl f_ledz_7))), (m_manys, .inl (E.2.1 1, 18, .inl f_manysz_32)), (m_reals, .inl (E.2.1 1, 18, .inl f_realsz_33)), (m_factsOf, .inl (E.2.1 1, 432, .inl f_factsOfz_34)), (m_possible, .inl (E.2.1 1, 1728, .inl f_possiblez_35)), (hm, .inr (12, [.ref m_manys, .ref m_reals, .ref m_factsOf, .ref m_possible, .int (nI uz__15), .int (nI q_models), .ref m_tape, .int (nI q_taped), .int q_fault, .int q_wrong, .int q_wrongAt, .int q_spot, .int q_place, .int q_token, .int q_value, .ref m_ends, .ref m_letters, .ref m_actOf, .ref m_whom, .ref m_actMany, .ref m_tokens, .ref m_afters, .ref m_afterOf, .int q_counted, .ref m_pile, .ref m_caseMany, .ref m_happen, .ref m_hasIf, .ref m_becomes, .ref m_goneOf, .ref m_heard, .ref m_pairs, .ref m_heaps, .int (nI rz__4), .int (nI hmz_5), .ref m_led, .ref m_newAt, .ref m_knowing, .ref m_firsts, .int (nI q_people), .ref m_secrets, .ref m_tried, .ref m_lanes, .ref m_lengths, .ref m_cells])), (m_heaps, .inl (E.2.1 1, 2400, .inl f_heapsz_6))]) C 0 rfl (vp_in_nI (by omega) (by omega)) (ldn2 (by omega) ef_88) rfl dX12_melt_58 ?_
            refine ww_iinc (j := 1) (v := (nI (c1 + 1))) (lv' := [(1, .int (nI (c1 + 1))), (2, .int (nI w1)), (0, .ref hm)]) C dX12_melt_59 rfl (nI_add c1 1) rfl rfl ?_
            refine ww_iinc (j := 1) (v := (nI (w1 + 1))) (lv' := [(2, .int (nI (w1 + 1))), (1, .int (nI (c1 + 1))), (0, .ref hm)]) C dX12_melt_62 rfl (nI_add w1 1) rfl rfl ?_
            refine ww_goto (tgt := 33) C dX12_melt_65 (by decide) ?_
            exact ww_lv [0, 1, 2] rfl (ww_sub [0, 7, 1, 6, 2, 3, 4, 5] (ndk (by decide +kernel)) (gqk (by eq_refl)) (ih_33 (w1 + 1) (c1 + 1) f_88 (by omega) (by omega) (by rw [cb_t (mlg_1 (m := (pgs f_manys f_reals f_factsOf f_possible 0)) (show cN f_manys 0 ≤ 48 by omega) hre (show w1 < cN f_manys 0 by omega) (show rowH f_heapsz_6 rz__4 w1 = _ from rfl) (by assumption)), ← hc1]) (MNx.t hmn hc1 ef_88) (by omega)))
    exact ww_lv [0, 1, 2] rfl (ww_sub [0, 1, 2, 3, 4, 5, 6, 7] (ndk (by decide +kernel)) (gqk (by eq_refl)) (loop_33 _ 0 0 f_newAt (by omega) (by omega) rfl MNx.nil (Nat.lt_succ_self _)))
  · have zc_2 : ((cN f_manys 0 : Nat) : Int) = 0 := i_eq (nI_toInt (n := cN f_manys 0) (by omega)) rfl c_2
    refine ww_bipush (v := (-2)) C dX12_melt_9 rfl ?_
    exact ww_iret (u := [(hm, .inr (12, [.ref m_manys, .ref m_reals, .ref m_factsOf, .ref m_possible, .int (nI q_undos), .int (nI q_models), .ref m_tape, .int (nI q_taped), .int q_fault, .int q_wrong, .int q_wrongAt, .int q_spot, .int q_place, .int q_token, .int q_value, .ref m_ends, .ref m_letters, .ref m_actOf, .ref m_whom, .ref m_actMany, .ref m_tokens, .ref m_afters, .ref m_afterOf, .int q_counted, .ref m_pile, .ref m_caseMany, .ref m_happen, .ref m_hasIf, .ref m_becomes, .ref m_goneOf, .ref m_heard, .ref m_pairs, .ref m_heaps, .int q_rounds, .int q_heapMany, .ref m_led, .ref m_newAt, .ref m_knowing, .ref m_firsts, .int (nI q_people), .ref m_secrets, .ref m_tried, .ref m_lanes, .ref m_lengths, .ref m_cells])), (m_manys, .inl (E.2.1 1, 18, .inl f_manys)), (m_reals, .inl (E.2.1 1, 18, .inl f_reals)), (m_factsOf, .inl (E.2.1 1, 432, .inl f_factsOf)), (m_possible, .inl (E.2.1 1, 1728, .inl f_possible)), (m_heaps, .inl (E.2.1 1, 2400, .inl f_heaps)), (m_led, .inl (E.2.1 2, 192, .inr (.inl f_led))), (m_newAt, .inl (E.2.1 1, 24, .inl f_newAt))]) C hT [0, 1, 2, 3, 4, 5, 6, 7] (gqk (by eq_refl)) (ndk (by decide +kernel)) rfl rfl dX12_melt_11 (⟨q_undos, q_rounds, q_heapMany, f_manys, f_reals, f_factsOf, f_possible, f_heaps, f_led, f_newAt, rfl, hb_manys, hb_reals, hpg, hwf, (by omega), (by show _ = if (cN f_manys 0) = 0 then ((asM q_undos (pgs f_manys f_reals f_factsOf f_possible)), -2) else (aRem (asM q_undos (pgs f_manys f_reals f_factsOf f_possible)) (aMelt (pgs f_manys f_reals f_factsOf f_possible 0)), nI (cb (mlP (pgs f_manys f_reals f_factsOf f_possible 0)) (cN f_manys 0))); rw [if_pos (show (cN f_manys 0) = 0 by omega)]), KP6.rf⟩)
end
section
theorem dX12_keep_0 : decode cX12_keep 0 = .ok (.aload_n 0, 1) := dl_42 (by decide +kernel)
theorem dX12_keep_1 : decode cX12_keep 1 = .ok (.getfield 7, 3) := dl_180 (by decide +kernel)
theorem dX12_keep_4 : decode cX12_keep 4 = .ok (.iconst 0, 1) := dl_3 (by decide +kernel)
theorem dX12_keep_5 : decode cX12_keep 5 = .ok (.iaload, 1) := dl_46 (by decide +kernel)
theorem dX12_keep_6 : decode cX12_keep 6 = .ok (.ifCond .ne 6, 3) := dl_154 (by decide +kernel)
theorem dX12_keep_12 : decode cX12_keep 12 = .ok (.aload_n 0, 1) := dl_42 (by decide +kernel)
theorem dX12_keep_13 : decode cX12_keep 13 = .ok (.getfield 304, 3) := dl_180 (by decide +kernel)
theorem wf_X12_304 : Cond.fieldLink RX12 304 RX12 "models" "I" ∈ TB := tbm (tq5 (List.mem_of_getElem? (i := 83) (by decide +kernel))) (by decide +kernel)
theorem fg_X12_304 : FG RX12 304 12 5 := ⟨RX12, TX12, 45, uw_X12, wf_X12_304, rfl, by decide, rfl⟩
theorem dX12_keep_16 : decode cX12_keep 16 = .ok (.iconst 4, 1) := dl_7 (by decide +kernel)
theorem dX12_keep_17 : decode cX12_keep 17 = .ok (.if_icmp .ne 6, 3) := dl_160 (by decide +kernel)
theorem dX12_keep_23 : decode cX12_keep 23 = .ok (.aload_n 0, 1) := dl_42 (by decide +kernel)
theorem dX12_keep_24 : decode cX12_keep 24 = .ok (.iconst 0, 1) := dl_3 (by decide +kernel)
theorem dX12_keep_25 : decode cX12_keep 25 = .ok (.bipush 6, 2) := dl_16 (by decide +kernel)
theorem dX12_keep_27 : decode cX12_keep 27 = .ok (.aload_n 0, 1) := dl_42 (by decide +kernel)
theorem dX12_keep_28 : decode cX12_keep 28 = .ok (.getfield 304, 3) := dl_180 (by decide +kernel)
theorem dX12_keep_31 : decode cX12_keep 31 = .ok (.iadd, 1) := dl_96 (by decide +kernel)
theorem dX12_keep_32 : decode cX12_keep 32 = .ok (.invokevirtual 109, 3) := dl_182 (by decide +kernel)
theorem dX12_keep_35 : decode cX12_keep 35 = .ok (.aload_n 0, 1) := dl_42 (by decide +kernel)
theorem dX12_keep_36 : decode cX12_keep 36 = .ok (.dup, 1) := dl_89 (by decide +kernel)
theorem dX12_keep_37 : decode cX12_keep 37 = .ok (.getfield 304, 3) := dl_180 (by decide +kernel)
theorem dX12_keep_40 : decode cX12_keep 40 = .ok (.iconst 1, 1) := dl_4 (by decide +kernel)
theorem dX12_keep_41 : decode cX12_keep 41 = .ok (.iadd, 1) := dl_96 (by decide +kernel)
theorem dX12_keep_42 : decode cX12_keep 42 = .ok (.putfield 304, 3) := dl_181 (by decide +kernel)
theorem fp_X12_304 : FP RX12 304 12 5 .int false := ⟨RX12, TX12, 45, tyX12, uw_X12, wf_X12_304, rfl, by decide, rfl, tyX12_ok, nmX12, rfl, by decide +kernel⟩
theorem dX12_keep_45 : decode cX12_keep 45 = .ok (.aload_n 0, 1) := dl_42 (by decide +kernel)
theorem dX12_keep_46 : decode cX12_keep 46 = .ok (.getfield 304, 3) := dl_180 (by decide +kernel)
theorem dX12_keep_49 : decode cX12_keep 49 = .ok (.iconst 1, 1) := dl_4 (by decide +kernel)
theorem dX12_keep_50 : decode cX12_keep 50 = .ok (.isub, 1) := dl_100 (by decide +kernel)
theorem dX12_keep_51 : decode cX12_keep 51 = .ok (.ireturn, 1) := dl_172 (by decide +kernel)
theorem dX12_keep_20 : decode cX12_keep 20 = .ok (.bipush (-3), 2) := dl_16 (by decide +kernel)
theorem dX12_keep_22 : decode cX12_keep 22 = .ok (.ireturn, 1) := dl_172 (by decide +kernel)
theorem dX12_keep_9 : decode cX12_keep 9 = .ok (.bipush (-2), 2) := dl_16 (by decide +kernel)
theorem dX12_keep_11 : decode cX12_keep 11 = .ok (.ireturn, 1) := dl_172 (by decide +kernel)
set_option maxRecDepth 100000 in
set_option maxHeartbeats 4000000 in
theorem y_keep (l : Launch) (E : EV) (ro : va_W) (hm : Nat) (m_manys : Nat) (m_reals : Nat) (m_factsOf : Nat) (m_possible : Nat) (q_undos : Nat) (q_models : Nat) (m_tape : Nat) (q_taped : Nat) (q_fault : Int32) (q_wrong : Int32) (q_wrongAt : Int32) (q_spot : Int32) (q_place : Int32) (q_token : Int32) (q_value : Int32) (m_ends : Nat) (m_letters : Nat) (m_actOf : Nat) (m_whom : Nat) (m_actMany : Nat) (m_tokens : Nat) (m_afters : Nat) (m_afterOf : Nat) (q_counted : Int32) (m_pile : Nat) (m_caseMany : Nat) (m_happen : Nat) (m_hasIf : Nat) (m_becomes : Nat) (m_goneOf : Nat) (m_heard : Nat) (m_pairs : Nat) (m_heaps : Nat) (q_rounds : Int32) (q_heapMany : Int32) (m_led : Nat) (m_newAt : Nat) (m_knowing : Nat) (m_firsts : Nat) (q_people : Nat) (m_secrets : Nat) (m_tried : Nat) (m_lanes : Nat) (m_lengths : Nat) (m_cells : Nat) (f_manys : Nat → Int32) (f_reals : Nat → Int32) (f_factsOf : Nat → Int32) (f_possible : Nat → Int32) (hb_manys : NB 18 24 f_manys) (hb_reals : NB 18 23 f_reals) (hpg : PG f_manys f_reals) (hwf : WFP (pgs f_manys f_reals f_factsOf f_possible)) (hq_models : q_models ≤ 4) : CT l yX12_keep (Cond.code yX12_keep cX12_keep 1 (some .int) :: TB) ({ frames := 1, cells := 0, slots := 0, locals := 23 }) E ro [.ref hm] [(hm, .inr (12, [.ref m_manys, .ref m_reals, .ref m_factsOf, .ref m_possible, .int (nI q_undos), .int (nI q_models), .ref m_tape, .int (nI q_taped), .int q_fault, .int q_wrong, .int q_wrongAt, .int q_spot, .int q_place, .int q_token, .int q_value, .ref m_ends, .ref m_letters, .ref m_actOf, .ref m_whom, .ref m_actMany, .ref m_tokens, .ref m_afters, .ref m_afterOf, .int q_counted, .ref m_pile, .ref m_caseMany, .ref m_happen, .ref m_hasIf, .ref m_becomes, .ref m_goneOf, .ref m_heard, .ref m_pairs, .ref m_heaps, .int q_rounds, .int q_heapMany, .ref m_led, .ref m_newAt, .ref m_knowing, .ref m_firsts, .int (nI q_people), .ref m_secrets, .ref m_tried, .ref m_lanes, .ref m_lengths, .ref m_cells])), (m_manys, .inl (E.2.1 1, 18, .inl f_manys)), (m_reals, .inl (E.2.1 1, 18, .inl f_reals)), (m_factsOf, .inl (E.2.1 1, 432, .inl f_factsOf)), (m_possible, .inl (E.2.1 1, 1728, .inl f_possible))] (Qi E (fun (rz : Int32) uz => (∃ (mz_ : Nat) (f_manysz : Nat → Int32) (f_realsz : Nat → Int32) (f_factsOfz : Nat → Int32) (f_possiblez : Nat → Int32), uz = [(hm, .inr (12, [.ref m_manys, .ref m_reals, .ref m_factsOf, .ref m_possible, .int (nI q_undos), .int (nI mz_), .ref m_tape, .int (nI q_taped), .int q_fault, .int q_wrong, .int q_wrongAt, .int q_spot, .int q_place, .int q_token, .int q_value, .ref m_ends, .ref m_letters, .ref m_actOf, .ref m_whom, .ref m_actMany, .ref m_tokens, .ref m_afters, .ref m_afterOf, .int q_counted, .ref m_pile, .ref m_caseMany, .ref m_happen, .ref m_hasIf, .ref m_becomes, .ref m_goneOf, .ref m_heard, .ref m_pairs, .ref m_heaps, .int q_rounds, .int q_heapMany, .ref m_led, .ref m_newAt, .ref m_knowing, .ref m_firsts, .int (nI q_people), .ref m_secrets, .ref m_tried, .ref m_lanes, .ref m_lengths, .ref m_cells])), (m_manys, .inl (E.2.1 1, 18, .inl f_manysz)), (m_reals, .inl (E.2.1 1, 18, .inl f_realsz)), (m_factsOf, .inl (E.2.1 1, 432, .inl f_factsOfz)), (m_possible, .inl (E.2.1 1, 1728, .inl f_possiblez))] ∧ (NB 18 24 f_manysz) ∧ (NB 18 23 f_realsz) ∧ (PG f_manysz f_realsz) ∧ (WFP (pgs f_manysz f_realsz f_factsOfz f_possiblez)) ∧ (mz_ ≤ 4) ∧ (KPx (cN f_manys 0) q_models mz_ (pgs f_manys f_reals f_factsOf f_possible 0) (fun j => pgs f_manys f_reals f_factsOf f_possible (6 + j)) (fun j => pgs f_manysz f_realsz f_factsOfz f_possiblez (6 + j)) rz) ∧ (KPU (pgs f_manys f_reals f_factsOf f_possible) (pgs f_manysz f_realsz f_factsOfz f_possiblez))))) 0 0 := by
  refine ct_of rfl rfl ?_
  intro X C hT hin hro
  show WW X 1 E 0 [(0, .ref hm)] [] [(hm, .inr (12, [.ref m_manys, .ref m_reals, .ref m_factsOf, .ref m_possible, .int (nI q_undos), .int (nI q_models), .ref m_tape, .int (nI q_taped), .int q_fault, .int q_wrong, .int q_wrongAt, .int q_spot, .int q_place, .int q_token, .int q_value, .ref m_ends, .ref m_letters, .ref m_actOf, .ref m_whom, .ref m_actMany, .ref m_tokens, .ref m_afters, .ref m_afterOf, .int q_counted, .ref m_pile, .ref m_caseMany, .ref m_happen, .ref m_hasIf, .ref m_becomes, .ref m_goneOf, .ref m_heard, .ref m_pairs, .ref m_heaps, .int q_rounds, .int q_heapMany, .ref m_led, .ref m_newAt, .ref m_knowing, .ref m_firsts, .int (nI q_people), .ref m_secrets, .ref m_tried, .ref m_lanes, .ref m_lengths, .ref m_cells])), (m_manys, .inl (E.2.1 1, 18, .inl f_manys)), (m_reals, .inl (E.2.1 1, 18, .inl f_reals)), (m_factsOf, .inl (E.2.1 1, 432, .inl f_factsOf)), (m_possible, .inl (E.2.1 1, 1728, .inl f_possible))] 0 0
  have hmn0 := (hb_manys 0 (by omega)).2
  refine ww_aload_n C dX12_keep_0 0 rfl rfl ?_
  refine ww_get C fg_X12_7 0 rfl rfl dX12_keep_1 ?_
  refine ww_iconst (v := 0) C dX12_keep_4 rfl ?_
  have hbx_1 := (hb_manys 0 (by omega)).2
  refine ww_iald (v := (nI (cN f_manys 0))) C 1 rfl (vin rfl) (hb_manys 0 (by omega)).1 dX12_keep_5 ?_
  refine ww_if_ne (tgt := 12) C dX12_keep_6 (by decide) (fun c_2 => ?_) (fun c_2 => ?_)
  · have zc_2 : ((cN f_manys 0 : Nat) : Int) ≠ 0 := i_ne (nI_toInt (n := cN f_manys 0) (by omega)) rfl c_2
    refine ww_aload_n C dX12_keep_12 0 rfl rfl ?_
    refine ww_get C fg_X12_304 0 rfl rfl dX12_keep_13 ?_
    refine ww_iconst (v := 4) C dX12_keep_16 rfl ?_
    refine ww_icmp_ne (tgt := 23) C dX12_keep_17 (by decide) (fun c_3 => ?_) (fun c_3 => ?_)
    · have zc_3 : ((q_models : Nat) : Int) ≠ 4 := i_ne (nI_toInt (n := q_models) (by omega)) rfl c_3
      refine ww_aload_n C dX12_keep_23 0 rfl rfl ?_
      refine ww_iconst (v := 0) C dX12_keep_24 rfl ?_
      refine ww_bipush (v := 6) C dX12_keep_25 rfl ?_
      refine ww_aload_n C dX12_keep_27 0 rfl rfl ?_
      refine ww_get C fg_X12_304 0 rfl rfl dX12_keep_28 ?_
      refine ww_iadd (v := (nI (6 + q_models))) C dX12_keep_31 (nI_add 6 q_models) ?_
      refine ww_cv (wr := []) (k' := 0) (n' := 0) C (run_V (As := [.int 0, .int (nI (6 + q_models))]) (rest := []) C (r_copy X.2.1 E ro hm 0 (6 + q_models) m_manys m_reals m_factsOf m_possible q_undos q_models m_tape q_taped q_fault q_wrong q_wrongAt q_spot q_place q_token q_value m_ends m_letters m_actOf m_whom m_actMany m_tokens m_afters m_afterOf q_counted m_pile m_caseMany m_happen m_hasIf m_becomes m_goneOf m_heard m_pairs m_heaps q_rounds q_heapMany m_led m_newAt m_knowing m_firsts q_people m_secrets m_tried m_lanes m_lengths m_cells f_manys f_reals f_factsOf f_possible hb_manys hb_reals hpg hwf (by omega) (by omega)) mi_X12_copy wl_X12_109 rfl 0 12 rfl rfl rfl rfl rfl dX12_keep_32) (roK hro) [0, 1, 2, 3, 4] [] rfl rfl rfl rfl (fun uz hw => ?_)
      refine ex4 hw ?_
      clear hw
      intro f_manysz_5 f_realsz_6 f_factsOfz_7 f_possiblez_8 hw
      refine an8 hw ?_
      clear hw
      intro he_18 h_9 h_10 h_11 h_12 h_13 h_14 h_15 hw
      refine an1 hw ?_
      clear hw
      intro h_16 hw
      have h_17 := hw
      clear hw
      subst he_18
      refine ww_eq (ws' := [(hm, .inr (12, [.ref m_manys, .ref m_reals, .ref m_factsOf, .ref m_possible, .int (nI q_undos), .int (nI q_models), .ref m_tape, .int (nI q_taped), .int q_fault, .int q_wrong, .int q_wrongAt, .int q_spot, .int q_place, .int q_token, .int q_value, .ref m_ends, .ref m_letters, .ref m_actOf, .ref m_whom, .ref m_actMany, .ref m_tokens, .ref m_afters, .ref m_afterOf, .int q_counted, .ref m_pile, .ref m_caseMany, .ref m_happen, .ref m_hasIf, .ref m_becomes, .ref m_goneOf, .ref m_heard, .ref m_pairs, .ref m_heaps, .int q_rounds, .int q_heapMany, .ref m_led, .ref m_newAt, .ref m_knowing, .ref m_firsts, .int (nI q_people), .ref m_secrets, .ref m_tried, .ref m_lanes, .ref m_lengths, .ref m_cells])), (m_manys, .inl (E.2.1 1, 18, .inl f_manysz_5)), (m_reals, .inl (E.2.1 1, 18, .inl f_realsz_6)), (m_factsOf, .inl (E.2.1 1, 432, .inl f_factsOfz_7)), (m_possible, .inl (E.2.1 1, 1728, .inl f_possiblez_8))]) ?_ rfl rfl rfl
      refine ww_aload_n C dX12_keep_35 0 rfl rfl ?_
      refine ww_dup C dX12_keep_36 rfl ?_
      refine ww_get C fg_X12_304 0 rfl rfl dX12_keep_37 ?_
      refine ww_iconst (v := 1) C dX12_keep_40 rfl ?_
      refine ww_iadd (v := (nI (q_models + 1))) C dX12_keep_41 (nI_add q_models 1) ?_
      refine ww_put (ws' := [(hm, .inr (12, [.ref m_manys, .ref m_reals, .ref m_factsOf, .ref m_possible, .int (nI q_undos), .int (nI (q_models + 1)), .ref m_tape, .int (nI q_taped), .int q_fault, .int q_wrong, .int q_wrongAt, .int q_spot, .int q_place, .int q_token, .int q_value, .ref m_ends, .ref m_letters, .ref m_actOf, .ref m_whom, .ref m_actMany, .ref m_tokens, .ref m_afters, .ref m_afterOf, .int q_counted, .ref m_pile, .ref m_caseMany, .ref m_happen, .ref m_hasIf, .ref m_becomes, .ref m_goneOf, .ref m_heard, .ref m_pairs, .ref m_heaps, .int q_rounds, .int q_heapMany, .ref m_led, .ref m_newAt, .ref m_knowing, .ref m_firsts, .int (nI q_people), .ref m_secrets, .ref m_tried, .ref m_lanes, .ref m_lengths, .ref m_cells])), (m_manys, .inl (E.2.1 1, 18, .inl f_manysz_5)), (m_reals, .inl (E.2.1 1, 18, .inl f_realsz_6)), (m_factsOf, .inl (E.2.1 1, 432, .inl f_factsOfz_7)), (m_possible, .inl (E.2.1 1, 1728, .inl f_possiblez_8))]) C fp_X12_304 0 rfl rfl rfl rfl rfl dX12_keep_42 ?_
      refine ww_aload_n C dX12_keep_45 0 rfl rfl ?_
      refine ww_get C fg_X12_304 0 rfl rfl dX12_keep_46 ?_
      refine ww_iconst (v := 1) C dX12_keep_49 rfl ?_
      refine ww_isub (v := (nI ((q_models + 1) - 1))) C dX12_keep_50 (pk_sub (a := (q_models + 1)) (b := 1) (by omega)) ?_
      exact ww_iret (u := [(hm, .inr (12, [.ref m_manys, .ref m_reals, .ref m_factsOf, .ref m_possible, .int (nI q_undos), .int (nI (q_models + 1)), .ref m_tape, .int (nI q_taped), .int q_fault, .int q_wrong, .int q_wrongAt, .int q_spot, .int q_place, .int q_token, .int q_value, .ref m_ends, .ref m_letters, .ref m_actOf, .ref m_whom, .ref m_actMany, .ref m_tokens, .ref m_afters, .ref m_afterOf, .int q_counted, .ref m_pile, .ref m_caseMany, .ref m_happen, .ref m_hasIf, .ref m_becomes, .ref m_goneOf, .ref m_heard, .ref m_pairs, .ref m_heaps, .int q_rounds, .int q_heapMany, .ref m_led, .ref m_newAt, .ref m_knowing, .ref m_firsts, .int (nI q_people), .ref m_secrets, .ref m_tried, .ref m_lanes, .ref m_lengths, .ref m_cells])), (m_manys, .inl (E.2.1 1, 18, .inl f_manysz_5)), (m_reals, .inl (E.2.1 1, 18, .inl f_realsz_6)), (m_factsOf, .inl (E.2.1 1, 432, .inl f_factsOfz_7)), (m_possible, .inl (E.2.1 1, 1728, .inl f_possiblez_8))]) C hT [0, 1, 2, 3, 4] rfl rfl rfl rfl dX12_keep_51 (⟨(q_models + 1), f_manysz_5, f_realsz_6, f_factsOfz_7, f_possiblez_8, rfl, h_9, h_10, h_11, h_12, (by omega), (Or.inr (Or.inr ⟨by omega, by omega, rfl, rfl, (show cN f_reals 0 < cN f_manys 0 by have := hpg 0 (by omega); omega), (kp_copy h_17 (by omega)).2⟩)), (kp_copy h_17 (by omega)).1⟩)
    · have zc_3 : ((q_models : Nat) : Int) = 4 := i_eq (nI_toInt (n := q_models) (by omega)) rfl c_3
      refine ww_bipush (v := (-3)) C dX12_keep_20 rfl ?_
      exact ww_iret (u := [(hm, .inr (12, [.ref m_manys, .ref m_reals, .ref m_factsOf, .ref m_possible, .int (nI q_undos), .int (nI q_models), .ref m_tape, .int (nI q_taped), .int q_fault, .int q_wrong, .int q_wrongAt, .int q_spot, .int q_place, .int q_token, .int q_value, .ref m_ends, .ref m_letters, .ref m_actOf, .ref m_whom, .ref m_actMany, .ref m_tokens, .ref m_afters, .ref m_afterOf, .int q_counted, .ref m_pile, .ref m_caseMany, .ref m_happen, .ref m_hasIf, .ref m_becomes, .ref m_goneOf, .ref m_heard, .ref m_pairs, .ref m_heaps, .int q_rounds, .int q_heapMany, .ref m_led, .ref m_newAt, .ref m_knowing, .ref m_firsts, .int (nI q_people), .ref m_secrets, .ref m_tried, .ref m_lanes, .ref m_lengths, .ref m_cells])), (m_manys, .inl (E.2.1 1, 18, .inl f_manys)), (m_reals, .inl (E.2.1 1, 18, .inl f_reals)), (m_factsOf, .inl (E.2.1 1, 432, .inl f_factsOf)), (m_possible, .inl (E.2.1 1, 1728, .inl f_possible))]) C hT [0, 1, 2, 3, 4] rfl rfl rfl rfl dX12_keep_22 (⟨q_models, f_manys, f_reals, f_factsOf, f_possible, rfl, hb_manys, hb_reals, hpg, hwf, (by omega), (Or.inr (Or.inl ⟨by omega, by omega, rfl, rfl, fun _ _ => rfl⟩)), KPU.rf⟩)
  · have zc_2 : ((cN f_manys 0 : Nat) : Int) = 0 := i_eq (nI_toInt (n := cN f_manys 0) (by omega)) rfl c_2
    refine ww_bipush (v := (-2)) C dX12_keep_9 rfl ?_
    exact ww_iret (u := [(hm, .inr (12, [.ref m_manys, .ref m_reals, .ref m_factsOf, .ref m_possible, .int (nI q_undos), .int (nI q_models), .ref m_tape, .int (nI q_taped), .int q_fault, .int q_wrong, .int q_wrongAt, .int q_spot, .int q_place, .int q_token, .int q_value, .ref m_ends, .ref m_letters, .ref m_actOf, .ref m_whom, .ref m_actMany, .ref m_tokens, .ref m_afters, .ref m_afterOf, .int q_counted, .ref m_pile, .ref m_caseMany, .ref m_happen, .ref m_hasIf, .ref m_becomes, .ref m_goneOf, .ref m_heard, .ref m_pairs, .ref m_heaps, .int q_rounds, .int q_heapMany, .ref m_led, .ref m_newAt, .ref m_knowing, .ref m_firsts, .int (nI q_people), .ref m_secrets, .ref m_tried, .ref m_lanes, .ref m_lengths, .ref m_cells])), (m_manys, .inl (E.2.1 1, 18, .inl f_manys)), (m_reals, .inl (E.2.1 1, 18, .inl f_reals)), (m_factsOf, .inl (E.2.1 1, 432, .inl f_factsOf)), (m_possible, .inl (E.2.1 1, 1728, .inl f_possible))]) C hT [0, 1, 2, 3, 4] rfl rfl rfl rfl dX12_keep_11 (⟨q_models, f_manys, f_reals, f_factsOf, f_possible, rfl, hb_manys, hb_reals, hpg, hwf, (by omega), (Or.inl ⟨by omega, rfl, rfl, fun _ _ => rfl⟩), KPU.rf⟩)
theorem dX12_isModel_0 : decode cX12_isModel 0 = .ok (.iload_n 1, 1) := dl_27 (by decide +kernel)
theorem dX12_isModel_1 : decode cX12_isModel 1 = .ok (.i2l, 1) := dl_133 (by decide +kernel)
theorem dX12_isModel_2 : decode cX12_isModel 2 = .ok (.lconst 0, 1) := dl_9 (by decide +kernel)
theorem dX12_isModel_3 : decode cX12_isModel 3 = .ok (.aload_n 0, 1) := dl_42 (by decide +kernel)
theorem dX12_isModel_4 : decode cX12_isModel 4 = .ok (.getfield 304, 3) := dl_180 (by decide +kernel)
theorem dX12_isModel_7 : decode cX12_isModel 7 = .ok (.iconst 1, 1) := dl_4 (by decide +kernel)
theorem dX12_isModel_8 : decode cX12_isModel 8 = .ok (.isub, 1) := dl_100 (by decide +kernel)
theorem dX12_isModel_9 : decode cX12_isModel 9 = .ok (.i2l, 1) := dl_133 (by decide +kernel)
theorem dX12_isModel_10 : decode cX12_isModel 10 = .ok (.invokestatic 115, 3) := dl_184 (by decide +kernel)
theorem dX12_isModel_13 : decode cX12_isModel 13 = .ok (.ireturn, 1) := dl_172 (by decide +kernel)
set_option maxRecDepth 100000 in
set_option maxHeartbeats 4000000 in
theorem r_isModel (l : Launch) (E : EV) (ro : va_W) (hm : Nat) (k : Int32) (m_manys : Nat) (m_reals : Nat) (m_factsOf : Nat) (m_possible : Nat) (q_undos : Nat) (q_models : Nat) (m_tape : Nat) (q_taped : Nat) (q_fault : Int32) (q_wrong : Int32) (q_wrongAt : Int32) (q_spot : Int32) (q_place : Int32) (q_token : Int32) (q_value : Int32) (m_ends : Nat) (m_letters : Nat) (m_actOf : Nat) (m_whom : Nat) (m_actMany : Nat) (m_tokens : Nat) (m_afters : Nat) (m_afterOf : Nat) (q_counted : Int32) (m_pile : Nat) (m_caseMany : Nat) (m_happen : Nat) (m_hasIf : Nat) (m_becomes : Nat) (m_goneOf : Nat) (m_heard : Nat) (m_pairs : Nat) (m_heaps : Nat) (q_rounds : Int32) (q_heapMany : Int32) (m_led : Nat) (m_newAt : Nat) (m_knowing : Nat) (m_firsts : Nat) (q_people : Nat) (m_secrets : Nat) (m_tried : Nat) (m_lanes : Nat) (m_lengths : Nat) (m_cells : Nat) (hq_models : q_models ≤ 4) : CT l yX12_isModel (Cond.code yX12_isModel cX12_isModel 2 (some .boolean) :: TB) ({ frames := 1, cells := 0, slots := 0, locals := 25 }) E ro [.ref hm, .int k] [(hm, .inr (12, [.ref m_manys, .ref m_reals, .ref m_factsOf, .ref m_possible, .int (nI q_undos), .int (nI q_models), .ref m_tape, .int (nI q_taped), .int q_fault, .int q_wrong, .int q_wrongAt, .int q_spot, .int q_place, .int q_token, .int q_value, .ref m_ends, .ref m_letters, .ref m_actOf, .ref m_whom, .ref m_actMany, .ref m_tokens, .ref m_afters, .ref m_afterOf, .int q_counted, .ref m_pile, .ref m_caseMany, .ref m_happen, .ref m_hasIf, .ref m_becomes, .ref m_goneOf, .ref m_heard, .ref m_pairs, .ref m_heaps, .int q_rounds, .int q_heapMany, .ref m_led, .ref m_newAt, .ref m_knowing, .ref m_firsts, .int (nI q_people), .ref m_secrets, .ref m_tried, .ref m_lanes, .ref m_lengths, .ref m_cells]))] (Qi E (fun (rz : Int32) uz => (rz = 1 ∧ uz = [(hm, .inr (12, [.ref m_manys, .ref m_reals, .ref m_factsOf, .ref m_possible, .int (nI q_undos), .int (nI q_models), .ref m_tape, .int (nI q_taped), .int q_fault, .int q_wrong, .int q_wrongAt, .int q_spot, .int q_place, .int q_token, .int q_value, .ref m_ends, .ref m_letters, .ref m_actOf, .ref m_whom, .ref m_actMany, .ref m_tokens, .ref m_afters, .ref m_afterOf, .int q_counted, .ref m_pile, .ref m_caseMany, .ref m_happen, .ref m_hasIf, .ref m_becomes, .ref m_goneOf, .ref m_heard, .ref m_pairs, .ref m_heaps, .int q_rounds, .int q_heapMany, .ref m_led, .ref m_newAt, .ref m_knowing, .ref m_firsts, .int (nI q_people), .ref m_secrets, .ref m_tried, .ref m_lanes, .ref m_lengths, .ref m_cells]))] ∧ (0 ≤ k.toInt) ∧ (k.toInt < q_models)) ∨ (rz = 0 ∧ uz = [(hm, .inr (12, [.ref m_manys, .ref m_reals, .ref m_factsOf, .ref m_possible, .int (nI q_undos), .int (nI q_models), .ref m_tape, .int (nI q_taped), .int q_fault, .int q_wrong, .int q_wrongAt, .int q_spot, .int q_place, .int q_token, .int q_value, .ref m_ends, .ref m_letters, .ref m_actOf, .ref m_whom, .ref m_actMany, .ref m_tokens, .ref m_afters, .ref m_afterOf, .int q_counted, .ref m_pile, .ref m_caseMany, .ref m_happen, .ref m_hasIf, .ref m_becomes, .ref m_goneOf, .ref m_heard, .ref m_pairs, .ref m_heaps, .int q_rounds, .int q_heapMany, .ref m_led, .ref m_newAt, .ref m_knowing, .ref m_firsts, .int (nI q_people), .ref m_secrets, .ref m_tried, .ref m_lanes, .ref m_lengths, .ref m_cells]))] ∧ (k.toInt < 0 ∨ (q_models : Int) ≤ k.toInt)))) 0 0 := by
  refine ct_of rfl rfl ?_
  intro X C hT hin hro
  show WW X 2 E 0 [(0, .ref hm), (1, .int k)] [] [(hm, .inr (12, [.ref m_manys, .ref m_reals, .ref m_factsOf, .ref m_possible, .int (nI q_undos), .int (nI q_models), .ref m_tape, .int (nI q_taped), .int q_fault, .int q_wrong, .int q_wrongAt, .int q_spot, .int q_place, .int q_token, .int q_value, .ref m_ends, .ref m_letters, .ref m_actOf, .ref m_whom, .ref m_actMany, .ref m_tokens, .ref m_afters, .ref m_afterOf, .int q_counted, .ref m_pile, .ref m_caseMany, .ref m_happen, .ref m_hasIf, .ref m_becomes, .ref m_goneOf, .ref m_heard, .ref m_pairs, .ref m_heaps, .int q_rounds, .int q_heapMany, .ref m_led, .ref m_newAt, .ref m_knowing, .ref m_firsts, .int (nI q_people), .ref m_secrets, .ref m_tried, .ref m_lanes, .ref m_lengths, .ref m_cells]))] 0 0
  refine ww_iload_n C dX12_isModel_0 1 rfl rfl ?_
  refine ww_i2l (v := k.toInt64) C dX12_isModel_1 rfl ?_
  refine ww_lconst (v := 0) C dX12_isModel_2 rfl ?_
  refine ww_aload_n C dX12_isModel_3 0 rfl rfl ?_
  refine ww_get C fg_X12_304 0 rfl rfl dX12_isModel_4 ?_
  refine ww_iconst (v := 1) C dX12_isModel_7 rfl ?_
  obtain ⟨x_1, ex_1⟩ : ∃ z : Int32, (nI q_models) - (1 : Int32) = z := ⟨_, rfl⟩
  have zx_1 : x_1.toInt = ((q_models : Nat) : Int) - 1 := by rw [← ex_1]; exact i_sub (nI_toInt (n := q_models) (by omega)) rfl (by omega) (by omega)
  refine ww_isub (v := x_1) C dX12_isModel_8 ex_1 ?_
  refine ww_i2l (v := x_1.toInt64) C dX12_isModel_9 rfl ?_
  refine ww_ci (wr := [(hm, .inr (12, [.ref m_manys, .ref m_reals, .ref m_factsOf, .ref m_possible, .int (nI q_undos), .int (nI q_models), .ref m_tape, .int (nI q_taped), .int q_fault, .int q_wrong, .int q_wrongAt, .int q_spot, .int q_place, .int q_token, .int q_value, .ref m_ends, .ref m_letters, .ref m_actOf, .ref m_whom, .ref m_actMany, .ref m_tokens, .ref m_afters, .ref m_afterOf, .int q_counted, .ref m_pile, .ref m_caseMany, .ref m_happen, .ref m_hasIf, .ref m_becomes, .ref m_goneOf, .ref m_heard, .ref m_pairs, .ref m_heaps, .int q_rounds, .int q_heapMany, .ref m_led, .ref m_newAt, .ref m_knowing, .ref m_firsts, .int (nI q_people), .ref m_secrets, .ref m_tried, .ref m_lanes, .ref m_lengths, .ref m_cells]))]) (k' := 0) (n' := 0) C (run_S (As := [.long k.toInt64, .long 0, .long x_1.toInt64]) (rest := []) C (r_in X.2.1 E ro k.toInt64 0 x_1.toInt64 k.toInt 0 (((q_models : Nat) : Int) - 1) (Int32.toInt_toInt64 _) rfl ((Int32.toInt_toInt64 _).trans zx_1)) ms_X12_in wl_X12_115 rfl rfl rfl rfl dX12_isModel_10) (roK hro) [] [0] rfl rfl rfl rfl (fun r_2 uz hw => ?_)
  rcases hw with hw | hw
  · refine an3 hw ?_
    clear hw
    intro he_5 he_6 h_3 hw
    have h_4 := hw
    clear hw
    have he_5 := he_5.symm
    subst he_5
    subst he_6
    refine ww_eq (ws' := [(hm, .inr (12, [.ref m_manys, .ref m_reals, .ref m_factsOf, .ref m_possible, .int (nI q_undos), .int (nI q_models), .ref m_tape, .int (nI q_taped), .int q_fault, .int q_wrong, .int q_wrongAt, .int q_spot, .int q_place, .int q_token, .int q_value, .ref m_ends, .ref m_letters, .ref m_actOf, .ref m_whom, .ref m_actMany, .ref m_tokens, .ref m_afters, .ref m_afterOf, .int q_counted, .ref m_pile, .ref m_caseMany, .ref m_happen, .ref m_hasIf, .ref m_becomes, .ref m_goneOf, .ref m_heard, .ref m_pairs, .ref m_heaps, .int q_rounds, .int q_heapMany, .ref m_led, .ref m_newAt, .ref m_knowing, .ref m_firsts, .int (nI q_people), .ref m_secrets, .ref m_tried, .ref m_lanes, .ref m_lengths, .ref m_cells]))]) ?_ rfl rfl rfl
    exact ww_zret (u := [(hm, .inr (12, [.ref m_manys, .ref m_reals, .ref m_factsOf, .ref m_possible, .int (nI q_undos), .int (nI q_models), .ref m_tape, .int (nI q_taped), .int q_fault, .int q_wrong, .int q_wrongAt, .int q_spot, .int q_place, .int q_token, .int q_value, .ref m_ends, .ref m_letters, .ref m_actOf, .ref m_whom, .ref m_actMany, .ref m_tokens, .ref m_afters, .ref m_afterOf, .int q_counted, .ref m_pile, .ref m_caseMany, .ref m_happen, .ref m_hasIf, .ref m_becomes, .ref m_goneOf, .ref m_heard, .ref m_pairs, .ref m_heaps, .int q_rounds, .int q_heapMany, .ref m_led, .ref m_newAt, .ref m_knowing, .ref m_firsts, .int (nI q_people), .ref m_secrets, .ref m_tried, .ref m_lanes, .ref m_lengths, .ref m_cells]))]) C hT [0] rfl rfl rfl rfl rfl dX12_isModel_13 (Or.inl ⟨rfl, rfl, (by first | assumption | omega | decide), (by first | assumption | omega | decide)⟩)
  · refine an2 hw ?_
    clear hw
    intro he_8 he_9 hw
    have h_7 := hw
    clear hw
    have he_8 := he_8.symm
    subst he_8
    subst he_9
    refine ww_eq (ws' := [(hm, .inr (12, [.ref m_manys, .ref m_reals, .ref m_factsOf, .ref m_possible, .int (nI q_undos), .int (nI q_models), .ref m_tape, .int (nI q_taped), .int q_fault, .int q_wrong, .int q_wrongAt, .int q_spot, .int q_place, .int q_token, .int q_value, .ref m_ends, .ref m_letters, .ref m_actOf, .ref m_whom, .ref m_actMany, .ref m_tokens, .ref m_afters, .ref m_afterOf, .int q_counted, .ref m_pile, .ref m_caseMany, .ref m_happen, .ref m_hasIf, .ref m_becomes, .ref m_goneOf, .ref m_heard, .ref m_pairs, .ref m_heaps, .int q_rounds, .int q_heapMany, .ref m_led, .ref m_newAt, .ref m_knowing, .ref m_firsts, .int (nI q_people), .ref m_secrets, .ref m_tried, .ref m_lanes, .ref m_lengths, .ref m_cells]))]) ?_ rfl rfl rfl
    exact ww_zret (u := [(hm, .inr (12, [.ref m_manys, .ref m_reals, .ref m_factsOf, .ref m_possible, .int (nI q_undos), .int (nI q_models), .ref m_tape, .int (nI q_taped), .int q_fault, .int q_wrong, .int q_wrongAt, .int q_spot, .int q_place, .int q_token, .int q_value, .ref m_ends, .ref m_letters, .ref m_actOf, .ref m_whom, .ref m_actMany, .ref m_tokens, .ref m_afters, .ref m_afterOf, .int q_counted, .ref m_pile, .ref m_caseMany, .ref m_happen, .ref m_hasIf, .ref m_becomes, .ref m_goneOf, .ref m_heard, .ref m_pairs, .ref m_heaps, .int q_rounds, .int q_heapMany, .ref m_led, .ref m_newAt, .ref m_knowing, .ref m_firsts, .int (nI q_people), .ref m_secrets, .ref m_tried, .ref m_lanes, .ref m_lengths, .ref m_cells]))]) C hT [0] rfl rfl rfl rfl rfl dX12_isModel_13 (Or.inr ⟨rfl, rfl, (by first | assumption | omega | decide)⟩)
theorem dX12_stand_0 : decode cX12_stand 0 = .ok (.aload_n 0, 1) := dl_42 (by decide +kernel)
theorem dX12_stand_1 : decode cX12_stand 1 = .ok (.iload_n 1, 1) := dl_27 (by decide +kernel)
theorem dX12_stand_2 : decode cX12_stand 2 = .ok (.invokevirtual 307, 3) := dl_182 (by decide +kernel)
theorem wl_X12_307 : Cond.methodLink RX12 307 yX12_isModel ∈ TB := tbm (tq7 (List.mem_of_getElem? (i := 9) (by decide +kernel))) (by decide +kernel)
theorem wc_X12_isModel : Cond.code yX12_isModel cX12_isModel 2 (some .boolean) ∈ TB := tbm (tq7 (List.mem_of_getElem? (i := 12) (rfl))) (by decide +kernel)
theorem wi_X12_isModel : Cond.instanceMethod yX12_isModel ∈ TB := tbm (tq7 (List.mem_of_getElem? (i := 11) (by decide +kernel))) (by decide +kernel)
theorem ws_X12_isModel : Cond.selects RX12 yX12_isModel yX12_isModel ∈ TB := tbm (tq0 (List.mem_of_getElem? (i := 73) (by decide +kernel))) (by decide +kernel)
theorem mi_X12_isModel : MI yX12_isModel cX12_isModel 2 (some .boolean) 1 := ⟨wc_X12_isModel, wn_X12, ⟨by decide +kernel, by decide +kernel, by decide +kernel⟩, wi_X12_isModel, ws_X12_isModel⟩
theorem dX12_stand_5 : decode cX12_stand 5 = .ok (.ifCond .ne 5, 3) := dl_154 (by decide +kernel)
theorem dX12_stand_10 : decode cX12_stand 10 = .ok (.aload_n 0, 1) := dl_42 (by decide +kernel)
theorem dX12_stand_11 : decode cX12_stand 11 = .ok (.invokevirtual 121, 3) := dl_182 (by decide +kernel)
theorem dX12_stand_14 : decode cX12_stand 14 = .ok (.aload_n 0, 1) := dl_42 (by decide +kernel)
theorem dX12_stand_15 : decode cX12_stand 15 = .ok (.bipush 6, 2) := dl_16 (by decide +kernel)
theorem dX12_stand_17 : decode cX12_stand 17 = .ok (.iload_n 1, 1) := dl_27 (by decide +kernel)
theorem dX12_stand_18 : decode cX12_stand 18 = .ok (.iadd, 1) := dl_96 (by decide +kernel)
theorem dX12_stand_19 : decode cX12_stand 19 = .ok (.iconst 0, 1) := dl_3 (by decide +kernel)
theorem dX12_stand_20 : decode cX12_stand 20 = .ok (.invokevirtual 109, 3) := dl_182 (by decide +kernel)
theorem dX12_stand_23 : decode cX12_stand 23 = .ok (.iconst 1, 1) := dl_4 (by decide +kernel)
theorem dX12_stand_24 : decode cX12_stand 24 = .ok (.ireturn, 1) := dl_172 (by decide +kernel)
theorem dX12_stand_8 : decode cX12_stand 8 = .ok (.iconst (-1), 1) := dl_2 (by decide +kernel)
theorem dX12_stand_9 : decode cX12_stand 9 = .ok (.ireturn, 1) := dl_172 (by decide +kernel)
set_option maxRecDepth 100000 in
set_option maxHeartbeats 4000000 in
theorem y_stand (l : Launch) (E : EV) (ro : va_W) (hm : Nat) (v0 : Int32) (m_manys : Nat) (m_reals : Nat) (m_factsOf : Nat) (m_possible : Nat) (q_undos : Nat) (q_models : Nat) (m_tape : Nat) (q_taped : Nat) (q_fault : Int32) (q_wrong : Int32) (q_wrongAt : Int32) (q_spot : Int32) (q_place : Int32) (q_token : Int32) (q_value : Int32) (m_ends : Nat) (m_letters : Nat) (m_actOf : Nat) (m_whom : Nat) (m_actMany : Nat) (m_tokens : Nat) (m_afters : Nat) (m_afterOf : Nat) (q_counted : Int32) (m_pile : Nat) (m_caseMany : Nat) (m_happen : Nat) (m_hasIf : Nat) (m_becomes : Nat) (m_goneOf : Nat) (m_heard : Nat) (m_pairs : Nat) (m_heaps : Nat) (q_rounds : Int32) (q_heapMany : Int32) (m_led : Nat) (m_newAt : Nat) (m_knowing : Nat) (m_firsts : Nat) (q_people : Nat) (m_secrets : Nat) (m_tried : Nat) (m_lanes : Nat) (m_lengths : Nat) (m_cells : Nat) (f_manys : Nat → Int32) (f_reals : Nat → Int32) (f_factsOf : Nat → Int32) (f_possible : Nat → Int32) (hb_manys : NB 18 24 f_manys) (hb_reals : NB 18 23 f_reals) (hpg : PG f_manys f_reals) (hwf : WFP (pgs f_manys f_reals f_factsOf f_possible)) (hq_undos : q_undos ≤ 8) (hq_models : q_models ≤ 4) : CT l yX12_stand (Cond.code yX12_stand cX12_stand 2 (some .int) :: TB) ({ frames := 2, cells := 0, slots := 0, locals := 46 }) E ro [.ref hm, .int v0] [(hm, .inr (12, [.ref m_manys, .ref m_reals, .ref m_factsOf, .ref m_possible, .int (nI q_undos), .int (nI q_models), .ref m_tape, .int (nI q_taped), .int q_fault, .int q_wrong, .int q_wrongAt, .int q_spot, .int q_place, .int q_token, .int q_value, .ref m_ends, .ref m_letters, .ref m_actOf, .ref m_whom, .ref m_actMany, .ref m_tokens, .ref m_afters, .ref m_afterOf, .int q_counted, .ref m_pile, .ref m_caseMany, .ref m_happen, .ref m_hasIf, .ref m_becomes, .ref m_goneOf, .ref m_heard, .ref m_pairs, .ref m_heaps, .int q_rounds, .int q_heapMany, .ref m_led, .ref m_newAt, .ref m_knowing, .ref m_firsts, .int (nI q_people), .ref m_secrets, .ref m_tried, .ref m_lanes, .ref m_lengths, .ref m_cells])), (m_manys, .inl (E.2.1 1, 18, .inl f_manys)), (m_reals, .inl (E.2.1 1, 18, .inl f_reals)), (m_factsOf, .inl (E.2.1 1, 432, .inl f_factsOf)), (m_possible, .inl (E.2.1 1, 1728, .inl f_possible))] (Qi E (fun (rz : Int32) uz => (∃ (uz_ : Nat) (f_manysz : Nat → Int32) (f_realsz : Nat → Int32) (f_factsOfz : Nat → Int32) (f_possiblez : Nat → Int32), uz = [(hm, .inr (12, [.ref m_manys, .ref m_reals, .ref m_factsOf, .ref m_possible, .int (nI uz_), .int (nI q_models), .ref m_tape, .int (nI q_taped), .int q_fault, .int q_wrong, .int q_wrongAt, .int q_spot, .int q_place, .int q_token, .int q_value, .ref m_ends, .ref m_letters, .ref m_actOf, .ref m_whom, .ref m_actMany, .ref m_tokens, .ref m_afters, .ref m_afterOf, .int q_counted, .ref m_pile, .ref m_caseMany, .ref m_happen, .ref m_hasIf, .ref m_becomes, .ref m_goneOf, .ref m_heard, .ref m_pairs, .ref m_heaps, .int q_rounds, .int q_heapMany, .ref m_led, .ref m_newAt, .ref m_knowing, .ref m_firsts, .int (nI q_people), .ref m_secrets, .ref m_tried, .ref m_lanes, .ref m_lengths, .ref m_cells])), (m_manys, .inl (E.2.1 1, 18, .inl f_manysz)), (m_reals, .inl (E.2.1 1, 18, .inl f_realsz)), (m_factsOf, .inl (E.2.1 1, 432, .inl f_factsOfz)), (m_possible, .inl (E.2.1 1, 1728, .inl f_possiblez))] ∧ (NB 18 24 f_manysz) ∧ (NB 18 23 f_realsz) ∧ (PG f_manysz f_realsz) ∧ (WFP (pgs f_manysz f_realsz f_factsOfz f_possiblez)) ∧ (uz_ ≤ 8) ∧ ((asM uz_ (pgs f_manysz f_realsz f_factsOfz f_possiblez), rz) = opStand (asM q_undos (pgs f_manys f_reals f_factsOf f_possible)) q_models (fun j => pgs f_manys f_reals f_factsOf f_possible (6 + j)) v0) ∧ (KP6 (pgs f_manys f_reals f_factsOf f_possible) (pgs f_manysz f_realsz f_factsOfz f_possiblez))))) 0 0 := by
  refine ct_of rfl rfl ?_
  intro X C hT hin hro
  show WW X 2 E 0 [(0, .ref hm), (1, .int v0)] [] [(hm, .inr (12, [.ref m_manys, .ref m_reals, .ref m_factsOf, .ref m_possible, .int (nI q_undos), .int (nI q_models), .ref m_tape, .int (nI q_taped), .int q_fault, .int q_wrong, .int q_wrongAt, .int q_spot, .int q_place, .int q_token, .int q_value, .ref m_ends, .ref m_letters, .ref m_actOf, .ref m_whom, .ref m_actMany, .ref m_tokens, .ref m_afters, .ref m_afterOf, .int q_counted, .ref m_pile, .ref m_caseMany, .ref m_happen, .ref m_hasIf, .ref m_becomes, .ref m_goneOf, .ref m_heard, .ref m_pairs, .ref m_heaps, .int q_rounds, .int q_heapMany, .ref m_led, .ref m_newAt, .ref m_knowing, .ref m_firsts, .int (nI q_people), .ref m_secrets, .ref m_tried, .ref m_lanes, .ref m_lengths, .ref m_cells])), (m_manys, .inl (E.2.1 1, 18, .inl f_manys)), (m_reals, .inl (E.2.1 1, 18, .inl f_reals)), (m_factsOf, .inl (E.2.1 1, 432, .inl f_factsOf)), (m_possible, .inl (E.2.1 1, 1728, .inl f_possible))] 0 0
  have hmn0 := (hb_manys 0 (by omega)).2
  refine ww_aload_n C dX12_stand_0 0 rfl rfl ?_
  refine ww_iload_n C dX12_stand_1 1 rfl rfl ?_
  refine ww_ci (wr := [(m_manys, .inl (E.2.1 1, 18, .inl f_manys)), (m_reals, .inl (E.2.1 1, 18, .inl f_reals)), (m_factsOf, .inl (E.2.1 1, 432, .inl f_factsOf)), (m_possible, .inl (E.2.1 1, 1728, .inl f_possible))]) (k' := 0) (n' := 0) C (run_V (As := [.int v0]) (rest := []) C (r_isModel X.2.1 E ro hm v0 m_manys m_reals m_factsOf m_possible q_undos q_models m_tape q_taped q_fault q_wrong q_wrongAt q_spot q_place q_token q_value m_ends m_letters m_actOf m_whom m_actMany m_tokens m_afters m_afterOf q_counted m_pile m_caseMany m_happen m_hasIf m_becomes m_goneOf m_heard m_pairs m_heaps q_rounds q_heapMany m_led m_newAt m_knowing m_firsts q_people m_secrets m_tried m_lanes m_lengths m_cells (by omega)) mi_X12_isModel wl_X12_307 rfl 0 12 rfl rfl rfl rfl rfl dX12_stand_2) (roK hro) [0] [1, 2, 3, 4] rfl rfl rfl rfl (fun r_1 uz hw => ?_)
  rcases hw with hw | hw
  · refine an3 hw ?_
    clear hw
    intro he_4 he_5 h_2 hw
    have h_3 := hw
    clear hw
    have he_4 := he_4.symm
    subst he_4
    subst he_5
    refine ww_eq (ws' := [(m_manys, .inl (E.2.1 1, 18, .inl f_manys)), (m_reals, .inl (E.2.1 1, 18, .inl f_reals)), (m_factsOf, .inl (E.2.1 1, 432, .inl f_factsOf)), (m_possible, .inl (E.2.1 1, 1728, .inl f_possible)), (hm, .inr (12, [.ref m_manys, .ref m_reals, .ref m_factsOf, .ref m_possible, .int (nI q_undos), .int (nI q_models), .ref m_tape, .int (nI q_taped), .int q_fault, .int q_wrong, .int q_wrongAt, .int q_spot, .int q_place, .int q_token, .int q_value, .ref m_ends, .ref m_letters, .ref m_actOf, .ref m_whom, .ref m_actMany, .ref m_tokens, .ref m_afters, .ref m_afterOf, .int q_counted, .ref m_pile, .ref m_caseMany, .ref m_happen, .ref m_hasIf, .ref m_becomes, .ref m_goneOf, .ref m_heard, .ref m_pairs, .ref m_heaps, .int q_rounds, .int q_heapMany, .ref m_led, .ref m_newAt, .ref m_knowing, .ref m_firsts, .int (nI q_people), .ref m_secrets, .ref m_tried, .ref m_lanes, .ref m_lengths, .ref m_cells]))]) ?_ rfl rfl rfl
    refine ww_if_ne_t (tgt := 10) C dX12_stand_5 (by decide) (by decide) ?_
    obtain ⟨j_9, hj_9, rfl⟩ := i_nat (x := v0) (N := 3) (by omega) (by omega)
    have hzj_9 := nI_toInt (n := j_9) (by omega)
    refine ww_aload_n C dX12_stand_10 0 rfl rfl ?_
    refine ww_cv (wr := []) (k' := 0) (n' := 0) C (run_V (As := []) (rest := []) C (r_acts X.2.1 E ro hm m_manys m_reals m_factsOf m_possible q_undos q_models m_tape q_taped q_fault q_wrong q_wrongAt q_spot q_place q_token q_value m_ends m_letters m_actOf m_whom m_actMany m_tokens m_afters m_afterOf q_counted m_pile m_caseMany m_happen m_hasIf m_becomes m_goneOf m_heard m_pairs m_heaps q_rounds q_heapMany m_led m_newAt m_knowing m_firsts q_people m_secrets m_tried m_lanes m_lengths m_cells f_manys f_reals f_factsOf f_possible hb_manys hb_reals hpg hwf (by omega)) mi_X12_acts wl_X12_121 rfl 0 12 rfl rfl rfl rfl rfl dX12_stand_11) (roK hro) [4, 0, 1, 2, 3] [] rfl rfl rfl rfl (fun uz hw => ?_)
    refine ex5 hw ?_
    clear hw
    intro uz__11 f_manysz_12 f_realsz_13 f_factsOfz_14 f_possiblez_15 hw
    refine an8 hw ?_
    clear hw
    intro he_26 h_16 h_17 h_18 h_19 h_20 h_21 h_22 hw
    refine an2 hw ?_
    clear hw
    intro h_23 h_24 hw
    have h_25 := hw
    clear hw
    subst he_26
    refine ww_eq (ws' := [(hm, .inr (12, [.ref m_manys, .ref m_reals, .ref m_factsOf, .ref m_possible, .int (nI uz__11), .int (nI q_models), .ref m_tape, .int (nI q_taped), .int q_fault, .int q_wrong, .int q_wrongAt, .int q_spot, .int q_place, .int q_token, .int q_value, .ref m_ends, .ref m_letters, .ref m_actOf, .ref m_whom, .ref m_actMany, .ref m_tokens, .ref m_afters, .ref m_afterOf, .int q_counted, .ref m_pile, .ref m_caseMany, .ref m_happen, .ref m_hasIf, .ref m_becomes, .ref m_goneOf, .ref m_heard, .ref m_pairs, .ref m_heaps, .int q_rounds, .int q_heapMany, .ref m_led, .ref m_newAt, .ref m_knowing, .ref m_firsts, .int (nI q_people), .ref m_secrets, .ref m_tried, .ref m_lanes, .ref m_lengths, .ref m_cells])), (m_manys, .inl (E.2.1 1, 18, .inl f_manysz_12)), (m_reals, .inl (E.2.1 1, 18, .inl f_realsz_13)), (m_factsOf, .inl (E.2.1 1, 432, .inl f_factsOfz_14)), (m_possible, .inl (E.2.1 1, 1728, .inl f_possiblez_15))]) ?_ rfl rfl rfl
    refine ww_aload_n C dX12_stand_14 0 rfl rfl ?_
    refine ww_bipush (v := 6) C dX12_stand_15 rfl ?_
    refine ww_iload_n C dX12_stand_17 1 rfl rfl ?_
    refine ww_iadd (v := (nI (6 + j_9))) C dX12_stand_18 (nI_add 6 j_9) ?_
    refine ww_iconst (v := 0) C dX12_stand_19 rfl ?_
    refine ww_cv (wr := []) (k' := 0) (n' := 0) C (run_V (As := [.int (nI (6 + j_9)), .int 0]) (rest := []) C (r_copy X.2.1 E ro hm (6 + j_9) 0 m_manys m_reals m_factsOf m_possible uz__11 q_models m_tape q_taped q_fault q_wrong q_wrongAt q_spot q_place q_token q_value m_ends m_letters m_actOf m_whom m_actMany m_tokens m_afters m_afterOf q_counted m_pile m_caseMany m_happen m_hasIf m_becomes m_goneOf m_heard m_pairs m_heaps q_rounds q_heapMany m_led m_newAt m_knowing m_firsts q_people m_secrets m_tried m_lanes m_lengths m_cells f_manysz_12 f_realsz_13 f_factsOfz_14 f_possiblez_15 h_16 h_17 h_18 h_19 (by omega) (by omega)) mi_X12_copy wl_X12_109 rfl 0 12 rfl rfl rfl rfl rfl dX12_stand_20) (roK hro) [0, 1, 2, 3, 4] [] rfl rfl rfl rfl (fun uz hw => ?_)
    refine ex4 hw ?_
    clear hw
    intro f_manysz_28 f_realsz_29 f_factsOfz_30 f_possiblez_31 hw
    refine an8 hw ?_
    clear hw
    intro he_41 h_32 h_33 h_34 h_35 h_36 h_37 h_38 hw
    refine an1 hw ?_
    clear hw
    intro h_39 hw
    have h_40 := hw
    clear hw
    subst he_41
    refine ww_eq (ws' := [(hm, .inr (12, [.ref m_manys, .ref m_reals, .ref m_factsOf, .ref m_possible, .int (nI uz__11), .int (nI q_models), .ref m_tape, .int (nI q_taped), .int q_fault, .int q_wrong, .int q_wrongAt, .int q_spot, .int q_place, .int q_token, .int q_value, .ref m_ends, .ref m_letters, .ref m_actOf, .ref m_whom, .ref m_actMany, .ref m_tokens, .ref m_afters, .ref m_afterOf, .int q_counted, .ref m_pile, .ref m_caseMany, .ref m_happen, .ref m_hasIf, .ref m_becomes, .ref m_goneOf, .ref m_heard, .ref m_pairs, .ref m_heaps, .int q_rounds, .int q_heapMany, .ref m_led, .ref m_newAt, .ref m_knowing, .ref m_firsts, .int (nI q_people), .ref m_secrets, .ref m_tried, .ref m_lanes, .ref m_lengths, .ref m_cells])), (m_manys, .inl (E.2.1 1, 18, .inl f_manysz_28)), (m_reals, .inl (E.2.1 1, 18, .inl f_realsz_29)), (m_factsOf, .inl (E.2.1 1, 432, .inl f_factsOfz_30)), (m_possible, .inl (E.2.1 1, 1728, .inl f_possiblez_31))]) ?_ rfl rfl rfl
    refine ww_iconst (v := 1) C dX12_stand_23 rfl ?_
    exact ww_iret (u := [(hm, .inr (12, [.ref m_manys, .ref m_reals, .ref m_factsOf, .ref m_possible, .int (nI uz__11), .int (nI q_models), .ref m_tape, .int (nI q_taped), .int q_fault, .int q_wrong, .int q_wrongAt, .int q_spot, .int q_place, .int q_token, .int q_value, .ref m_ends, .ref m_letters, .ref m_actOf, .ref m_whom, .ref m_actMany, .ref m_tokens, .ref m_afters, .ref m_afterOf, .int q_counted, .ref m_pile, .ref m_caseMany, .ref m_happen, .ref m_hasIf, .ref m_becomes, .ref m_goneOf, .ref m_heard, .ref m_pairs, .ref m_heaps, .int q_rounds, .int q_heapMany, .ref m_led, .ref m_newAt, .ref m_knowing, .ref m_firsts, .int (nI q_people), .ref m_secrets, .ref m_tried, .ref m_lanes, .ref m_lengths, .ref m_cells])), (m_manys, .inl (E.2.1 1, 18, .inl f_manysz_28)), (m_reals, .inl (E.2.1 1, 18, .inl f_realsz_29)), (m_factsOf, .inl (E.2.1 1, 432, .inl f_factsOfz_30)), (m_possible, .inl (E.2.1 1, 1728, .inl f_possiblez_31))]) C hT [0, 1, 2, 3, 4] rfl rfl rfl rfl dX12_stand_24 (⟨uz__11, f_manysz_28, f_realsz_29, f_factsOfz_30, f_possiblez_31, rfl, h_32, h_33, h_34, h_35, (by omega), (by show _ = if (nI j_9).toInt < 0 ∨ (q_models : Int) ≤ (nI j_9).toInt then (asM q_undos (pgs f_manys f_reals f_factsOf f_possible), -1) else (aRem (asM q_undos (pgs f_manys f_reals f_factsOf f_possible)) (pgs f_manys f_reals f_factsOf f_possible (6 + tN (nI j_9))), 1); rw [if_neg (show ¬ ((nI j_9).toInt < 0 ∨ (q_models : Int) ≤ (nI j_9).toInt) by omega)]; exact Prod.ext (rm_end hq_undos h_25 (fun p a b => (h_40 p b).trans (if_neg (by omega))) ((h_40 0 (by omega)).trans ((if_pos rfl).trans ((h_25.2.1 (6 + j_9) (by omega)).trans (by rw [tN_n (n := j_9) (by omega)]))))) rfl), (KP6.rem h_25 (fun p a b => (h_40 p b).trans (if_neg (by omega))))⟩)
  · refine an2 hw ?_
    clear hw
    intro he_7 he_8 hw
    have h_6 := hw
    clear hw
    have he_7 := he_7.symm
    subst he_7
    subst he_8
    refine ww_eq (ws' := [(m_manys, .inl (E.2.1 1, 18, .inl f_manys)), (m_reals, .inl (E.2.1 1, 18, .inl f_reals)), (m_factsOf, .inl (E.2.1 1, 432, .inl f_factsOf)), (m_possible, .inl (E.2.1 1, 1728, .inl f_possible)), (hm, .inr (12, [.ref m_manys, .ref m_reals, .ref m_factsOf, .ref m_possible, .int (nI q_undos), .int (nI q_models), .ref m_tape, .int (nI q_taped), .int q_fault, .int q_wrong, .int q_wrongAt, .int q_spot, .int q_place, .int q_token, .int q_value, .ref m_ends, .ref m_letters, .ref m_actOf, .ref m_whom, .ref m_actMany, .ref m_tokens, .ref m_afters, .ref m_afterOf, .int q_counted, .ref m_pile, .ref m_caseMany, .ref m_happen, .ref m_hasIf, .ref m_becomes, .ref m_goneOf, .ref m_heard, .ref m_pairs, .ref m_heaps, .int q_rounds, .int q_heapMany, .ref m_led, .ref m_newAt, .ref m_knowing, .ref m_firsts, .int (nI q_people), .ref m_secrets, .ref m_tried, .ref m_lanes, .ref m_lengths, .ref m_cells]))]) ?_ rfl rfl rfl
    refine ww_if_ne_f (tgt := 10) C dX12_stand_5 (by decide) (rfl) ?_
    refine ww_iconst (v := (-1)) C dX12_stand_8 rfl ?_
    exact ww_iret (u := [(hm, .inr (12, [.ref m_manys, .ref m_reals, .ref m_factsOf, .ref m_possible, .int (nI q_undos), .int (nI q_models), .ref m_tape, .int (nI q_taped), .int q_fault, .int q_wrong, .int q_wrongAt, .int q_spot, .int q_place, .int q_token, .int q_value, .ref m_ends, .ref m_letters, .ref m_actOf, .ref m_whom, .ref m_actMany, .ref m_tokens, .ref m_afters, .ref m_afterOf, .int q_counted, .ref m_pile, .ref m_caseMany, .ref m_happen, .ref m_hasIf, .ref m_becomes, .ref m_goneOf, .ref m_heard, .ref m_pairs, .ref m_heaps, .int q_rounds, .int q_heapMany, .ref m_led, .ref m_newAt, .ref m_knowing, .ref m_firsts, .int (nI q_people), .ref m_secrets, .ref m_tried, .ref m_lanes, .ref m_lengths, .ref m_cells])), (m_manys, .inl (E.2.1 1, 18, .inl f_manys)), (m_reals, .inl (E.2.1 1, 18, .inl f_reals)), (m_factsOf, .inl (E.2.1 1, 432, .inl f_factsOf)), (m_possible, .inl (E.2.1 1, 1728, .inl f_possible))]) C hT [4, 0, 1, 2, 3] rfl rfl rfl rfl dX12_stand_9 (⟨q_undos, f_manys, f_reals, f_factsOf, f_possible, rfl, hb_manys, hb_reals, hpg, hwf, (by omega), (by show _ = if v0.toInt < 0 ∨ (q_models : Int) ≤ v0.toInt then (asM q_undos (pgs f_manys f_reals f_factsOf f_possible), -1) else (aRem (asM q_undos (pgs f_manys f_reals f_factsOf f_possible)) (pgs f_manys f_reals f_factsOf f_possible (6 + tN v0)), 1); rw [if_pos (show v0.toInt < 0 ∨ (q_models : Int) ≤ v0.toInt by omega)]), KP6.rf⟩)
theorem dX12_same_0 : decode cX12_same 0 = .ok (.aload_n 0, 1) := dl_42 (by decide +kernel)
theorem dX12_same_1 : decode cX12_same 1 = .ok (.iload_n 1, 1) := dl_27 (by decide +kernel)
theorem dX12_same_2 : decode cX12_same 2 = .ok (.invokevirtual 307, 3) := dl_182 (by decide +kernel)
theorem dX12_same_5 : decode cX12_same 5 = .ok (.ifCond .ne 5, 3) := dl_154 (by decide +kernel)
theorem dX12_same_10 : decode cX12_same 10 = .ok (.aload_n 0, 1) := dl_42 (by decide +kernel)
theorem dX12_same_11 : decode cX12_same 11 = .ok (.getfield 7, 3) := dl_180 (by decide +kernel)
theorem dX12_same_14 : decode cX12_same 14 = .ok (.iconst 0, 1) := dl_3 (by decide +kernel)
theorem dX12_same_15 : decode cX12_same 15 = .ok (.iaload, 1) := dl_46 (by decide +kernel)
theorem dX12_same_16 : decode cX12_same 16 = .ok (.ifCond .ne 6, 3) := dl_154 (by decide +kernel)
theorem dX12_same_22 : decode cX12_same 22 = .ok (.aload_n 0, 1) := dl_42 (by decide +kernel)
theorem dX12_same_23 : decode cX12_same 23 = .ok (.iconst 0, 1) := dl_3 (by decide +kernel)
theorem dX12_same_24 : decode cX12_same 24 = .ok (.bipush 6, 2) := dl_16 (by decide +kernel)
theorem dX12_same_26 : decode cX12_same 26 = .ok (.iload_n 1, 1) := dl_27 (by decide +kernel)
theorem dX12_same_27 : decode cX12_same 27 = .ok (.iadd, 1) := dl_96 (by decide +kernel)
theorem dX12_same_28 : decode cX12_same 28 = .ok (.invokevirtual 298, 3) := dl_182 (by decide +kernel)
theorem dX12_same_31 : decode cX12_same 31 = .ok (.aload_n 0, 1) := dl_42 (by decide +kernel)
theorem dX12_same_32 : decode cX12_same 32 = .ok (.aload_n 0, 1) := dl_42 (by decide +kernel)
theorem dX12_same_33 : decode cX12_same 33 = .ok (.getfield 13, 3) := dl_180 (by decide +kernel)
theorem dX12_same_36 : decode cX12_same 36 = .ok (.iconst 0, 1) := dl_3 (by decide +kernel)
theorem dX12_same_37 : decode cX12_same 37 = .ok (.iaload, 1) := dl_46 (by decide +kernel)
theorem dX12_same_38 : decode cX12_same 38 = .ok (.invokevirtual 301, 3) := dl_182 (by decide +kernel)
theorem dX12_same_41 : decode cX12_same 41 = .ok (.aload_n 0, 1) := dl_42 (by decide +kernel)
theorem dX12_same_42 : decode cX12_same 42 = .ok (.aload_n 0, 1) := dl_42 (by decide +kernel)
theorem dX12_same_43 : decode cX12_same 43 = .ok (.getfield 7, 3) := dl_180 (by decide +kernel)
theorem dX12_same_46 : decode cX12_same 46 = .ok (.iconst 0, 1) := dl_3 (by decide +kernel)
theorem dX12_same_47 : decode cX12_same 47 = .ok (.iaload, 1) := dl_46 (by decide +kernel)
theorem dX12_same_48 : decode cX12_same 48 = .ok (.aload_n 0, 1) := dl_42 (by decide +kernel)
theorem dX12_same_49 : decode cX12_same 49 = .ok (.getfield 13, 3) := dl_180 (by decide +kernel)
theorem dX12_same_52 : decode cX12_same 52 = .ok (.bipush 6, 2) := dl_16 (by decide +kernel)
theorem dX12_same_54 : decode cX12_same 54 = .ok (.iload_n 1, 1) := dl_27 (by decide +kernel)
theorem dX12_same_55 : decode cX12_same 55 = .ok (.iadd, 1) := dl_96 (by decide +kernel)
theorem dX12_same_56 : decode cX12_same 56 = .ok (.iaload, 1) := dl_46 (by decide +kernel)
theorem dX12_same_57 : decode cX12_same 57 = .ok (.iadd, 1) := dl_96 (by decide +kernel)
theorem dX12_same_58 : decode cX12_same 58 = .ok (.invokevirtual 301, 3) := dl_182 (by decide +kernel)
theorem dX12_same_61 : decode cX12_same 61 = .ok (.if_icmp .ne 7, 3) := dl_160 (by decide +kernel)
theorem dX12_same_68 : decode cX12_same 68 = .ok (.iconst 0, 1) := dl_3 (by decide +kernel)
theorem dX12_same_69 : decode cX12_same 69 = .ok (.ireturn, 1) := dl_172 (by decide +kernel)
theorem dX12_same_64 : decode cX12_same 64 = .ok (.iconst 1, 1) := dl_4 (by decide +kernel)
theorem dX12_same_65 : decode cX12_same 65 = .ok (.goto 4, 3) := dl_167 (by decide +kernel)
theorem dX12_same_19 : decode cX12_same 19 = .ok (.bipush (-2), 2) := dl_16 (by decide +kernel)
theorem dX12_same_21 : decode cX12_same 21 = .ok (.ireturn, 1) := dl_172 (by decide +kernel)
theorem dX12_same_8 : decode cX12_same 8 = .ok (.iconst (-1), 1) := dl_2 (by decide +kernel)
theorem dX12_same_9 : decode cX12_same 9 = .ok (.ireturn, 1) := dl_172 (by decide +kernel)
set_option maxRecDepth 100000 in
set_option maxHeartbeats 4000000 in
theorem y_same (l : Launch) (E : EV) (ro : va_W) (hm : Nat) (v0 : Int32) (m_manys : Nat) (m_reals : Nat) (m_factsOf : Nat) (m_possible : Nat) (q_undos : Nat) (q_models : Nat) (m_tape : Nat) (q_taped : Nat) (q_fault : Int32) (q_wrong : Int32) (q_wrongAt : Int32) (q_spot : Int32) (q_place : Int32) (q_token : Int32) (q_value : Int32) (m_ends : Nat) (m_letters : Nat) (m_actOf : Nat) (m_whom : Nat) (m_actMany : Nat) (m_tokens : Nat) (m_afters : Nat) (m_afterOf : Nat) (q_counted : Int32) (m_pile : Nat) (m_caseMany : Nat) (m_happen : Nat) (m_hasIf : Nat) (m_becomes : Nat) (m_goneOf : Nat) (m_heard : Nat) (m_pairs : Nat) (m_heaps : Nat) (q_rounds : Int32) (q_heapMany : Int32) (m_led : Nat) (m_newAt : Nat) (m_knowing : Nat) (m_firsts : Nat) (q_people : Nat) (m_secrets : Nat) (m_tried : Nat) (m_lanes : Nat) (m_lengths : Nat) (m_cells : Nat) (f_manys : Nat → Int32) (f_reals : Nat → Int32) (f_factsOf : Nat → Int32) (f_possible : Nat → Int32) (f_heaps : Nat → Int32) (f_led : Nat → Int64) (hb_manys : NB 18 24 f_manys) (hb_reals : NB 18 23 f_reals) (hpg : PG f_manys f_reals) (hwf : WFP (pgs f_manys f_reals f_factsOf f_possible)) (hq_models : q_models ≤ 4) (hKN : ∀ j, j < q_models → (pgs f_manys f_reals f_factsOf f_possible (6 + j)).2.1 < (pgs f_manys f_reals f_factsOf f_possible (6 + j)).1) : CT l yX12_same (Cond.code yX12_same cX12_same 2 (some .int) :: TB) ({ frames := 3, cells := 0, slots := 0, locals := 78 }) E ro [.ref hm, .int v0] [(hm, .inr (12, [.ref m_manys, .ref m_reals, .ref m_factsOf, .ref m_possible, .int (nI q_undos), .int (nI q_models), .ref m_tape, .int (nI q_taped), .int q_fault, .int q_wrong, .int q_wrongAt, .int q_spot, .int q_place, .int q_token, .int q_value, .ref m_ends, .ref m_letters, .ref m_actOf, .ref m_whom, .ref m_actMany, .ref m_tokens, .ref m_afters, .ref m_afterOf, .int q_counted, .ref m_pile, .ref m_caseMany, .ref m_happen, .ref m_hasIf, .ref m_becomes, .ref m_goneOf, .ref m_heard, .ref m_pairs, .ref m_heaps, .int q_rounds, .int q_heapMany, .ref m_led, .ref m_newAt, .ref m_knowing, .ref m_firsts, .int (nI q_people), .ref m_secrets, .ref m_tried, .ref m_lanes, .ref m_lengths, .ref m_cells])), (m_manys, .inl (E.2.1 1, 18, .inl f_manys)), (m_reals, .inl (E.2.1 1, 18, .inl f_reals)), (m_factsOf, .inl (E.2.1 1, 432, .inl f_factsOf)), (m_possible, .inl (E.2.1 1, 1728, .inl f_possible)), (m_heaps, .inl (E.2.1 1, 2400, .inl f_heaps)), (m_led, .inl (E.2.1 2, 192, .inr (.inl f_led)))] (Qi E (fun (rz : Int32) uz => (∃ (rz_ : Int32) (hmz : Int32) (f_heapsz : Nat → Int32) (f_ledz : Nat → Int64), uz = [(hm, .inr (12, [.ref m_manys, .ref m_reals, .ref m_factsOf, .ref m_possible, .int (nI q_undos), .int (nI q_models), .ref m_tape, .int (nI q_taped), .int q_fault, .int q_wrong, .int q_wrongAt, .int q_spot, .int q_place, .int q_token, .int q_value, .ref m_ends, .ref m_letters, .ref m_actOf, .ref m_whom, .ref m_actMany, .ref m_tokens, .ref m_afters, .ref m_afterOf, .int q_counted, .ref m_pile, .ref m_caseMany, .ref m_happen, .ref m_hasIf, .ref m_becomes, .ref m_goneOf, .ref m_heard, .ref m_pairs, .ref m_heaps, .int rz_, .int hmz, .ref m_led, .ref m_newAt, .ref m_knowing, .ref m_firsts, .int (nI q_people), .ref m_secrets, .ref m_tried, .ref m_lanes, .ref m_lengths, .ref m_cells])), (m_manys, .inl (E.2.1 1, 18, .inl f_manys)), (m_reals, .inl (E.2.1 1, 18, .inl f_reals)), (m_factsOf, .inl (E.2.1 1, 432, .inl f_factsOf)), (m_possible, .inl (E.2.1 1, 1728, .inl f_possible)), (m_heaps, .inl (E.2.1 1, 2400, .inl f_heapsz)), (m_led, .inl (E.2.1 2, 192, .inr (.inl f_ledz)))] ∧ (rz = ansSame (pgs f_manys f_reals f_factsOf f_possible 0) q_models (fun j => pgs f_manys f_reals f_factsOf f_possible (6 + j)) v0)))) 0 0 := by
  refine ct_of rfl rfl ?_
  intro X C hT hin hro
  show WW X 2 E 0 [(0, .ref hm), (1, .int v0)] [] [(hm, .inr (12, [.ref m_manys, .ref m_reals, .ref m_factsOf, .ref m_possible, .int (nI q_undos), .int (nI q_models), .ref m_tape, .int (nI q_taped), .int q_fault, .int q_wrong, .int q_wrongAt, .int q_spot, .int q_place, .int q_token, .int q_value, .ref m_ends, .ref m_letters, .ref m_actOf, .ref m_whom, .ref m_actMany, .ref m_tokens, .ref m_afters, .ref m_afterOf, .int q_counted, .ref m_pile, .ref m_caseMany, .ref m_happen, .ref m_hasIf, .ref m_becomes, .ref m_goneOf, .ref m_heard, .ref m_pairs, .ref m_heaps, .int q_rounds, .int q_heapMany, .ref m_led, .ref m_newAt, .ref m_knowing, .ref m_firsts, .int (nI q_people), .ref m_secrets, .ref m_tried, .ref m_lanes, .ref m_lengths, .ref m_cells])), (m_manys, .inl (E.2.1 1, 18, .inl f_manys)), (m_reals, .inl (E.2.1 1, 18, .inl f_reals)), (m_factsOf, .inl (E.2.1 1, 432, .inl f_factsOf)), (m_possible, .inl (E.2.1 1, 1728, .inl f_possible)), (m_heaps, .inl (E.2.1 1, 2400, .inl f_heaps)), (m_led, .inl (E.2.1 2, 192, .inr (.inl f_led)))] 0 0
  have hmn0 := (hb_manys 0 (by omega)).2
  refine ww_aload_n C dX12_same_0 0 rfl rfl ?_
  refine ww_iload_n C dX12_same_1 1 rfl rfl ?_
  refine ww_ci (wr := [(m_manys, .inl (E.2.1 1, 18, .inl f_manys)), (m_reals, .inl (E.2.1 1, 18, .inl f_reals)), (m_factsOf, .inl (E.2.1 1, 432, .inl f_factsOf)), (m_possible, .inl (E.2.1 1, 1728, .inl f_possible)), (m_heaps, .inl (E.2.1 1, 2400, .inl f_heaps)), (m_led, .inl (E.2.1 2, 192, .inr (.inl f_led)))]) (k' := 0) (n' := 0) C (run_V (As := [.int v0]) (rest := []) C (r_isModel X.2.1 E ro hm v0 m_manys m_reals m_factsOf m_possible q_undos q_models m_tape q_taped q_fault q_wrong q_wrongAt q_spot q_place q_token q_value m_ends m_letters m_actOf m_whom m_actMany m_tokens m_afters m_afterOf q_counted m_pile m_caseMany m_happen m_hasIf m_becomes m_goneOf m_heard m_pairs m_heaps q_rounds q_heapMany m_led m_newAt m_knowing m_firsts q_people m_secrets m_tried m_lanes m_lengths m_cells (by omega)) mi_X12_isModel wl_X12_307 rfl 0 12 rfl rfl rfl rfl rfl dX12_same_2) (roK hro) [0] [1, 2, 3, 4, 5, 6] rfl rfl rfl rfl (fun r_1 uz hw => ?_)
  rcases hw with hw | hw
  · refine an3 hw ?_
    clear hw
    intro he_4 he_5 h_2 hw
    have h_3 := hw
    clear hw
    have he_4 := he_4.symm
    subst he_4
    subst he_5
    refine ww_eq (ws' := [(m_manys, .inl (E.2.1 1, 18, .inl f_manys)), (m_reals, .inl (E.2.1 1, 18, .inl f_reals)), (m_factsOf, .inl (E.2.1 1, 432, .inl f_factsOf)), (m_possible, .inl (E.2.1 1, 1728, .inl f_possible)), (m_heaps, .inl (E.2.1 1, 2400, .inl f_heaps)), (m_led, .inl (E.2.1 2, 192, .inr (.inl f_led))), (hm, .inr (12, [.ref m_manys, .ref m_reals, .ref m_factsOf, .ref m_possible, .int (nI q_undos), .int (nI q_models), .ref m_tape, .int (nI q_taped), .int q_fault, .int q_wrong, .int q_wrongAt, .int q_spot, .int q_place, .int q_token, .int q_value, .ref m_ends, .ref m_letters, .ref m_actOf, .ref m_whom, .ref m_actMany, .ref m_tokens, .ref m_afters, .ref m_afterOf, .int q_counted, .ref m_pile, .ref m_caseMany, .ref m_happen, .ref m_hasIf, .ref m_becomes, .ref m_goneOf, .ref m_heard, .ref m_pairs, .ref m_heaps, .int q_rounds, .int q_heapMany, .ref m_led, .ref m_newAt, .ref m_knowing, .ref m_firsts, .int (nI q_people), .ref m_secrets, .ref m_tried, .ref m_lanes, .ref m_lengths, .ref m_cells]))]) ?_ rfl rfl rfl
    refine ww_if_ne_t (tgt := 10) C dX12_same_5 (by decide) (by decide) ?_
    refine ww_aload_n C dX12_same_10 0 rfl rfl ?_
    refine ww_get C fg_X12_7 6 rfl rfl dX12_same_11 ?_
    refine ww_iconst (v := 0) C dX12_same_14 rfl ?_
    have hbx_9 := (hb_manys 0 (by omega)).2
    refine ww_iald (v := (nI (cN f_manys 0))) C 0 rfl (vin rfl) (hb_manys 0 (by omega)).1 dX12_same_15 ?_
    refine ww_if_ne (tgt := 22) C dX12_same_16 (by decide) (fun c_10 => ?_) (fun c_10 => ?_)
    · have zc_10 : ((cN f_manys 0 : Nat) : Int) ≠ 0 := i_ne (nI_toInt (n := cN f_manys 0) (by omega)) rfl c_10
      obtain ⟨j_11, hj_11, rfl⟩ := i_nat (x := v0) (N := 3) (by omega) (by omega)
      have hzj_11 := nI_toInt (n := j_11) (by omega)
      refine ww_aload_n C dX12_same_22 0 rfl rfl ?_
      refine ww_iconst (v := 0) C dX12_same_23 rfl ?_
      refine ww_bipush (v := 6) C dX12_same_24 rfl ?_
      refine ww_iload_n C dX12_same_26 1 rfl rfl ?_
      refine ww_iadd (v := (nI (6 + j_11))) C dX12_same_27 (nI_add 6 j_11) ?_
      refine ww_cv (wr := []) (k' := 0) (n' := 0) C (run_V (As := [.int 0, .int (nI (6 + j_11))]) (rest := []) C (r_layHeapsM X.2.1 E ro hm (6 + j_11) m_manys m_reals m_factsOf m_possible q_undos q_models m_tape q_taped q_fault q_wrong q_wrongAt q_spot q_place q_token q_value m_ends m_letters m_actOf m_whom m_actMany m_tokens m_afters m_afterOf q_counted m_pile m_caseMany m_happen m_hasIf m_becomes m_goneOf m_heard m_pairs m_heaps q_rounds q_heapMany m_led m_newAt m_knowing m_firsts q_people m_secrets m_tried m_lanes m_lengths m_cells f_manys f_reals f_factsOf f_possible f_heaps f_led hb_manys hb_reals hpg hwf (by omega)) mi_X12_layHeaps wl_X12_298 rfl 0 12 rfl rfl rfl rfl rfl dX12_same_28) (roK hro) [6, 0, 1, 2, 3, 4, 5] [] rfl rfl (plk (by decide +kernel)) rfl (fun uz hw => ?_)
      refine ex4 hw ?_
      clear hw
      intro rz__13 hmz_14 f_heapsz_15 f_ledz_16 hw
      refine an5 hw ?_
      clear hw
      intro he_22 h_17 h_18 h_19 h_20 hw
      have h_21 := hw
      clear hw
      subst he_22
      refine ww_eq (ws' := [(hm, .inr (12, [.ref m_manys, .ref m_reals, .ref m_factsOf, .ref m_possible, .int (nI q_undos), .int (nI q_models), .ref m_tape, .int (nI q_taped), .int q_fault, .int q_wrong, .int q_wrongAt, .int q_spot, .int q_place, .int q_token, .int q_value, .ref m_ends, .ref m_letters, .ref m_actOf, .ref m_whom, .ref m_actMany, .ref m_tokens, .ref m_afters, .ref m_afterOf, .int q_counted, .ref m_pile, .ref m_caseMany, .ref m_happen, .ref m_hasIf, .ref m_becomes, .ref m_goneOf, .ref m_heard, .ref m_pairs, .ref m_heaps, .int (nI rz__13), .int (nI hmz_14), .ref m_led, .ref m_newAt, .ref m_knowing, .ref m_firsts, .int (nI q_people), .ref m_secrets, .ref m_tried, .ref m_lanes, .ref m_lengths, .ref m_cells])), (m_manys, .inl (E.2.1 1, 18, .inl f_manys)), (m_reals, .inl (E.2.1 1, 18, .inl f_reals)), (m_factsOf, .inl (E.2.1 1, 432, .inl f_factsOf)), (m_possible, .inl (E.2.1 1, 1728, .inl f_possible)), (m_heaps, .inl (E.2.1 1, 2400, .inl f_heapsz_15)), (m_led, .inl (E.2.1 2, 192, .inr (.inl f_ledz_16)))]) ?_ rfl rfl rfl
      have hpg0 := hpg 0 (by omega)
      have hpg6 := hpg (6 + j_11) (by omega)
      have hkn6 : cN f_reals (6 + j_11) < cN f_manys (6 + j_11) := hKN j_11 (by omega)
      have hmb6 := (hb_manys (6 + j_11) (by omega)).2
      have hrb6 := (hb_reals (6 + j_11) (by omega)).2
      refine ww_aload_n C dX12_same_31 0 rfl rfl ?_
      refine ww_aload_n C dX12_same_32 0 rfl rfl ?_
      refine ww_get C fg_X12_13 0 rfl rfl dX12_same_33 ?_
      refine ww_iconst (v := 0) C dX12_same_36 rfl ?_
      have hbx_23 := (hb_reals 0 (by omega)).2
      refine ww_iald (v := (nI (cN f_reals 0))) C 2 rfl (vin rfl) (hb_reals 0 (by omega)).1 dX12_same_37 ?_
      refine ww_ci (wr := [(m_manys, .inl (E.2.1 1, 18, .inl f_manys)), (m_reals, .inl (E.2.1 1, 18, .inl f_reals)), (m_factsOf, .inl (E.2.1 1, 432, .inl f_factsOf)), (m_possible, .inl (E.2.1 1, 1728, .inl f_possible)), (m_led, .inl (E.2.1 2, 192, .inr (.inl f_ledz_16)))]) (k' := 0) (n' := 0) C (run_V (As := [.int (nI (cN f_reals 0))]) (rest := []) C (r_heapOf X.2.1 E ro hm (cN f_reals 0) m_manys m_reals m_factsOf m_possible q_undos q_models m_tape q_taped q_fault q_wrong q_wrongAt q_spot q_place q_token q_value m_ends m_letters m_actOf m_whom m_actMany m_tokens m_afters m_afterOf q_counted m_pile m_caseMany m_happen m_hasIf m_becomes m_goneOf m_heard m_pairs m_heaps rz__13 (nI hmz_14) m_led m_newAt m_knowing m_firsts q_people m_secrets m_tried m_lanes m_lengths m_cells f_heapsz_15 (by omega) (by omega)) mi_X12_heapOf wl_X12_301 rfl 0 12 rfl rfl rfl rfl rfl dX12_same_38) (roK hro) [0, 5] [1, 2, 3, 4, 6] rfl rfl rfl rfl (fun r_24 uz hw => ?_)
      refine an1 hw ?_
      clear hw
      intro he_25 hw
      have he_26 := hw
      clear hw
      have he_25 := he_25.symm
      subst he_25
      subst he_26
      refine ww_eq (ws' := [(m_manys, .inl (E.2.1 1, 18, .inl f_manys)), (m_reals, .inl (E.2.1 1, 18, .inl f_reals)), (m_factsOf, .inl (E.2.1 1, 432, .inl f_factsOf)), (m_possible, .inl (E.2.1 1, 1728, .inl f_possible)), (m_led, .inl (E.2.1 2, 192, .inr (.inl f_ledz_16))), (hm, .inr (12, [.ref m_manys, .ref m_reals, .ref m_factsOf, .ref m_possible, .int (nI q_undos), .int (nI q_models), .ref m_tape, .int (nI q_taped), .int q_fault, .int q_wrong, .int q_wrongAt, .int q_spot, .int q_place, .int q_token, .int q_value, .ref m_ends, .ref m_letters, .ref m_actOf, .ref m_whom, .ref m_actMany, .ref m_tokens, .ref m_afters, .ref m_afterOf, .int q_counted, .ref m_pile, .ref m_caseMany, .ref m_happen, .ref m_hasIf, .ref m_becomes, .ref m_goneOf, .ref m_heard, .ref m_pairs, .ref m_heaps, .int (nI rz__13), .int (nI hmz_14), .ref m_led, .ref m_newAt, .ref m_knowing, .ref m_firsts, .int (nI q_people), .ref m_secrets, .ref m_tried, .ref m_lanes, .ref m_lengths, .ref m_cells])), (m_heaps, .inl (E.2.1 1, 2400, .inl f_heapsz_15))]) ?_ rfl rfl rfl
      refine ww_aload_n C dX12_same_41 0 rfl rfl ?_
      refine ww_aload_n C dX12_same_42 0 rfl rfl ?_
      refine ww_get C fg_X12_7 5 rfl rfl dX12_same_43 ?_
      refine ww_iconst (v := 0) C dX12_same_46 rfl ?_
      have hbx_27 := (hb_manys 0 (by omega)).2
      refine ww_iald (v := (nI (cN f_manys 0))) C 0 rfl (vin rfl) (hb_manys 0 (by omega)).1 dX12_same_47 ?_
      refine ww_aload_n C dX12_same_48 0 rfl rfl ?_
      refine ww_get C fg_X12_13 5 rfl rfl dX12_same_49 ?_
      refine ww_bipush (v := 6) C dX12_same_52 rfl ?_
      refine ww_iload_n C dX12_same_54 1 rfl rfl ?_
      refine ww_iadd (v := (nI (6 + j_11))) C dX12_same_55 (nI_add 6 j_11) ?_
      have hbx_28 := (hb_reals (6 + j_11) (by omega)).2
      refine ww_iald (v := (nI (cN f_reals (6 + j_11)))) C 1 rfl (vp_in_nI (by omega) (by omega)) (ldn (by omega) (hb_reals (6 + j_11) (by omega)).1) dX12_same_56 ?_
      refine ww_iadd (v := (nI ((cN f_manys 0) + (cN f_reals (6 + j_11))))) C dX12_same_57 (nI_add (cN f_manys 0) (cN f_reals (6 + j_11))) ?_
      refine ww_ci (wr := [(m_manys, .inl (E.2.1 1, 18, .inl f_manys)), (m_reals, .inl (E.2.1 1, 18, .inl f_reals)), (m_factsOf, .inl (E.2.1 1, 432, .inl f_factsOf)), (m_possible, .inl (E.2.1 1, 1728, .inl f_possible)), (m_led, .inl (E.2.1 2, 192, .inr (.inl f_ledz_16)))]) (k' := 0) (n' := 0) C (run_V (As := [.int (nI ((cN f_manys 0) + (cN f_reals (6 + j_11))))]) (rest := [.int (f_heapsz_15 (48 * rz__13 + (cN f_reals 0)))]) C (r_heapOf X.2.1 E ro hm ((cN f_manys 0) + (cN f_reals (6 + j_11))) m_manys m_reals m_factsOf m_possible q_undos q_models m_tape q_taped q_fault q_wrong q_wrongAt q_spot q_place q_token q_value m_ends m_letters m_actOf m_whom m_actMany m_tokens m_afters m_afterOf q_counted m_pile m_caseMany m_happen m_hasIf m_becomes m_goneOf m_heard m_pairs m_heaps rz__13 (nI hmz_14) m_led m_newAt m_knowing m_firsts q_people m_secrets m_tried m_lanes m_lengths m_cells f_heapsz_15 (by omega) (by omega)) mi_X12_heapOf wl_X12_301 rfl 0 12 rfl rfl rfl rfl rfl dX12_same_58) (roK hro) [5, 6] [0, 1, 2, 3, 4] rfl rfl rfl rfl (fun r_29 uz hw => ?_)
      refine an1 hw ?_
      clear hw
      intro he_30 hw
      have he_31 := hw
      clear hw
      have he_30 := he_30.symm
      subst he_30
      subst he_31
      refine ww_eq (ws' := [(m_manys, .inl (E.2.1 1, 18, .inl f_manys)), (m_reals, .inl (E.2.1 1, 18, .inl f_reals)), (m_factsOf, .inl (E.2.1 1, 432, .inl f_factsOf)), (m_possible, .inl (E.2.1 1, 1728, .inl f_possible)), (m_led, .inl (E.2.1 2, 192, .inr (.inl f_ledz_16))), (hm, .inr (12, [.ref m_manys, .ref m_reals, .ref m_factsOf, .ref m_possible, .int (nI q_undos), .int (nI q_models), .ref m_tape, .int (nI q_taped), .int q_fault, .int q_wrong, .int q_wrongAt, .int q_spot, .int q_place, .int q_token, .int q_value, .ref m_ends, .ref m_letters, .ref m_actOf, .ref m_whom, .ref m_actMany, .ref m_tokens, .ref m_afters, .ref m_afterOf, .int q_counted, .ref m_pile, .ref m_caseMany, .ref m_happen, .ref m_hasIf, .ref m_becomes, .ref m_goneOf, .ref m_heard, .ref m_pairs, .ref m_heaps, .int (nI rz__13), .int (nI hmz_14), .ref m_led, .ref m_newAt, .ref m_knowing, .ref m_firsts, .int (nI q_people), .ref m_secrets, .ref m_tried, .ref m_lanes, .ref m_lengths, .ref m_cells])), (m_heaps, .inl (E.2.1 1, 2400, .inl f_heapsz_15))]) ?_ rfl rfl rfl
      refine ww_icmp_ne (tgt := 68) C dX12_same_61 (by decide) (fun c_32 => ?_) (fun c_32 => ?_)
      · have zc_32 : (f_heapsz_15 (48 * rz__13 + (cN f_reals 0))).toInt ≠ (f_heapsz_15 (48 * rz__13 + ((cN f_manys 0) + (cN f_reals (6 + j_11))))).toInt := i_ne rfl rfl c_32
        refine ww_iconst (v := 0) C dX12_same_68 rfl ?_
        exact ww_iret (u := [(hm, .inr (12, [.ref m_manys, .ref m_reals, .ref m_factsOf, .ref m_possible, .int (nI q_undos), .int (nI q_models), .ref m_tape, .int (nI q_taped), .int q_fault, .int q_wrong, .int q_wrongAt, .int q_spot, .int q_place, .int q_token, .int q_value, .ref m_ends, .ref m_letters, .ref m_actOf, .ref m_whom, .ref m_actMany, .ref m_tokens, .ref m_afters, .ref m_afterOf, .int q_counted, .ref m_pile, .ref m_caseMany, .ref m_happen, .ref m_hasIf, .ref m_becomes, .ref m_goneOf, .ref m_heard, .ref m_pairs, .ref m_heaps, .int (nI rz__13), .int (nI hmz_14), .ref m_led, .ref m_newAt, .ref m_knowing, .ref m_firsts, .int (nI q_people), .ref m_secrets, .ref m_tried, .ref m_lanes, .ref m_lengths, .ref m_cells])), (m_manys, .inl (E.2.1 1, 18, .inl f_manys)), (m_reals, .inl (E.2.1 1, 18, .inl f_reals)), (m_factsOf, .inl (E.2.1 1, 432, .inl f_factsOf)), (m_possible, .inl (E.2.1 1, 1728, .inl f_possible)), (m_heaps, .inl (E.2.1 1, 2400, .inl f_heapsz_15)), (m_led, .inl (E.2.1 2, 192, .inr (.inl f_ledz_16)))]) C hT [5, 0, 1, 2, 3, 6, 4] rfl rfl rfl rfl dX12_same_69 (⟨(nI rz__13), (nI hmz_14), f_heapsz_15, f_ledz_16, rfl, (by show _ = if (nI j_11).toInt < 0 ∨ (q_models : Int) ≤ (nI j_11).toInt then -1 else if cN f_manys 0 = 0 then -2 else if clsS (cm2 (pgs f_manys f_reals f_factsOf f_possible 0) (pgs f_manys f_reals f_factsOf f_possible (6 + tN (nI j_11)))) (cN f_reals 0) = clsS (cm2 (pgs f_manys f_reals f_factsOf f_possible 0) (pgs f_manys f_reals f_factsOf f_possible (6 + tN (nI j_11)))) (cN f_manys 0 + cN f_reals (6 + tN (nI j_11))) then 1 else 0; rw [if_neg (show ¬ ((nI j_11).toInt < 0 ∨ (q_models : Int) ≤ (nI j_11).toInt) by omega), if_neg (show ¬ cN f_manys 0 = 0 by omega), tN_n (n := j_11) (by omega), if_neg (fun h8 => absurd ((rk_eq3 (c := cm2 (pgs f_manys f_reals f_factsOf f_possible 0) (pgs f_manys f_reals f_factsOf f_possible (6 + j_11))) (show cN f_manys 0 + cN f_manys (6 + j_11) ≤ 48 by omega) (RST.end h_21 (cm2_wf (hwf 0 (by omega)) (hwf (6 + j_11) (by omega))) h_20) (show cN f_reals 0 < cN f_manys 0 + cN f_manys (6 + j_11) by omega) (show cN f_manys 0 + cN f_reals (6 + j_11) < cN f_manys 0 + cN f_manys (6 + j_11) by omega) rfl rfl).mpr h8) (by assumption))])⟩)
      · have zc_32 : (f_heapsz_15 (48 * rz__13 + (cN f_reals 0))).toInt = (f_heapsz_15 (48 * rz__13 + ((cN f_manys 0) + (cN f_reals (6 + j_11))))).toInt := i_eq rfl rfl c_32
        refine ww_iconst (v := 1) C dX12_same_64 rfl ?_
        refine ww_goto (tgt := 69) C dX12_same_65 (by decide) ?_
        exact ww_iret (u := [(hm, .inr (12, [.ref m_manys, .ref m_reals, .ref m_factsOf, .ref m_possible, .int (nI q_undos), .int (nI q_models), .ref m_tape, .int (nI q_taped), .int q_fault, .int q_wrong, .int q_wrongAt, .int q_spot, .int q_place, .int q_token, .int q_value, .ref m_ends, .ref m_letters, .ref m_actOf, .ref m_whom, .ref m_actMany, .ref m_tokens, .ref m_afters, .ref m_afterOf, .int q_counted, .ref m_pile, .ref m_caseMany, .ref m_happen, .ref m_hasIf, .ref m_becomes, .ref m_goneOf, .ref m_heard, .ref m_pairs, .ref m_heaps, .int (nI rz__13), .int (nI hmz_14), .ref m_led, .ref m_newAt, .ref m_knowing, .ref m_firsts, .int (nI q_people), .ref m_secrets, .ref m_tried, .ref m_lanes, .ref m_lengths, .ref m_cells])), (m_manys, .inl (E.2.1 1, 18, .inl f_manys)), (m_reals, .inl (E.2.1 1, 18, .inl f_reals)), (m_factsOf, .inl (E.2.1 1, 432, .inl f_factsOf)), (m_possible, .inl (E.2.1 1, 1728, .inl f_possible)), (m_heaps, .inl (E.2.1 1, 2400, .inl f_heapsz_15)), (m_led, .inl (E.2.1 2, 192, .inr (.inl f_ledz_16)))]) C hT [5, 0, 1, 2, 3, 6, 4] rfl rfl rfl rfl dX12_same_69 (⟨(nI rz__13), (nI hmz_14), f_heapsz_15, f_ledz_16, rfl, (by show _ = if (nI j_11).toInt < 0 ∨ (q_models : Int) ≤ (nI j_11).toInt then -1 else if cN f_manys 0 = 0 then -2 else if clsS (cm2 (pgs f_manys f_reals f_factsOf f_possible 0) (pgs f_manys f_reals f_factsOf f_possible (6 + tN (nI j_11)))) (cN f_reals 0) = clsS (cm2 (pgs f_manys f_reals f_factsOf f_possible 0) (pgs f_manys f_reals f_factsOf f_possible (6 + tN (nI j_11)))) (cN f_manys 0 + cN f_reals (6 + tN (nI j_11))) then 1 else 0; rw [if_neg (show ¬ ((nI j_11).toInt < 0 ∨ (q_models : Int) ≤ (nI j_11).toInt) by omega), if_neg (show ¬ cN f_manys 0 = 0 by omega), tN_n (n := j_11) (by omega), if_pos ((rk_eq3 (c := cm2 (pgs f_manys f_reals f_factsOf f_possible 0) (pgs f_manys f_reals f_factsOf f_possible (6 + j_11))) (show cN f_manys 0 + cN f_manys (6 + j_11) ≤ 48 by omega) (RST.end h_21 (cm2_wf (hwf 0 (by omega)) (hwf (6 + j_11) (by omega))) h_20) (show cN f_reals 0 < cN f_manys 0 + cN f_manys (6 + j_11) by omega) (show cN f_manys 0 + cN f_reals (6 + j_11) < cN f_manys 0 + cN f_manys (6 + j_11) by omega) rfl rfl).mp (by assumption))])⟩)
    · have zc_10 : ((cN f_manys 0 : Nat) : Int) = 0 := i_eq (nI_toInt (n := cN f_manys 0) (by omega)) rfl c_10
      refine ww_bipush (v := (-2)) C dX12_same_19 rfl ?_
      exact ww_iret (u := [(hm, .inr (12, [.ref m_manys, .ref m_reals, .ref m_factsOf, .ref m_possible, .int (nI q_undos), .int (nI q_models), .ref m_tape, .int (nI q_taped), .int q_fault, .int q_wrong, .int q_wrongAt, .int q_spot, .int q_place, .int q_token, .int q_value, .ref m_ends, .ref m_letters, .ref m_actOf, .ref m_whom, .ref m_actMany, .ref m_tokens, .ref m_afters, .ref m_afterOf, .int q_counted, .ref m_pile, .ref m_caseMany, .ref m_happen, .ref m_hasIf, .ref m_becomes, .ref m_goneOf, .ref m_heard, .ref m_pairs, .ref m_heaps, .int q_rounds, .int q_heapMany, .ref m_led, .ref m_newAt, .ref m_knowing, .ref m_firsts, .int (nI q_people), .ref m_secrets, .ref m_tried, .ref m_lanes, .ref m_lengths, .ref m_cells])), (m_manys, .inl (E.2.1 1, 18, .inl f_manys)), (m_reals, .inl (E.2.1 1, 18, .inl f_reals)), (m_factsOf, .inl (E.2.1 1, 432, .inl f_factsOf)), (m_possible, .inl (E.2.1 1, 1728, .inl f_possible)), (m_heaps, .inl (E.2.1 1, 2400, .inl f_heaps)), (m_led, .inl (E.2.1 2, 192, .inr (.inl f_led)))]) C hT [6, 0, 1, 2, 3, 4, 5] rfl rfl rfl rfl dX12_same_21 (⟨q_rounds, q_heapMany, f_heaps, f_led, rfl, (by show _ = if v0.toInt < 0 ∨ (q_models : Int) ≤ v0.toInt then -1 else if cN f_manys 0 = 0 then -2 else if clsS (cm2 (pgs f_manys f_reals f_factsOf f_possible 0) (pgs f_manys f_reals f_factsOf f_possible (6 + tN v0))) (cN f_reals 0) = clsS (cm2 (pgs f_manys f_reals f_factsOf f_possible 0) (pgs f_manys f_reals f_factsOf f_possible (6 + tN v0))) (cN f_manys 0 + cN f_reals (6 + tN v0)) then 1 else 0; rw [if_neg (show ¬ (v0.toInt < 0 ∨ (q_models : Int) ≤ v0.toInt) by omega), if_pos (show cN f_manys 0 = 0 by omega)])⟩)
  · refine an2 hw ?_
    clear hw
    intro he_7 he_8 hw
    have h_6 := hw
    clear hw
    have he_7 := he_7.symm
    subst he_7
    subst he_8
    refine ww_eq (ws' := [(m_manys, .inl (E.2.1 1, 18, .inl f_manys)), (m_reals, .inl (E.2.1 1, 18, .inl f_reals)), (m_factsOf, .inl (E.2.1 1, 432, .inl f_factsOf)), (m_possible, .inl (E.2.1 1, 1728, .inl f_possible)), (m_heaps, .inl (E.2.1 1, 2400, .inl f_heaps)), (m_led, .inl (E.2.1 2, 192, .inr (.inl f_led))), (hm, .inr (12, [.ref m_manys, .ref m_reals, .ref m_factsOf, .ref m_possible, .int (nI q_undos), .int (nI q_models), .ref m_tape, .int (nI q_taped), .int q_fault, .int q_wrong, .int q_wrongAt, .int q_spot, .int q_place, .int q_token, .int q_value, .ref m_ends, .ref m_letters, .ref m_actOf, .ref m_whom, .ref m_actMany, .ref m_tokens, .ref m_afters, .ref m_afterOf, .int q_counted, .ref m_pile, .ref m_caseMany, .ref m_happen, .ref m_hasIf, .ref m_becomes, .ref m_goneOf, .ref m_heard, .ref m_pairs, .ref m_heaps, .int q_rounds, .int q_heapMany, .ref m_led, .ref m_newAt, .ref m_knowing, .ref m_firsts, .int (nI q_people), .ref m_secrets, .ref m_tried, .ref m_lanes, .ref m_lengths, .ref m_cells]))]) ?_ rfl rfl rfl
    refine ww_if_ne_f (tgt := 10) C dX12_same_5 (by decide) (rfl) ?_
    refine ww_iconst (v := (-1)) C dX12_same_8 rfl ?_
    exact ww_iret (u := [(hm, .inr (12, [.ref m_manys, .ref m_reals, .ref m_factsOf, .ref m_possible, .int (nI q_undos), .int (nI q_models), .ref m_tape, .int (nI q_taped), .int q_fault, .int q_wrong, .int q_wrongAt, .int q_spot, .int q_place, .int q_token, .int q_value, .ref m_ends, .ref m_letters, .ref m_actOf, .ref m_whom, .ref m_actMany, .ref m_tokens, .ref m_afters, .ref m_afterOf, .int q_counted, .ref m_pile, .ref m_caseMany, .ref m_happen, .ref m_hasIf, .ref m_becomes, .ref m_goneOf, .ref m_heard, .ref m_pairs, .ref m_heaps, .int q_rounds, .int q_heapMany, .ref m_led, .ref m_newAt, .ref m_knowing, .ref m_firsts, .int (nI q_people), .ref m_secrets, .ref m_tried, .ref m_lanes, .ref m_lengths, .ref m_cells])), (m_manys, .inl (E.2.1 1, 18, .inl f_manys)), (m_reals, .inl (E.2.1 1, 18, .inl f_reals)), (m_factsOf, .inl (E.2.1 1, 432, .inl f_factsOf)), (m_possible, .inl (E.2.1 1, 1728, .inl f_possible)), (m_heaps, .inl (E.2.1 1, 2400, .inl f_heaps)), (m_led, .inl (E.2.1 2, 192, .inr (.inl f_led)))]) C hT [6, 0, 1, 2, 3, 4, 5] rfl rfl rfl rfl dX12_same_9 (⟨q_rounds, q_heapMany, f_heaps, f_led, rfl, (by show _ = if v0.toInt < 0 ∨ (q_models : Int) ≤ v0.toInt then -1 else if cN f_manys 0 = 0 then -2 else if clsS (cm2 (pgs f_manys f_reals f_factsOf f_possible 0) (pgs f_manys f_reals f_factsOf f_possible (6 + tN v0))) (cN f_reals 0) = clsS (cm2 (pgs f_manys f_reals f_factsOf f_possible 0) (pgs f_manys f_reals f_factsOf f_possible (6 + tN v0))) (cN f_manys 0 + cN f_reals (6 + tN v0)) then 1 else 0; rw [if_pos (show v0.toInt < 0 ∨ (q_models : Int) ≤ v0.toInt by omega)])⟩)
theorem dX12_undo_0 : decode cX12_undo 0 = .ok (.aload_n 0, 1) := dl_42 (by decide +kernel)
theorem dX12_undo_1 : decode cX12_undo 1 = .ok (.getfield 105, 3) := dl_180 (by decide +kernel)
theorem dX12_undo_4 : decode cX12_undo 4 = .ok (.ifCond .ne 6, 3) := dl_154 (by decide +kernel)
theorem dX12_undo_10 : decode cX12_undo 10 = .ok (.aload_n 0, 1) := dl_42 (by decide +kernel)
theorem dX12_undo_11 : decode cX12_undo 11 = .ok (.dup, 1) := dl_89 (by decide +kernel)
theorem dX12_undo_12 : decode cX12_undo 12 = .ok (.getfield 105, 3) := dl_180 (by decide +kernel)
theorem dX12_undo_15 : decode cX12_undo 15 = .ok (.iconst 1, 1) := dl_4 (by decide +kernel)
theorem dX12_undo_16 : decode cX12_undo 16 = .ok (.isub, 1) := dl_100 (by decide +kernel)
theorem dX12_undo_17 : decode cX12_undo 17 = .ok (.putfield 105, 3) := dl_181 (by decide +kernel)
theorem dX12_undo_20 : decode cX12_undo 20 = .ok (.aload_n 0, 1) := dl_42 (by decide +kernel)
theorem dX12_undo_21 : decode cX12_undo 21 = .ok (.bipush 10, 2) := dl_16 (by decide +kernel)
theorem dX12_undo_23 : decode cX12_undo 23 = .ok (.aload_n 0, 1) := dl_42 (by decide +kernel)
theorem dX12_undo_24 : decode cX12_undo 24 = .ok (.getfield 105, 3) := dl_180 (by decide +kernel)
theorem dX12_undo_27 : decode cX12_undo 27 = .ok (.iadd, 1) := dl_96 (by decide +kernel)
theorem dX12_undo_28 : decode cX12_undo 28 = .ok (.iconst 0, 1) := dl_3 (by decide +kernel)
theorem dX12_undo_29 : decode cX12_undo 29 = .ok (.invokevirtual 109, 3) := dl_182 (by decide +kernel)
theorem dX12_undo_32 : decode cX12_undo 32 = .ok (.aload_n 0, 1) := dl_42 (by decide +kernel)
theorem dX12_undo_33 : decode cX12_undo 33 = .ok (.getfield 105, 3) := dl_180 (by decide +kernel)
theorem dX12_undo_36 : decode cX12_undo 36 = .ok (.ireturn, 1) := dl_172 (by decide +kernel)
theorem dX12_undo_7 : decode cX12_undo 7 = .ok (.bipush (-4), 2) := dl_16 (by decide +kernel)
theorem dX12_undo_9 : decode cX12_undo 9 = .ok (.ireturn, 1) := dl_172 (by decide +kernel)
set_option maxRecDepth 100000 in
set_option maxHeartbeats 4000000 in
theorem y_undo (l : Launch) (E : EV) (ro : va_W) (hm : Nat) (m_manys : Nat) (m_reals : Nat) (m_factsOf : Nat) (m_possible : Nat) (q_undos : Nat) (q_models : Nat) (m_tape : Nat) (q_taped : Nat) (q_fault : Int32) (q_wrong : Int32) (q_wrongAt : Int32) (q_spot : Int32) (q_place : Int32) (q_token : Int32) (q_value : Int32) (m_ends : Nat) (m_letters : Nat) (m_actOf : Nat) (m_whom : Nat) (m_actMany : Nat) (m_tokens : Nat) (m_afters : Nat) (m_afterOf : Nat) (q_counted : Int32) (m_pile : Nat) (m_caseMany : Nat) (m_happen : Nat) (m_hasIf : Nat) (m_becomes : Nat) (m_goneOf : Nat) (m_heard : Nat) (m_pairs : Nat) (m_heaps : Nat) (q_rounds : Int32) (q_heapMany : Int32) (m_led : Nat) (m_newAt : Nat) (m_knowing : Nat) (m_firsts : Nat) (q_people : Nat) (m_secrets : Nat) (m_tried : Nat) (m_lanes : Nat) (m_lengths : Nat) (m_cells : Nat) (f_manys : Nat → Int32) (f_reals : Nat → Int32) (f_factsOf : Nat → Int32) (f_possible : Nat → Int32) (hb_manys : NB 18 24 f_manys) (hb_reals : NB 18 23 f_reals) (hpg : PG f_manys f_reals) (hwf : WFP (pgs f_manys f_reals f_factsOf f_possible)) (hq_undos : q_undos ≤ 8) : CT l yX12_undo (Cond.code yX12_undo cX12_undo 1 (some .int) :: TB) ({ frames := 1, cells := 0, slots := 0, locals := 23 }) E ro [.ref hm] [(hm, .inr (12, [.ref m_manys, .ref m_reals, .ref m_factsOf, .ref m_possible, .int (nI q_undos), .int (nI q_models), .ref m_tape, .int (nI q_taped), .int q_fault, .int q_wrong, .int q_wrongAt, .int q_spot, .int q_place, .int q_token, .int q_value, .ref m_ends, .ref m_letters, .ref m_actOf, .ref m_whom, .ref m_actMany, .ref m_tokens, .ref m_afters, .ref m_afterOf, .int q_counted, .ref m_pile, .ref m_caseMany, .ref m_happen, .ref m_hasIf, .ref m_becomes, .ref m_goneOf, .ref m_heard, .ref m_pairs, .ref m_heaps, .int q_rounds, .int q_heapMany, .ref m_led, .ref m_newAt, .ref m_knowing, .ref m_firsts, .int (nI q_people), .ref m_secrets, .ref m_tried, .ref m_lanes, .ref m_lengths, .ref m_cells])), (m_manys, .inl (E.2.1 1, 18, .inl f_manys)), (m_reals, .inl (E.2.1 1, 18, .inl f_reals)), (m_factsOf, .inl (E.2.1 1, 432, .inl f_factsOf)), (m_possible, .inl (E.2.1 1, 1728, .inl f_possible))] (Qi E (fun (rz : Int32) uz => (∃ (uz_ : Nat) (f_manysz : Nat → Int32) (f_realsz : Nat → Int32) (f_factsOfz : Nat → Int32) (f_possiblez : Nat → Int32), uz = [(hm, .inr (12, [.ref m_manys, .ref m_reals, .ref m_factsOf, .ref m_possible, .int (nI uz_), .int (nI q_models), .ref m_tape, .int (nI q_taped), .int q_fault, .int q_wrong, .int q_wrongAt, .int q_spot, .int q_place, .int q_token, .int q_value, .ref m_ends, .ref m_letters, .ref m_actOf, .ref m_whom, .ref m_actMany, .ref m_tokens, .ref m_afters, .ref m_afterOf, .int q_counted, .ref m_pile, .ref m_caseMany, .ref m_happen, .ref m_hasIf, .ref m_becomes, .ref m_goneOf, .ref m_heard, .ref m_pairs, .ref m_heaps, .int q_rounds, .int q_heapMany, .ref m_led, .ref m_newAt, .ref m_knowing, .ref m_firsts, .int (nI q_people), .ref m_secrets, .ref m_tried, .ref m_lanes, .ref m_lengths, .ref m_cells])), (m_manys, .inl (E.2.1 1, 18, .inl f_manysz)), (m_reals, .inl (E.2.1 1, 18, .inl f_realsz)), (m_factsOf, .inl (E.2.1 1, 432, .inl f_factsOfz)), (m_possible, .inl (E.2.1 1, 1728, .inl f_possiblez))] ∧ (NB 18 24 f_manysz) ∧ (NB 18 23 f_realsz) ∧ (PG f_manysz f_realsz) ∧ (WFP (pgs f_manysz f_realsz f_factsOfz f_possiblez)) ∧ (uz_ ≤ 8) ∧ ((asM uz_ (pgs f_manysz f_realsz f_factsOfz f_possiblez), rz) = opUndo (asM q_undos (pgs f_manys f_reals f_factsOf f_possible))) ∧ (KP6 (pgs f_manys f_reals f_factsOf f_possible) (pgs f_manysz f_realsz f_factsOfz f_possiblez))))) 0 0 := by
  refine ct_of rfl rfl ?_
  intro X C hT hin hro
  show WW X 1 E 0 [(0, .ref hm)] [] [(hm, .inr (12, [.ref m_manys, .ref m_reals, .ref m_factsOf, .ref m_possible, .int (nI q_undos), .int (nI q_models), .ref m_tape, .int (nI q_taped), .int q_fault, .int q_wrong, .int q_wrongAt, .int q_spot, .int q_place, .int q_token, .int q_value, .ref m_ends, .ref m_letters, .ref m_actOf, .ref m_whom, .ref m_actMany, .ref m_tokens, .ref m_afters, .ref m_afterOf, .int q_counted, .ref m_pile, .ref m_caseMany, .ref m_happen, .ref m_hasIf, .ref m_becomes, .ref m_goneOf, .ref m_heard, .ref m_pairs, .ref m_heaps, .int q_rounds, .int q_heapMany, .ref m_led, .ref m_newAt, .ref m_knowing, .ref m_firsts, .int (nI q_people), .ref m_secrets, .ref m_tried, .ref m_lanes, .ref m_lengths, .ref m_cells])), (m_manys, .inl (E.2.1 1, 18, .inl f_manys)), (m_reals, .inl (E.2.1 1, 18, .inl f_reals)), (m_factsOf, .inl (E.2.1 1, 432, .inl f_factsOf)), (m_possible, .inl (E.2.1 1, 1728, .inl f_possible))] 0 0
  have hmn0 := (hb_manys 0 (by omega)).2
  refine ww_aload_n C dX12_undo_0 0 rfl rfl ?_
  refine ww_get C fg_X12_105 0 rfl rfl dX12_undo_1 ?_
  refine ww_if_ne (tgt := 10) C dX12_undo_4 (by decide) (fun c_1 => ?_) (fun c_1 => ?_)
  · have zc_1 : ((q_undos : Nat) : Int) ≠ 0 := i_ne (nI_toInt (n := q_undos) (by omega)) rfl c_1
    refine ww_aload_n C dX12_undo_10 0 rfl rfl ?_
    refine ww_dup C dX12_undo_11 rfl ?_
    refine ww_get C fg_X12_105 0 rfl rfl dX12_undo_12 ?_
    refine ww_iconst (v := 1) C dX12_undo_15 rfl ?_
    refine ww_isub (v := (nI (q_undos - 1))) C dX12_undo_16 (pk_sub (a := q_undos) (b := 1) (by omega)) ?_
    refine ww_put (ws' := [(hm, .inr (12, [.ref m_manys, .ref m_reals, .ref m_factsOf, .ref m_possible, .int (nI (q_undos - 1)), .int (nI q_models), .ref m_tape, .int (nI q_taped), .int q_fault, .int q_wrong, .int q_wrongAt, .int q_spot, .int q_place, .int q_token, .int q_value, .ref m_ends, .ref m_letters, .ref m_actOf, .ref m_whom, .ref m_actMany, .ref m_tokens, .ref m_afters, .ref m_afterOf, .int q_counted, .ref m_pile, .ref m_caseMany, .ref m_happen, .ref m_hasIf, .ref m_becomes, .ref m_goneOf, .ref m_heard, .ref m_pairs, .ref m_heaps, .int q_rounds, .int q_heapMany, .ref m_led, .ref m_newAt, .ref m_knowing, .ref m_firsts, .int (nI q_people), .ref m_secrets, .ref m_tried, .ref m_lanes, .ref m_lengths, .ref m_cells])), (m_manys, .inl (E.2.1 1, 18, .inl f_manys)), (m_reals, .inl (E.2.1 1, 18, .inl f_reals)), (m_factsOf, .inl (E.2.1 1, 432, .inl f_factsOf)), (m_possible, .inl (E.2.1 1, 1728, .inl f_possible))]) C fp_X12_105 0 rfl rfl rfl rfl rfl dX12_undo_17 ?_
    refine ww_aload_n C dX12_undo_20 0 rfl rfl ?_
    refine ww_bipush (v := 10) C dX12_undo_21 rfl ?_
    refine ww_aload_n C dX12_undo_23 0 rfl rfl ?_
    refine ww_get C fg_X12_105 0 rfl rfl dX12_undo_24 ?_
    refine ww_iadd (v := (nI (10 + (q_undos - 1)))) C dX12_undo_27 (nI_add 10 (q_undos - 1)) ?_
    refine ww_iconst (v := 0) C dX12_undo_28 rfl ?_
    refine ww_cv (wr := []) (k' := 0) (n' := 0) C (run_V (As := [.int (nI (10 + (q_undos - 1))), .int 0]) (rest := []) C (r_copy X.2.1 E ro hm (10 + (q_undos - 1)) 0 m_manys m_reals m_factsOf m_possible (q_undos - 1) q_models m_tape q_taped q_fault q_wrong q_wrongAt q_spot q_place q_token q_value m_ends m_letters m_actOf m_whom m_actMany m_tokens m_afters m_afterOf q_counted m_pile m_caseMany m_happen m_hasIf m_becomes m_goneOf m_heard m_pairs m_heaps q_rounds q_heapMany m_led m_newAt m_knowing m_firsts q_people m_secrets m_tried m_lanes m_lengths m_cells f_manys f_reals f_factsOf f_possible hb_manys hb_reals hpg hwf (by omega) (by omega)) mi_X12_copy wl_X12_109 rfl 0 12 rfl rfl rfl rfl rfl dX12_undo_29) (roK hro) [0, 1, 2, 3, 4] [] rfl rfl rfl rfl (fun uz hw => ?_)
    refine ex4 hw ?_
    clear hw
    intro f_manysz_3 f_realsz_4 f_factsOfz_5 f_possiblez_6 hw
    refine an8 hw ?_
    clear hw
    intro he_16 h_7 h_8 h_9 h_10 h_11 h_12 h_13 hw
    refine an1 hw ?_
    clear hw
    intro h_14 hw
    have h_15 := hw
    clear hw
    subst he_16
    refine ww_eq (ws' := [(hm, .inr (12, [.ref m_manys, .ref m_reals, .ref m_factsOf, .ref m_possible, .int (nI (q_undos - 1)), .int (nI q_models), .ref m_tape, .int (nI q_taped), .int q_fault, .int q_wrong, .int q_wrongAt, .int q_spot, .int q_place, .int q_token, .int q_value, .ref m_ends, .ref m_letters, .ref m_actOf, .ref m_whom, .ref m_actMany, .ref m_tokens, .ref m_afters, .ref m_afterOf, .int q_counted, .ref m_pile, .ref m_caseMany, .ref m_happen, .ref m_hasIf, .ref m_becomes, .ref m_goneOf, .ref m_heard, .ref m_pairs, .ref m_heaps, .int q_rounds, .int q_heapMany, .ref m_led, .ref m_newAt, .ref m_knowing, .ref m_firsts, .int (nI q_people), .ref m_secrets, .ref m_tried, .ref m_lanes, .ref m_lengths, .ref m_cells])), (m_manys, .inl (E.2.1 1, 18, .inl f_manysz_3)), (m_reals, .inl (E.2.1 1, 18, .inl f_realsz_4)), (m_factsOf, .inl (E.2.1 1, 432, .inl f_factsOfz_5)), (m_possible, .inl (E.2.1 1, 1728, .inl f_possiblez_6))]) ?_ rfl rfl rfl
    refine ww_aload_n C dX12_undo_32 0 rfl rfl ?_
    refine ww_get C fg_X12_105 0 rfl rfl dX12_undo_33 ?_
    exact ww_iret (u := [(hm, .inr (12, [.ref m_manys, .ref m_reals, .ref m_factsOf, .ref m_possible, .int (nI (q_undos - 1)), .int (nI q_models), .ref m_tape, .int (nI q_taped), .int q_fault, .int q_wrong, .int q_wrongAt, .int q_spot, .int q_place, .int q_token, .int q_value, .ref m_ends, .ref m_letters, .ref m_actOf, .ref m_whom, .ref m_actMany, .ref m_tokens, .ref m_afters, .ref m_afterOf, .int q_counted, .ref m_pile, .ref m_caseMany, .ref m_happen, .ref m_hasIf, .ref m_becomes, .ref m_goneOf, .ref m_heard, .ref m_pairs, .ref m_heaps, .int q_rounds, .int q_heapMany, .ref m_led, .ref m_newAt, .ref m_knowing, .ref m_firsts, .int (nI q_people), .ref m_secrets, .ref m_tried, .ref m_lanes, .ref m_lengths, .ref m_cells])), (m_manys, .inl (E.2.1 1, 18, .inl f_manysz_3)), (m_reals, .inl (E.2.1 1, 18, .inl f_realsz_4)), (m_factsOf, .inl (E.2.1 1, 432, .inl f_factsOfz_5)), (m_possible, .inl (E.2.1 1, 1728, .inl f_possiblez_6))]) C hT [0, 1, 2, 3, 4] rfl rfl rfl rfl dX12_undo_36 (⟨(q_undos - 1), f_manysz_3, f_realsz_4, f_factsOfz_5, f_possiblez_6, rfl, h_7, h_8, h_9, h_10, (by omega), (by show _ = if q_undos = 0 then ((asM q_undos (pgs f_manys f_reals f_factsOf f_possible)), -4) else (aUndo (asM q_undos (pgs f_manys f_reals f_factsOf f_possible)), nI (q_undos - 1)); rw [if_neg (show ¬ (q_undos = 0) by omega)]; exact Prod.ext (asM_undo hq_undos (by omega) rfl ((h_15 0 (by omega)).trans (if_pos rfl)) (fun p a b => (h_15 p b).trans (if_neg (by omega)))) rfl), (fun p a b => (h_15 p (by omega)).trans (if_neg (by omega)))⟩)
  · have zc_1 : ((q_undos : Nat) : Int) = 0 := i_eq (nI_toInt (n := q_undos) (by omega)) rfl c_1
    refine ww_bipush (v := (-4)) C dX12_undo_7 rfl ?_
    exact ww_iret (u := [(hm, .inr (12, [.ref m_manys, .ref m_reals, .ref m_factsOf, .ref m_possible, .int (nI q_undos), .int (nI q_models), .ref m_tape, .int (nI q_taped), .int q_fault, .int q_wrong, .int q_wrongAt, .int q_spot, .int q_place, .int q_token, .int q_value, .ref m_ends, .ref m_letters, .ref m_actOf, .ref m_whom, .ref m_actMany, .ref m_tokens, .ref m_afters, .ref m_afterOf, .int q_counted, .ref m_pile, .ref m_caseMany, .ref m_happen, .ref m_hasIf, .ref m_becomes, .ref m_goneOf, .ref m_heard, .ref m_pairs, .ref m_heaps, .int q_rounds, .int q_heapMany, .ref m_led, .ref m_newAt, .ref m_knowing, .ref m_firsts, .int (nI q_people), .ref m_secrets, .ref m_tried, .ref m_lanes, .ref m_lengths, .ref m_cells])), (m_manys, .inl (E.2.1 1, 18, .inl f_manys)), (m_reals, .inl (E.2.1 1, 18, .inl f_reals)), (m_factsOf, .inl (E.2.1 1, 432, .inl f_factsOf)), (m_possible, .inl (E.2.1 1, 1728, .inl f_possible))]) C hT [0, 1, 2, 3, 4] rfl rfl rfl rfl dX12_undo_9 (⟨q_undos, f_manys, f_reals, f_factsOf, f_possible, rfl, hb_manys, hb_reals, hpg, hwf, (by omega), (by show _ = if q_undos = 0 then ((asM q_undos (pgs f_manys f_reals f_factsOf f_possible)), -4) else (aUndo (asM q_undos (pgs f_manys f_reals f_factsOf f_possible)), nI (q_undos - 1)); rw [if_pos (show q_undos = 0 by omega)]), KP6.rf⟩)
end
