/-! what the reference holds true: knowers -/
def KAb (m : AM) (gr : Int32) (P : Nat → Bool) (w i : Nat) : Bool := !anyN (fun k => bt gr k && anyN (fun v => m.2.2.2 k w v && !P v) 32) i
def KBo (m : AM) (gr : Int32) (w i v : Nat) : Bool := !anyN (fun k => bt gr k && !m.2.2.2 k w v) i
def KB (act gr : Int32) (m : AM) (P : Nat → Bool) (w : Nat) : Bool := if act.toInt = 9 then !(anyN (fun v => nx m gr w v && P v) 32 && anyN (fun v => nx m gr w v && !P v) 32) else if act.toInt = 12 then !anyN (fun v => shr m gr w v && !P v) 32 else if act.toInt = 11 then !anyN (fun v => Rc m gr w v && !P v) 32 else !anyN (fun v => nx m gr w v && !P v) 32
def evK (act gr : Int32) (m : AM) (P : Nat → Bool) : Nat → Bool := fun w => decide (w < m.1) && KB act gr m P w
theorem andn_z {x so n y : Int32} (e1 : so ^^^ (-1 : Int32) = n) (e2 : x &&& n = y) : decide (y = 0) = !anyN (fun v => bt x v && !bt so v) 32 := by
  rw [row_z]
  congr 1
  exact anyN_cg (fun v hv => by rw [← e2, b_and, ← e1, b_xor, b_m1 v hv, Bool.xor_true])
theorem and_z {x so y : Int32} (e : x &&& so = y) : decide (y = 0) = !anyN (fun v => bt x v && bt so v) 32 := by
  rw [row_z]
  congr 1
  exact anyN_cg (fun v hv => by rw [← e, b_and])
theorem KAb.nil {m : AM} {gr : Int32} {P : Nat → Bool} {w : Nat} : decide ((1 : Nat) = 1) = KAb m gr P w 0 := rfl
theorem KAb.f {m : AM} {gr : Int32} {P : Nat → Bool} {w i al : Nat} (h : decide (al = 1) = KAb m gr P w i) (hb : bt gr i = false) : decide (al = 1) = KAb m gr P w (i + 1) := by
  rw [h]
  show (!anyN _ i) = !(anyN _ i || (bt gr i && anyN (fun v => m.2.2.2 i w v && !P v) 32))
  rw [hb, Bool.false_and, Bool.or_false]
theorem KAb.z {m : AM} {gr : Int32} {P : Nat → Bool} {w i al : Nat} (h : decide (al = 1) = KAb m gr P w i) (h0 : al ≠ 1) : decide ((0 : Nat) = 1) = KAb m gr P w (i + 1) := by
  rw [decide_eq_false h0] at h
  show false = !(anyN _ i || _)
  have h1 : anyN (fun k => bt gr k && anyN (fun v => m.2.2.2 k w v && !P v) 32) i = true := by
    cases hb : anyN (fun k => bt gr k && anyN (fun v => m.2.2.2 k w v && !P v) 32) i with
    | true => rfl
    | false => unfold KAb at h; rw [hb] at h; cases h
  rw [h1]; rfl
theorem KAb.t {m : AM} {gr so r n y : Int32} {w i al a2 : Nat} (h : decide (al = 1) = KAb m gr (bt so) w i) (h1 : al = 1) (hb : bt gr i = true) (hr : ∀ v, m.2.2.2 i w v = bt r v) (e1 : so ^^^ (-1 : Int32) = n) (e2 : r &&& n = y) (hz : decide (a2 = 1) = decide (y = 0)) : decide (a2 = 1) = KAb m gr (bt so) w (i + 1) := by
  rw [decide_eq_true h1] at h
  show _ = !(anyN _ i || (bt gr i && anyN (fun v => m.2.2.2 i w v && !bt so v) 32))
  have h2 : anyN (fun k => bt gr k && anyN (fun v => m.2.2.2 k w v && !bt so v) 32) i = false := by
    cases hc : anyN (fun k => bt gr k && anyN (fun v => m.2.2.2 k w v && !bt so v) 32) i with
    | false => rfl
    | true => unfold KAb at h; rw [hc] at h; cases h
  rw [h2, Bool.false_or, hb, Bool.true_and, hz, andn_z e1 e2]
  congr 1
  exact anyN_cg (fun v _ => by rw [hr v])
theorem dz_1 {y : Int32} (h : y.toInt = 0) : decide ((1 : Nat) = 1) = decide (y = 0) := (decide_eq_true rfl).trans (decide_eq_true (i_z h)).symm
theorem dz_0 {y : Int32} (h : y.toInt ≠ 0) : decide ((0 : Nat) = 1) = decide (y = 0) := (decide_eq_false (by decide)).trans (decide_eq_false (i_nz h)).symm
theorem KA_4 {m : AM} {gr : Int32} {P : Nat → Bool} {w : Nat} : KAb m gr P w 4 = !anyN (fun v => nx m gr w v && !P v) 32 := by
  unfold KAb
  congr 1
  apply bool_iff
  rw [anyN_iff, anyN_iff]
  constructor
  · rintro ⟨k, hk, h⟩
    rw [Bool.and_eq_true, anyN_iff] at h
    obtain ⟨h1, v, hv, h2⟩ := h
    rw [Bool.and_eq_true] at h2
    refine ⟨v, hv, ?_⟩
    rw [Bool.and_eq_true]
    exact ⟨anyN_iff.mpr ⟨k, hk, by rw [h1, h2.1]; rfl⟩, h2.2⟩
  · rintro ⟨v, hv, h⟩
    rw [Bool.and_eq_true] at h
    obtain ⟨k, hk, h1⟩ := anyN_iff.mp h.1
    rw [Bool.and_eq_true] at h1
    refine ⟨k, hk, ?_⟩
    rw [Bool.and_eq_true, anyN_iff]
    exact ⟨h1.1, v, hv, by rw [h1.2, h.2]; rfl⟩
theorem KBo.nil {m : AM} {gr : Int32} {w : Nat} : BS (-1) (KBo m gr w 0) := fun v hv => b_m1 v hv
theorem KBo.f {m : AM} {gr x : Int32} {w i : Nat} (h : BS x (KBo m gr w i)) (hb : bt gr i = false) : BS x (KBo m gr w (i + 1)) := h.cg (fun v _ => by
  show (!anyN _ i) = !(anyN _ i || (bt gr i && !m.2.2.2 i w v))
  rw [hb, Bool.false_and, Bool.or_false])
theorem KBo.t {m : AM} {gr x r z : Int32} {w i : Nat} (h : BS x (KBo m gr w i)) (hb : bt gr i = true) (hr : ∀ v, m.2.2.2 i w v = bt r v) (e : x &&& r = z) : BS z (KBo m gr w (i + 1)) := fun v hv => by
  have h1 : bt x v = !anyN (fun k => bt gr k && !m.2.2.2 k w v) i := h v hv
  rw [← e, b_and, h1]
  show _ = !(anyN _ i || (bt gr i && !m.2.2.2 i w v))
  rw [hb, Bool.true_and, hr v, Bool.not_or, Bool.not_not]
theorem kbo_one {m : AM} {gr : Int32} {k w v : Nat} (hk : k < 4) (h : ∀ i, i < 4 → bt gr i = decide (i = k)) : KBo m gr w 4 v = nx m gr w v := by
  apply bool_iff
  unfold KBo
  rw [Bool.not_eq_true']
  constructor
  · intro h1
    have h2 := anyN_f h1 hk
    have h3 : (bt gr k && !m.2.2.2 k w v) = false := h2
    rw [h k hk, decide_eq_true rfl, Bool.true_and, Bool.not_eq_false'] at h3
    exact anyN_iff.mpr ⟨k, hk, by rw [h k hk, decide_eq_true rfl, h3]; rfl⟩
  · intro h1
    obtain ⟨j, hj, h2⟩ := anyN_iff.mp h1
    rw [Bool.and_eq_true, h j hj, decide_eq_true_eq] at h2
    refine anyN_no (fun i hi => ?_)
    show (bt gr i && !m.2.2.2 i w v) = false
    rw [h i hi]
    by_cases q : i = k
    · rw [q, ← h2.1, h2.2]; exact Bool.and_false _
    · rw [decide_eq_false q]; rfl
theorem kbo_shr {m : AM} (hw : WFm m) {gr : Int32} {k w v : Nat} (hk : k < 4) (h : bt gr k = true) : KBo m gr w 4 v = shr m gr w v := by
  show KBo m gr w 4 v = (decide (v < m.1) && KBo m gr w 4 v)
  cases hc : KBo m gr w 4 v with
  | false => rw [Bool.and_false]
  | true =>
    have h1 : anyN (fun k => bt gr k && !m.2.2.2 k w v) 4 = false := by
      unfold KBo at hc; rw [Bool.not_eq_true'] at hc; exact hc
    have h2 : (bt gr k && !m.2.2.2 k w v) = false := anyN_f h1 hk
    rw [h, Bool.true_and, Bool.not_eq_false'] at h2
    rw [decide_eq_true (hw k w v h2)]; rfl
theorem kb_o {act gr so : Int32} {m : AM} {w al : Nat} {b : Bool} (h9 : act.toInt ≠ 9) (h12 : act.toInt ≠ 12) (h11 : act.toInt ≠ 11) (h : decide (al = 1) = KAb m gr (bt so) w 4) (hb : decide (al = 1) = b) : KB act gr m (bt so) w = b := by
  unfold KB
  rw [if_neg h9, if_neg h12, if_neg h11, ← KA_4, ← h, hb]
theorem kb_11 {act gr so r n y : Int32} {m : AM} {w : Nat} {b : Bool} (h : act.toInt = 11) (hr : BS r (Rc m gr w)) (e1 : so ^^^ (-1 : Int32) = n) (e2 : r &&& n = y) (hb : decide (y = 0) = b) : KB act gr m (bt so) w = b := by
  unfold KB
  rw [if_neg (by omega), if_neg (by omega), if_pos h, ← hb, andn_z e1 e2]
  congr 1
  exact anyN_cg (fun v hv => by rw [hr v hv])
theorem kb_12 {act gr so bo n y : Int32} {m : AM} {w : Nat} {b : Bool} (h : act.toInt = 12) (hw : WFm m) (hk : ∃ k, k < 4 ∧ bt gr k = true) (hbo : BS bo (KBo m gr w 4)) (e1 : so ^^^ (-1 : Int32) = n) (e2 : bo &&& n = y) (hb : decide (y = 0) = b) : KB act gr m (bt so) w = b := by
  obtain ⟨k, hk, hg⟩ := hk
  unfold KB
  rw [if_neg (by omega), if_pos h, ← hb, andn_z e1 e2]
  congr 1
  exact anyN_cg (fun v hv => by rw [hbo v hv, kbo_shr hw hk hg])
theorem kb_9a {act gr so : Int32} {m : AM} {w al : Nat} (h : act.toInt = 9) (ha : decide (al = 1) = KAb m gr (bt so) w 4) (h1 : al = 1) : KB act gr m (bt so) w = true := by
  rw [decide_eq_true h1, KA_4] at ha
  unfold KB
  have h2 : anyN (fun v => nx m gr w v && !bt so v) 32 = false := by
    cases hc : anyN (fun v => nx m gr w v && !bt so v) 32 with
    | false => rfl
    | true => rw [hc] at ha; cases ha
  rw [if_pos h, h2, Bool.and_false]; rfl
theorem kb_9 {act gr so bo y : Int32} {m : AM} {w al : Nat} {b : Bool} (h : act.toInt = 9) (ha : decide (al = 1) = KAb m gr (bt so) w 4) (h0 : al ≠ 1) (hk : ∃ k, k < 4 ∧ ∀ i, i < 4 → bt gr i = decide (i = k)) (hbo : BS bo (KBo m gr w 4)) (e : bo &&& so = y) (hb : decide (y = 0) = b) : KB act gr m (bt so) w = b := by
  obtain ⟨k, hk, hg⟩ := hk
  rw [decide_eq_false h0, KA_4] at ha
  unfold KB
  have h2 : anyN (fun v => nx m gr w v && !bt so v) 32 = true := by
    cases hc : anyN (fun v => nx m gr w v && !bt so v) 32 with
    | true => rfl
    | false => rw [hc] at ha; cases ha
  rw [if_pos h, h2, Bool.and_true, ← hb, and_z e]
  congr 1
  exact anyN_cg (fun v hv => by rw [hbo v hv, kbo_one hk hg])
theorem KB_cg {act gr : Int32} {m : AM} {P Q : Nat → Bool} {w : Nat} (h : ∀ v, v < 32 → P v = Q v) : KB act gr m P w = KB act gr m Q w := by
  unfold KB
  have e1 : anyN (fun v => nx m gr w v && P v) 32 = anyN (fun v => nx m gr w v && Q v) 32 := anyN_cg (fun v hv => by rw [h v hv])
  have e2 : anyN (fun v => nx m gr w v && !P v) 32 = anyN (fun v => nx m gr w v && !Q v) 32 := anyN_cg (fun v hv => by rw [h v hv])
  have e3 : anyN (fun v => shr m gr w v && !P v) 32 = anyN (fun v => shr m gr w v && !Q v) 32 := anyN_cg (fun v hv => by rw [h v hv])
  have e4 : anyN (fun v => Rc m gr w v && !P v) 32 = anyN (fun v => Rc m gr w v && !Q v) 32 := anyN_cg (fun v hv => by rw [h v hv])
  rw [e1, e2, e3, e4]
theorem evK_b {act gr so r : Int32} {m : AM} {P : Nat → Bool} (h : BS r (evK act gr m (bt so))) (hp : BS so P) : BS r (evK act gr m P) := h.cg (fun w _ => by
  show (decide (w < m.1) && KB act gr m (bt so) w) = (decide (w < m.1) && KB act gr m P w)
  rw [KB_cg hp])
/-! what the reference holds true: the names of a saying -/
def rO (fa : Nat → Int32) (s : Nat) : Nat → Int32 := fun i => opV (cN fa (32 * s + i))
def rA (fa fw : Nat → Int32) (s : Nat) : Nat → Int32 := fun i => argV (cN fa (32 * s + i)) (cN fw (32 * s + i))
def WHs (n : Nat) (fa fw : Nat → Int32) (s : Nat) : Prop := 1 ≤ n ∧ ∀ i, i < n → 8 ≤ (fa (32 * s + i)).toInt → ∃ g, fw (32 * s + i) = nI g ∧ g < 16 ∧ g ≠ 0 ∧ ((fa (32 * s + i)).toInt = 9 → cb g.testBit 32 = 1)
theorem one4 : ∀ g, g < 16 → cb g.testBit 32 = 1 → (∀ i, i < 4 → bt (nI g) i = decide (i = 0)) ∨ (∀ i, i < 4 → bt (nI g) i = decide (i = 1)) ∨ (∀ i, i < 4 → bt (nI g) i = decide (i = 2)) ∨ (∀ i, i < 4 → bt (nI g) i = decide (i = 3)) := by decide +kernel
theorem some4 : ∀ g, g < 16 → g ≠ 0 → bt (nI g) 0 = true ∨ bt (nI g) 1 = true ∨ bt (nI g) 2 = true ∨ bt (nI g) 3 = true := by decide +kernel
theorem WHs.k9 {n s i : Nat} {fa fw : Nat → Int32} {x y : Int32} (h : WHs n fa fw s) (hi : i < n) (hx : fa (32 * s + i) = x) (hy : fw (32 * s + i) = y) : x.toInt = 9 → ∃ k, k < 4 ∧ ∀ i, i < 4 → bt y i = decide (i = k) := fun h9 => by
  obtain ⟨g, e1, e2, e3, e4⟩ := h.2 i hi (by rw [hx]; omega)
  rw [hx] at e4
  rw [hy] at e1
  rw [e1]
  rcases one4 g e2 (e4 h9) with a | a | a | a
  · exact ⟨0, by omega, a⟩
  · exact ⟨1, by omega, a⟩
  · exact ⟨2, by omega, a⟩
  · exact ⟨3, by omega, a⟩
theorem WHs.k12 {n s i : Nat} {fa fw : Nat → Int32} {x y : Int32} (h : WHs n fa fw s) (hi : i < n) (hx : fa (32 * s + i) = x) (hy : fw (32 * s + i) = y) : x.toInt = 12 → ∃ k, k < 4 ∧ bt y k = true := fun h9 => by
  obtain ⟨g, e1, e2, e3, e4⟩ := h.2 i hi (by rw [hx]; omega)
  rw [hy] at e1
  rw [e1]
  rcases some4 g e2 e3 with a | a | a | a
  · exact ⟨0, by omega, a⟩
  · exact ⟨1, by omega, a⟩
  · exact ⟨2, by omega, a⟩
  · exact ⟨3, by omega, a⟩
theorem uN_wR : ∀ a, a < 13 → uN (opV a) = wR (nI a) := by decide +kernel
theorem i_cl {x : Int32} {N : Nat} (h0 : 0 ≤ x.toInt) (h : x.toInt ≤ N) (hN : N < 2 ^ 31) : x = nI x.toNatClampNeg ∧ x.toNatClampNeg ≤ N := by
  obtain ⟨j, e, hj⟩ := nI_ex (x := x) (n := N) h0 h
  rw [e, nI_clamp (by omega)]; exact ⟨rfl, hj⟩
theorem clmp_of {x : Int32} {a : Nat} (h : x.toInt = a) : x.toNatClampNeg = a := by
  show x.toInt.toNat = a; omega
theorem opn_opr {fa : Nat → Int32} {s : Nat} : ∀ n : Nat, (∀ i, i < n → 0 ≤ (slot fa s i).toInt ∧ (slot fa s i).toInt ≤ 12) → opn (rO fa s) n = opr (slot fa s) n
  | 0, _ => rfl
  | n + 1, h => by
    have h1 := i_cl (x := slot fa s n) (N := 12) (h n (by omega)).1 (h n (by omega)).2 (by omega)
    rw [opn_s, opr_s, opn_opr n (fun i hi => h i (by omega))]
    have e : uN (rO fa s n) = wR (slot fa s n) := by
      have e1 : uN (rO fa s n) = uN (opV (slot fa s n).toNatClampNeg) := rfl
      rw [e1, uN_wR _ (by omega), ← h1.1]
    rw [e]
theorem rO_at {fa : Nat → Int32} {s i a : Nat} {x : Int32} (hx : fa (32 * s + i) = x) (h : x.toNatClampNeg = a) : rO fa s i = opV a := by unfold rO cN; rw [hx, h]
theorem rA_at {fa fw : Nat → Int32} {s i a : Nat} {x : Int32} (hx : fa (32 * s + i) = x) (h : x.toNatClampNeg = a) : rA fa fw s i = argV a (cN fw (32 * s + i)) := by
  show argV (cN fa (32 * s + i)) (cN fw (32 * s + i)) = _
  unfold cN; rw [hx, h]
section
variable {m : AM} {ar : Int32} {P Q : Nat → Bool}
theorem evC_0 : evC m 0 ar P Q = vF m ar := if_pos rfl
theorem evC_1 : evC m 1 ar P Q = vAll m := by unfold evC; rw [if_neg (by decide), if_pos rfl]
theorem evC_2 : evC m 2 ar P Q = vNot m P := by unfold evC; rw [if_neg (by decide), if_neg (by decide), if_pos rfl]
theorem evC_3 : evC m 3 ar P Q = fun w => P w && Q w := by unfold evC; rw [if_neg (by decide), if_neg (by decide), if_neg (by decide), if_pos rfl]
theorem evC_4 : evC m 4 ar P Q = fun w => P w || Q w := by unfold evC; rw [if_neg (by decide), if_neg (by decide), if_neg (by decide), if_neg (by decide), if_pos rfl]
theorem evC_5 : evC m 5 ar P Q = vWh m ar P := by unfold evC; rw [if_neg (by decide), if_neg (by decide), if_neg (by decide), if_neg (by decide), if_neg (by decide), if_pos rfl]
theorem evC_6 : evC m 6 ar P Q = vEv m ar P := by unfold evC; rw [if_neg (by decide), if_neg (by decide), if_neg (by decide), if_neg (by decide), if_neg (by decide), if_neg (by decide), if_pos rfl]
theorem evC_7 : evC m 7 ar P Q = vCom m ar P := by unfold evC; rw [if_neg (by decide), if_neg (by decide), if_neg (by decide), if_neg (by decide), if_neg (by decide), if_neg (by decide), if_neg (by decide), if_pos rfl]
theorem evC_8 : evC m 8 ar P Q = vTog m ar P := by unfold evC; rw [if_neg (by decide), if_neg (by decide), if_neg (by decide), if_neg (by decide), if_neg (by decide), if_neg (by decide), if_neg (by decide), if_neg (by decide)]
end
theorem fv_bit : ∀ a, a < 4 → ∀ v, v < 32 → bt (fv a) v = decide (v = a) := by decide +kernel
theorem fv_b {a : Nat} (ha : a < 4) (x : Int32) : decide (¬ (x &&& fv a = 0)) = bt x a := by
  have h1 := row_z (x := x &&& fv a)
  have h2 : anyN (bt (x &&& fv a)) 32 = bt x a := by
    apply bool_iff
    rw [anyN_iff]
    constructor
    · rintro ⟨i, hi, h⟩
      rw [b_and, fv_bit a ha i hi, Bool.and_eq_true, decide_eq_true_eq] at h
      rw [← h.2]; exact h.1
    · intro h
      exact ⟨a, by omega, by rw [b_and, fv_bit a ha a (by omega), h, decide_eq_true rfl]; rfl⟩
  rw [h2] at h1
  cases hb : bt x a with
  | true =>
    rw [hb] at h1
    exact decide_eq_true (of_decide_eq_false h1)
  | false =>
    rw [hb] at h1
    exact decide_eq_false (fun q => q (of_decide_eq_true h1))
theorem z_shl : ∀ i, i < 32 → (nI 0) <<< (nI i &&& 31) = 0 := by decide +kernel
theorem AC.b {x y z s f act : Int32} {P : Nat → Bool} {i j a : Nat} (h : AC x no_ i P) (hi : i ≤ 30) (ha : act = nI a) (ha2 : a < 32) (e1 : f >>> (act &&& 31) = s) (e2 : s &&& 1 = nI j) (hj : j < 2) (hP : P i = bt f a) (e3 : nI j <<< (nI i &&& 31) = y) (e : x ||| y = z) : AC z no_ (i + 1) P := by
  subst ha
  have h1 := bit1 ha2 e1 e2 hj
  cases hb : bt f a with
  | true =>
    have h2 : nI j = 1 := by rw [h1, hb]; rfl
    exact AC.t h hi (hP.trans hb) e (by rw [← e3, h2])
  | false =>
    have h2 : nI j = nI 0 := by rw [h1, hb]; rfl
    have h3 : y = 0 := by rw [← e3, h2]; exact z_shl i (by omega)
    rw [h3] at e
    exact AC.z h (hP.trans hb) e
section
variable {fm fr ff fp fa fw : Nat → Int32} {p s i : Nat} {x r : Int32} {P Q : Nat → Bool}
theorem te_f (hx : fa (32 * s + i) = x) (h0 : 0 ≤ x.toInt) (h4 : x.toInt < 4) (h : BS r (fun w => decide (w < cN fm p) && bt (ff (24 * p + w)) x.toNatClampNeg)) : BS r (evC (pgs fm fr ff fp p) (rO fa s i) (rA fa fw s i) P Q) := by
  have h1 := i_cl (x := x) (N := 3) h0 (by omega) (by omega)
  rw [rO_at hx rfl, rA_at hx rfl, opV_l (by omega), evC_0, ← argV_f (by omega)]
  refine h.cg (fun w _ => ?_)
  show _ = (decide (w < cN fm p) && decide (¬ ((pgs fm fr ff fp p).2.2.1 w &&& fv x.toNatClampNeg = 0)))
  by_cases q : w < cN fm p
  · rw [pg_F q, fv_b (by omega)]
  · rw [decide_eq_false q, Bool.false_and, Bool.false_and]
theorem te_4 {m : AM} (hx : fa (32 * s + i) = x) (h4 : x.toInt = 4) (h : BS r (vAll m)) : BS r (evC m (rO fa s i) (rA fa fw s i) P Q) := by
  rw [rO_at hx (clmp_of (a := 4) h4), show opV 4 = 1 from rfl, evC_1]; exact h
theorem te_5 {m : AM} {wh a b : Int32} (hx : fa (32 * s + i) = x) (h4 : x.toInt = 5) (hw : BS wh (vAll m)) (hp : BS a P) (e1 : a ^^^ (-1 : Int32) = b) (e2 : wh &&& b = r) : BS r (evC m (rO fa s i) (rA fa fw s i) P Q) := by
  rw [rO_at hx (clmp_of (a := 5) h4), show opV 5 = 2 from rfl, evC_2]; exact BS.and hw (BS.not hp e1) e2
theorem te_6 {m : AM} {a b : Int32} (hx : fa (32 * s + i) = x) (h4 : x.toInt = 6) (hq : BS a Q) (hp : BS b P) (e : a &&& b = r) : BS r (evC m (rO fa s i) (rA fa fw s i) P Q) := by
  rw [rO_at hx (clmp_of (a := 6) h4), show opV 6 = 3 from rfl, evC_3]; exact (BS.and hq hp e).cg (fun w _ => Bool.and_comm _ _)
theorem te_7 {m : AM} {a b : Int32} (hx : fa (32 * s + i) = x) (h4 : x.toInt = 7) (hq : BS a Q) (hp : BS b P) (e : a ||| b = r) : BS r (evC m (rO fa s i) (rA fa fw s i) P Q) := by
  rw [rO_at hx (clmp_of (a := 7) h4), show opV 7 = 4 from rfl, evC_4]; exact (BS.or hq hp e).cg (fun w _ => Bool.or_comm _ _)
theorem te_8 {m : AM} {gr so : Int32} {n : Nat} (hW : WHs n fa fw s) (hi : i < n) (hx : fa (32 * s + i) = x) (hy : fw (32 * s + i) = gr) (h8 : 8 ≤ x.toInt) (h12 : x.toInt ≤ 12) (hp : BS so P) (hr : BS r (evK x gr m (bt so))) : BS r (evC m (rO fa s i) (rA fa fw s i) P Q) := by
  have h1 := i_cl (x := x) (N := 12) (by omega) (by omega) (by omega)
  obtain ⟨g, g1, g2, -⟩ := hW.2 i hi (by rw [hx]; exact h8)
  have hA : rA fa fw s i = gr := by
    rw [rA_at hx rfl, ← argV_g (by have : x.toInt.toNat = x.toNatClampNeg := rfl; omega)]
    show nI (fw (32 * s + i)).toNatClampNeg = gr
    rw [g1, nI_clamp (by omega), ← g1, hy]
  rw [hA]
  have h2 := evK_b hr hp
  have h3 : x.toInt = 8 ∨ x.toInt = 9 ∨ x.toInt = 10 ∨ x.toInt = 11 ∨ x.toInt = 12 := by omega
  rcases h3 with q | q | q | q | q
  · rw [rO_at hx (clmp_of (a := 8) q), show opV 8 = 6 from rfl, evC_6]
    refine h2.cg (fun w _ => ?_)
    unfold evK KB vEv; rw [if_neg (by omega), if_neg (by omega), if_neg (by omega)]
  · rw [rO_at hx (clmp_of (a := 9) q), show opV 9 = 5 from rfl, evC_5]
    refine h2.cg (fun w _ => ?_)
    unfold evK KB vWh; rw [if_pos q]
  · rw [rO_at hx (clmp_of (a := 10) q), show opV 10 = 6 from rfl, evC_6]
    refine h2.cg (fun w _ => ?_)
    unfold evK KB vEv; rw [if_neg (by omega), if_neg (by omega), if_neg (by omega)]
  · rw [rO_at hx (clmp_of (a := 11) q), show opV 11 = 7 from rfl, evC_7]
    refine h2.cg (fun w _ => ?_)
    unfold evK KB vCom; rw [if_neg (by omega), if_neg (by omega), if_pos q]
  · rw [rO_at hx (clmp_of (a := 12) q), show opV 12 = 8 from rfl, evC_8]
    refine h2.cg (fun w _ => ?_)
    unfold evK KB vTog; rw [if_neg (by omega), if_pos q]
end
theorem st_at {f : Nat → Int32} {V : Nat → Nat → Bool} {B : Int} {j k : Nat} {x : Int32} (h : ∀ j : Nat, (j : Int) < B → BS (f j) (V j)) (hk : (k : Int) < B) (ek : k = j) (e : f j = x) : BS x (V k) := by
  subst ek; rw [← e]; exact h k hk
