/-! heaps of worlds: the least world of each one's heap -/
def RNG (N B : Nat) (f : Nat → Int32) : Prop := ∀ i, i < N → ∃ j : Nat, j < B ∧ f i = nI j
theorem RNG.put {N B k t : Nat} {f g : Nat → Int32} (h : RNG N B f) (ht : t < B) (e : upd f k (nI t) = g) : RNG N B g := by
  intro i hi
  rw [← e]
  by_cases hk : i = k
  · rw [hk, pk_us]; exact ⟨t, ht, rfl⟩
  · rw [pk_un hk]; exact h i hi
theorem RNG.zero {N B : Nat} (h : 0 < B) : RNG N B (fun _ => 0) := fun i _ => ⟨0, h, rfl⟩
/-- each one's least is no greater, and its own least -/
def LI (n : Nat) (f : Nat → Int32) : Prop := ∀ i, i < n → ∃ j : Nat, j ≤ i ∧ f i = nI j ∧ f j = nI j
def fxM (n : Nat) (f g : Nat → Int32) (i : Nat) : Int32 := if i < n then f i else g (i - n)
theorem fxM_l {n i : Nat} {f g : Nat → Int32} (h : i < n) : f i = fxM n f g i := by unfold fxM; rw [if_pos h]
theorem fxM_r {n i : Nat} {f g : Nat → Int32} (h : n ≤ i) : g (i - n) = fxM n f g i := by unfold fxM; rw [if_neg (by omega)]
def HBx (n : Nat) (fx fl : Nat → Int32) : Prop := ∀ i, i < n → ∃ j : Nat, j ≤ i ∧ fl i = nI j ∧ fx j = fx i ∧ ∀ v, v < j → fx v ≠ fx i
theorem HBx.zero {fx fl : Nat → Int32} : HBx 0 fx fl := fun v h => absurd h (Nat.not_lt_zero _)
theorem HBx.ext {i j : Nat} {fx fl g : Nat → Int32} (h : HBx i fx fl) (hj : j ≤ i) (hv : ∀ v, v < j → fx v ≠ fx i) (he : fx j = fx i) (e : upd fl i (nI j) = g) : HBx (i + 1) fx g := by
  intro m hm
  rw [← e]
  by_cases hk : m = i
  · rw [hk, pk_us]; exact ⟨j, hj, rfl, he, hv⟩
  · rw [pk_un hk]; exact h m (by omega)
theorem HBx.LI {n : Nat} {fx fl : Nat → Int32} (h : HBx n fx fl) (hn : n ≤ 48) : LI n fl := by
  intro i hi
  obtain ⟨j, h1, h2, h3, h4⟩ := h i hi
  obtain ⟨j2, g1, g2, g3, g4⟩ := h j (by omega)
  have e : j2 = j := by
    rcases Nat.lt_or_ge j2 j with q | q
    · exact absurd (g3.trans h3) (h4 j2 q)
    · omega
  rw [e] at g2
  exact ⟨j, h1, h2, g2⟩
def ALx (fl : Nat → Int32) (fs : Nat → Int64) (i j : Nat) : Prop := fl i = fl j ∧ ∀ k, k < 4 → fs (k * 2 * 24 + i) = fs (k * 2 * 24 + j)
theorem ALx.rf {fl : Nat → Int32} {fs : Nat → Int64} {i : Nat} : ALx fl fs i i := ⟨rfl, fun _ _ => rfl⟩
def SEx (fs : Nat → Int64) (i j k : Nat) : Prop := ∀ m, m < k → fs (m * 2 * 24 + i) = fs (m * 2 * 24 + j)
theorem SEx.zero {fs : Nat → Int64} {i j : Nat} : SEx fs i j 0 := fun v h => absurd h (Nat.not_lt_zero _)
theorem SEx.ext {fs : Nat → Int64} {i j k : Nat} {x y : Int64} (h : SEx fs i j k) (ex : fs (k * 2 * 24 + i) = x) (ey : fs (k * 2 * 24 + j) = y) (e : x.toInt = y.toInt) : SEx fs i j (k + 1) := by
  intro m hm
  by_cases hk : m = k
  · rw [hk, ex, ey]; exact Int64.toInt_inj.mp e
  · exact h m (by omega)
theorem ALx.no1 {fl : Nat → Int32} {fs : Nat → Int64} {i j : Nat} {x y : Int32} (ex : fl i = x) (ey : fl j = y) (h : ¬ x = y) : ¬ ALx fl fs i j := fun q => h (by rw [← ex, ← ey]; exact q.1)
theorem ALx.no2 {fl : Nat → Int32} {fs : Nat → Int64} {i j k : Nat} {x y : Int64} (hk : k < 4) (ex : fs (k * 2 * 24 + i) = x) (ey : fs (k * 2 * 24 + j) = y) (h : x.toInt ≠ y.toInt) : ¬ ALx fl fs i j := fun q => h (by rw [← ex, ← ey, q.2 k hk])
def HPx (n : Nat) (fl : Nat → Int32) (fs : Nat → Int64) (fn : Nat → Int32) : Prop := ∀ i, i < n → ∃ lo j : Nat, fl i = nI lo ∧ lo ≤ j ∧ j ≤ i ∧ fn i = nI j ∧ ALx fl fs i j ∧ ∀ v, lo ≤ v → v < j → ¬ ALx fl fs i v
theorem HPx.zero {fl : Nat → Int32} {fs : Nat → Int64} {fn : Nat → Int32} : HPx 0 fl fs fn := fun v h => absurd h (Nat.not_lt_zero _)
theorem HPx.ext {i lo j : Nat} {fl : Nat → Int32} {fs : Nat → Int64} {fn g : Nat → Int32} (h : HPx i fl fs fn) (hl : fl i = nI lo) (h1 : lo ≤ j) (h2 : j ≤ i) (ha : ALx fl fs i j) (hv : ∀ v, lo ≤ v → v < j → ¬ ALx fl fs i v) (e : upd fn i (nI j) = g) : HPx (i + 1) fl fs g := by
  intro m hm
  rw [← e]
  by_cases hk : m = i
  · rw [hk, pk_us]; exact ⟨lo, j, hl, h1, h2, rfl, ha, hv⟩
  · rw [pk_un hk]; exact h m (by omega)
theorem HPx.LI {n : Nat} {fl : Nat → Int32} {fs : Nat → Int64} {fn : Nat → Int32} (h : HPx n fl fs fn) (hn : n ≤ 48) : LI n fn := by
  intro i hi
  obtain ⟨lo, j, h0, h1, h2, h3, h4, h5⟩ := h i hi
  obtain ⟨lo2, j2, g0, g1, g2, g3, g4, g5⟩ := h j (by omega)
  have el : lo2 = lo := by
    have := g0.symm.trans (h4.1.symm.trans h0)
    exact (nI_eq (by omega) (by omega)).mp this
  have e : j2 = j := by
    rcases Nat.lt_or_ge j2 j with q | q
    · exact absurd (show ALx fl fs i j2 from ⟨h4.1.trans g4.1, fun k hk => (h4.2 k hk).trans (g4.2 k hk)⟩) (h5 j2 (by omega) q)
    · omega
  rw [e] at g3
  exact ⟨j, h2, h3, g3⟩
def CPx (i : Nat) (fn f : Nat → Int32) : Prop := ∀ v, v < i → f v = fn v
theorem CPx.zero {fn f : Nat → Int32} : CPx 0 fn f := fun v h => absurd h (Nat.not_lt_zero _)
theorem CPx.ext {i : Nat} {fn f g : Nat → Int32} {x : Int32} (h : CPx i fn f) (ex : fn i = x) (e : upd f i x = g) : CPx (i + 1) fn g := by
  intro v hv
  rw [← e]
  by_cases hk : v = i
  · rw [hk, pk_us]; exact ex.symm
  · rw [pk_un hk]; exact h v (by omega)
theorem LI.cp {n : Nat} {fn f : Nat → Int32} (h : LI n fn) (hc : CPx n fn f) : LI n f := by
  intro i hi
  obtain ⟨j, h1, h2, h3⟩ := h i hi
  exact ⟨j, h1, (hc i hi).trans h2, (hc j (by omega)).trans h3⟩
theorem LI.at {n i : Nat} {f : Nat → Int32} (h : LI n f) (hi : i < n) : ∃ j : Nat, j ≤ i ∧ f i = nI j := by
  obtain ⟨j, h1, h2, -⟩ := h i hi; exact ⟨j, h1, h2⟩
theorem HPx.at {n i : Nat} {fl : Nat → Int32} {fs : Nat → Int64} {fn : Nat → Int32} (h : HPx n fl fs fn) (hi : i < n) : ∃ j : Nat, j ≤ i ∧ fn i = nI j := by
  obtain ⟨lo, j, -, -, h2, h3, -⟩ := h i hi; exact ⟨j, h2, h3⟩
def MDx (fl : Nat → Int32) (i c : Nat) (fn : Nat → Int32) : Prop := ∀ v, v < i → fl v = nI v → ∃ t : Nat, t < c ∧ fn v = nI t
theorem MDx.zero {fl fn : Nat → Int32} {c : Nat} : MDx fl 0 c fn := fun v h => absurd h (Nat.not_lt_zero _)
theorem MDx.yes {fl fn g : Nat → Int32} {i c : Nat} (h : MDx fl i c fn) (e : upd fn i (nI c) = g) : MDx fl (i + 1) (c + 1) g := by
  intro v hv hf
  rw [← e]
  by_cases hk : v = i
  · rw [hk, pk_us]; exact ⟨c, by omega, rfl⟩
  · rw [pk_un hk]; obtain ⟨t, h1, h2⟩ := h v (by omega) hf; exact ⟨t, by omega, h2⟩
theorem MDx.no {fl fn : Nat → Int32} {i c : Nat} {x : Int32} (h : MDx fl i c fn) (ex : fl i = x) (hn : ¬ x = nI i) : MDx fl (i + 1) c fn := by
  intro v hv hf
  by_cases hk : v = i
  · rw [hk] at hf; exact absurd (ex.symm.trans hf) hn
  · exact h v (by omega) hf
/-! heaps of worlds, round by round: of one model, or of two beside one another -/
abbrev CMl : Type := Nat × (Nat → Int32) × (Nat → Nat → Nat → Bool)
def cm1 (a : AM) : CMl := (a.1, a.2.2.1, a.2.2.2)
def cm2 (a b : AM) : CMl := (a.1 + b.1, fun i => if i < a.1 then a.2.2.1 i else b.2.2.1 (i - a.1), fun k i j => if i < a.1 then a.2.2.2 k i j else (decide (a.1 ≤ j) && b.2.2.2 k (i - a.1) (j - a.1)))
def lst (p : Nat → Bool) : Nat → Nat → Nat
  | 0, j => j
  | f + 1, j => if p j = true then j else lst p f (j + 1)
theorem lst_u {p : Nat → Bool} : ∀ (f j i : Nat), j ≤ i → i ≤ j + f → (∀ v, j ≤ v → v < i → p v = false) → p i = true → lst p f j = i
  | 0, j, i, h1, h2, _, _ => by show j = i; omega
  | f + 1, j, i, h1, h2, h3, h4 => by
    show (if p j = true then j else lst p f (j + 1)) = i
    by_cases q : j = i
    · rw [q, if_pos h4]
    · rw [if_neg (by rw [h3 j (Nat.le_refl _) (by omega)]; decide)]
      exact lst_u f (j + 1) i (by omega) (by omega) (fun v a b => h3 v (by omega) b) h4
theorem lst_in' {p : Nat → Bool} : ∀ (f j : Nat), (∃ i, j ≤ i ∧ i ≤ j + f ∧ p i = true) → j ≤ lst p f j ∧ lst p f j ≤ j + f ∧ p (lst p f j) = true ∧ ∀ v, j ≤ v → v < lst p f j → p v = false
  | 0, j, ⟨i, h1, h2, h3⟩ => by
    have e : i = j := by omega
    subst e
    exact ⟨Nat.le_refl _, Nat.le_refl _, h3, fun v a b => by have b2 : v < i := b; omega⟩
  | f + 1, j, ⟨i, h1, h2, h3⟩ => by
    show j ≤ (if p j = true then j else lst p f (j + 1)) ∧ (if p j = true then j else lst p f (j + 1)) ≤ j + (f + 1) ∧ p (if p j = true then j else lst p f (j + 1)) = true ∧ ∀ v, j ≤ v → v < (if p j = true then j else lst p f (j + 1)) → p v = false
    by_cases q : p j = true
    · rw [if_pos q]; exact ⟨Nat.le_refl _, by omega, q, fun v a b => by omega⟩
    · rw [if_neg q]
      have hne : i ≠ j := fun e => q (by rw [← e]; exact h3)
      have h4 := lst_in' f (j + 1) ⟨i, by omega, by omega, h3⟩
      refine ⟨by omega, by omega, h4.2.2.1, fun v a b => ?_⟩
      by_cases z : v = j
      · rw [z]; rw [Bool.not_eq_true] at q; exact q
      · exact h4.2.2.2 v (by omega) b
theorem lst_in {p : Nat → Bool} (i : Nat) (h : p i = true) : lst p i 0 ≤ i ∧ p (lst p i 0) = true ∧ ∀ v, v < lst p i 0 → p v = false := by
  have h1 := lst_in' (p := p) i 0 ⟨i, Nat.zero_le _, by omega, h⟩
  exact ⟨by omega, h1.2.2.1, fun v hv => h1.2.2.2 v (Nat.zero_le _) hv⟩
/-- the names of the heaps that a row leads to -/
def HSt (c : CMl) (rk : Nat → Nat) (k i : Nat) : Nat → Bool := fun t => anyN (fun v => c.2.2 k i v && decide (rk v = t)) 48
/-- both are of one heap, and lead to the same heaps: as a test -/
def alkB (c : CMl) (rk : Nat → Nat) (i j : Nat) : Bool := decide (rk j = rk i) && !anyN (fun k => anyN (fun t => HSt c rk k j t != HSt c rk k i t) 48) 4
def rkS (c : CMl) (rk : Nat → Nat) (i : Nat) : Nat := lst (alkB c rk i) i 0
def rk0 (c : CMl) (i : Nat) : Nat := lst (fun j => decide (c.2.1 j = c.2.1 i)) i 0
/-- the least world of the heap, by rounds -/
def rk (c : CMl) : Nat → Nat → Nat
  | 0 => rk0 c
  | r + 1 => rkS c (rk c r)
/-- both are of one heap, and lead to the same heaps -/
def ALK (c : CMl) (rk : Nat → Nat) (i j : Nat) : Prop := rk j = rk i ∧ ∀ k, k < 4 → ∀ t, t < 48 → HSt c rk k j t = HSt c rk k i t
theorem ALK.dec {c : CMl} {rk : Nat → Nat} {i j : Nat} : alkB c rk i j = true ↔ ALK c rk i j := by
  unfold alkB
  rw [Bool.and_eq_true, decide_eq_true_eq, Bool.not_eq_true']
  constructor
  · rintro ⟨h1, h2⟩
    refine ⟨h1, fun k hk t ht => ?_⟩
    have h3 : anyN (fun t => HSt c rk k j t != HSt c rk k i t) 48 = false := anyN_f (p := fun k => anyN (fun t => HSt c rk k j t != HSt c rk k i t) 48) h2 hk
    have h4 : (HSt c rk k j t != HSt c rk k i t) = false := anyN_f h3 ht
    simpa using h4
  · rintro ⟨h1, h2⟩
    refine ⟨h1, anyN_no (fun k hk => anyN_no (fun t ht => ?_))⟩
    show (HSt c rk k j t != HSt c rk k i t) = false
    rw [h2 k hk t ht]; cases HSt c rk k i t <;> rfl
theorem rkS_u {c : CMl} {rk : Nat → Nat} {i j : Nat} (hj : j ≤ i) (hv : ∀ v, v < j → ¬ ALK c rk i v) (ha : ALK c rk i j) : rkS c rk i = j :=
  lst_u i 0 j (Nat.zero_le _) (by omega) (fun v _ h => by
    have h1 := hv v h
    rw [← ALK.dec, Bool.not_eq_true] at h1; exact h1) (ALK.dec.mpr ha)
theorem rk0_u {c : CMl} {i j : Nat} (hj : j ≤ i) (hv : ∀ v, v < j → c.2.1 v ≠ c.2.1 i) (ha : c.2.1 j = c.2.1 i) : rk0 c i = j :=
  lst_u i 0 j (Nat.zero_le _) (by omega) (fun v _ h => decide_eq_false (hv v h)) (decide_eq_true ha)
/-- the heaps of a round, as they are held -/
def RKx (c : CMl) (n r : Nat) (fl : Nat → Int32) : Prop := ∀ i, i < n → fl i = nI (rk c r i)
theorem rk_le (c : CMl) : ∀ r i, rk c r i ≤ i ∧ rk c r (rk c r i) = rk c r i
  | 0, i => by
    have h := lst_in (p := fun j => decide (c.2.1 j = c.2.1 i)) i (decide_eq_true rfl)
    refine ⟨h.1, ?_⟩
    have h2 := of_decide_eq_true h.2.1
    show rk0 c (rk0 c i) = rk0 c i
    exact rk0_u (Nat.le_refl _) (fun v hv e => by
      have h3 := h.2.2 v hv
      rw [decide_eq_false_iff_not] at h3
      exact h3 (e.trans h2)) rfl
  | r + 1, i => by
    have h := lst_in (p := alkB c (rk c r) i) i (ALK.dec.mpr ⟨rfl, fun _ _ _ _ => rfl⟩)
    refine ⟨h.1, ?_⟩
    have h2 := ALK.dec.mp h.2.1
    show rkS c (rk c r) (rkS c (rk c r) i) = rkS c (rk c r) i
    exact rkS_u (Nat.le_refl _) (fun v hv e => by
      have h3 := h.2.2 v hv
      rw [← Bool.not_eq_true, ALK.dec] at h3
      exact h3 ⟨e.1.trans h2.1, fun k hk t ht => (e.2 k hk t ht).trans (h2.2 k hk t ht)⟩) ⟨rfl, fun _ _ _ _ => rfl⟩
/-! long rows of bits -/
def lb (x : Int64) (i : Nat) : Bool := x.toBitVec.getLsbD i
def LSx (x : Int64) (P : Nat → Bool) : Prop := ∀ i, i < 64 → lb x i = (decide (i < 48) && P i)
theorem LSx.z : LSx 0 (fun _ => false) := fun i _ => by
  rw [Bool.and_false]; exact BitVec.getLsbD_zero
theorem LSx.cg {x : Int64} {P Q : Nat → Bool} (h : LSx x P) (e : ∀ i, i < 48 → P i = Q i) : LSx x Q := fun i hi => by
  rw [h i hi]
  by_cases q : i < 48
  · rw [e i q]
  · rw [decide_eq_false q, Bool.false_and, Bool.false_and]
theorem LSx.eq {x y : Int64} {P Q : Nat → Bool} (h : LSx x P) (k : LSx y Q) : x = y ↔ ∀ t, t < 48 → P t = Q t := by
  constructor
  · intro e t ht
    have h1 := h t (by omega)
    have h2 := k t (by omega)
    rw [decide_eq_true ht, Bool.true_and] at h1 h2
    rw [← h1, ← h2, e]
  · intro e
    apply Int64.toBitVec_inj.mp
    refine BitVec.eq_of_getLsbD_eq (fun i hi => ?_)
    have h1 := h i hi
    have h2 := (k.cg (fun t ht => (e t ht).symm)) i hi
    exact h1.trans h2.symm
theorem l1_b : ∀ j, j < 48 → ((1 : Int64) <<< ((nI j).toInt64 &&& 63)).toBitVec = BitVec.ofNat 64 (2 ^ j) := by decide +kernel
theorem LSx.or1 {x y z : Int64} {P : Nat → Bool} {t : Nat} (h : LSx x P) (ht : t < 48) (e1 : (1 : Int64) <<< ((nI t).toInt64 &&& 63) = y) (e : x ||| y = z) : LSx z (fun i => P i || decide (i = t)) := by
  intro i hi
  have hy : lb y i = decide (i = t) := by
    unfold lb
    rw [← e1, l1_b t ht, BitVec.getLsbD_ofNat, Nat.testBit_two_pow, decide_eq_true hi, Bool.true_and]
    exact dec_cg ⟨fun q => q.symm, fun q => q.symm⟩
  have ho : lb z i = (lb x i || lb y i) := by unfold lb; rw [← e, Int64.toBitVec_or, BitVec.getLsbD_or]
  rw [ho, h i hi, hy]
  by_cases q : i < 48
  · rw [decide_eq_true q, Bool.true_and, Bool.true_and]
  · rw [decide_eq_false q, Bool.false_and, Bool.false_and, decide_eq_false (show ¬ i = t by omega), Bool.false_or]
/-- the heaps of a row's worlds, the first i of them -/
def HOx (bs : Int32) (R : Nat → Nat) (sf i : Nat) (x : Int64) : Prop := LSx x (fun t => anyN (fun w => bt bs w && decide (R (sf + w) = t)) i)
theorem HOx.nil {bs : Int32} {R : Nat → Nat} {sf : Nat} : HOx bs R sf 0 0 := LSx.z
theorem HOx.f {bs : Int32} {R : Nat → Nat} {sf i : Nat} {x : Int64} (h : HOx bs R sf i x) (hb : bt bs i = false) : HOx bs R sf (i + 1) x := h.cg (fun t _ => by
  show anyN _ i = (anyN _ i || (bt bs i && decide (R (sf + i) = t)))
  rw [hb, Bool.false_and, Bool.or_false])
theorem HOx.t {bs : Int32} {R : Nat → Nat} {sf i : Nat} {x y z : Int64} (h : HOx bs R sf i x) (hb : bt bs i = true) (hr : R (sf + i) < 48) (e1 : (1 : Int64) <<< ((nI (R (sf + i))).toInt64 &&& 63) = y) (e : x ||| y = z) : HOx bs R sf (i + 1) z := (LSx.or1 h hr e1 e).cg (fun t _ => by
  show (anyN _ i || decide (t = R (sf + i))) = (anyN _ i || (bt bs i && decide (R (sf + i) = t)))
  rw [hb, Bool.true_and, dec_cg (show t = R (sf + i) ↔ R (sf + i) = t from ⟨fun q => q.symm, fun q => q.symm⟩)])
theorem shz_b {bs x : Int32} {i : Nat} (hi : i < 24) (e : bs >>> (nI i &&& 31) = x) (h : x.toInt = 0) : ∀ w, i ≤ w → w < 24 → bt bs w = false := by
  intro w h1 h2
  have hx := i_z h
  have hb := b_sshr i (by omega) bs (i := w - i) (by omega)
  rw [e, hx, b_0, if_pos (by omega), show i + (w - i) = w by omega] at hb
  exact hb.symm
theorem HOx.fin {bs : Int32} {R : Nat → Nat} {sf i : Nat} {x : Int64} (h : HOx bs R sf i x) (hi : i ≤ 24) (hb : ∀ w, i ≤ w → w < 24 → bt bs w = false) : HOx bs R sf 24 x := by
  obtain ⟨d, hd⟩ : ∃ d, i + d = 24 := ⟨24 - i, by omega⟩
  have key : ∀ d, i + d ≤ 24 → HOx bs R sf (i + d) x := by
    intro d
    induction d with
    | zero => intro _; exact h
    | succ d ih => intro hd; exact HOx.f (ih (by omega)) (hb (i + d) (by omega) (by omega))
  have := key d (by omega)
  rw [hd] at this; exact this
/-- all worlds' rows, as heaps: of knowers below k, of knower k those of worlds below i -/
def LKx (c : CMl) (rk : Nat → Nat) (k i : Nat) (fs : Nat → Int64) : Prop := ∀ k' j, k' < 4 → j < c.1 → (k' < k ∨ k' = k ∧ j < i) → LSx (fs (k' * 2 * 24 + j)) (HSt c rk k' j)
theorem LKx.nil {c : CMl} {rk : Nat → Nat} {fs : Nat → Int64} : LKx c rk 0 0 fs := fun k j _ _ h => absurd h (by omega)
theorem LKx.up {c : CMl} {rk : Nat → Nat} {k i : Nat} {fs : Nat → Int64} (h : LKx c rk k i fs) (e : c.1 ≤ i) : LKx c rk (k + 1) 0 fs := fun k' j a b d => h k' j a b (by omega)
theorem LKx.t {c : CMl} {rk : Nat → Nat} {k i : Nat} {fs fs' : Nat → Int64} {x : Int64} (h : LKx c rk k i fs) (h48 : c.1 ≤ 48) (hi : i < c.1) (hx : LSx x (HSt c rk k i)) (e : vp_updL fs (k * 2 * 24 + i) x = fs') : LKx c rk k (i + 1) fs' := by
  intro k' j a b d
  rw [← e]
  by_cases q : k' * 2 * 24 + j = k * 2 * 24 + i
  · have e1 : k' = k := by omega
    have e2 : j = i := by omega
    rw [q, pk_uLs, e1, e2]; exact hx
  · rw [pk_uLn q]; exact h k' j a b (by omega)
theorem anyN_up {p : Nat → Bool} {n N : Nat} (hn : n ≤ N) (h : ∀ i, n ≤ i → i < N → p i = false) : anyN p N = anyN p n := by
  obtain ⟨d, rfl⟩ : ∃ d, N = n + d := ⟨N - n, by omega⟩
  induction d with
  | zero => rfl
  | succ d ih =>
    show (anyN p (n + d) || p (n + d)) = anyN p n
    rw [ih (by omega) (fun i a b => h i a (by omega)), h (n + d) (by omega) (by omega), Bool.or_false]
theorem hs_1 {n r k w : Nat} {f g : Nat → Int32} {rk : Nat → Nat} {x : Int64} (h24 : n ≤ 24) (hw : WFm (am n r f g)) (hk : k < 4) (hl : w < n) (h : HOx (g (k * 24 + w)) rk 0 24 x) : LSx x (HSt (cm1 (am n r f g)) rk k w) := h.cg (fun t _ => by
  unfold HSt
  rw [anyN_up (n := 24) (N := 48) (by omega) (fun v h1 h2 => by
    cases hb : (cm1 (am n r f g)).2.2 k w v with
    | false => rfl
    | true =>
      have h3 : v < n := hw k w v hb
      omega)]
  refine anyN_cg (fun v hv => ?_)
  show (bt (g (k * 24 + w)) v && decide (rk (0 + v) = t)) = ((am n r f g).2.2.2 k w v && decide (rk v = t))
  rw [am_S hk hl, Nat.zero_add])
theorem hs_l {n r k w n2 r2 : Nat} {f g f2 g2 : Nat → Int32} {rk : Nat → Nat} {x : Int64} (h24 : n ≤ 24) (hw : WFm (am n r f g)) (hk : k < 4) (hl : w < n) (h : HOx (g (k * 24 + w)) rk 0 24 x) : LSx x (HSt (cm2 (am n r f g) (am n2 r2 f2 g2)) rk k w) := (hs_1 (r := r) (f := f) h24 hw hk hl h).cg (fun t _ => by
  unfold HSt
  refine anyN_cg (fun v _ => ?_)
  show _ = ((if w < n then (am n r f g).2.2.2 k w v else _) && _)
  rw [if_pos hl]; rfl)
theorem hs_r {n r k i n2 r2 : Nat} {f g f2 g2 : Nat → Int32} {rk : Nat → Nat} {x : Int64} (h24 : n ≤ 24) (h24' : n2 ≤ 24) (hw : WFm (am n2 r2 f2 g2)) (hk : k < 4) (hl : n ≤ i) (hl2 : i < n + n2) (h : HOx (g2 (k * 24 + (i - n))) rk n 24 x) : LSx x (HSt (cm2 (am n r f g) (am n2 r2 f2 g2)) rk k i) := h.cg (fun t _ => by
  apply bool_iff
  unfold HSt
  rw [anyN_iff, anyN_iff]
  constructor
  · rintro ⟨w, h1, h2⟩
    rw [Bool.and_eq_true] at h2
    refine ⟨n + w, by omega, ?_⟩
    show ((if i < n then _ else (decide (n ≤ n + w) && (am n2 r2 f2 g2).2.2.2 k (i - n) (n + w - n))) && decide (rk (n + w) = t)) = true
    rw [if_neg (by omega), decide_eq_true (show n ≤ n + w by omega), Bool.true_and, am_S hk (by omega), show n + w - n = w by omega, h2.1, h2.2]; rfl
  · rintro ⟨v, h1, h2⟩
    have h3 : ((if i < n then (am n r f g).2.2.2 k i v else (decide (n ≤ v) && (am n2 r2 f2 g2).2.2.2 k (i - n) (v - n))) && decide (rk v = t)) = true := h2
    rw [if_neg (by omega), Bool.and_eq_true, Bool.and_eq_true, decide_eq_true_eq] at h3
    have h4 : v - n < n2 := hw k (i - n) (v - n) h3.1.2
    refine ⟨v - n, by omega, ?_⟩
    rw [am_S hk (by omega)] at h3
    rw [show n + (v - n) = v by omega, h3.1.2, h3.2]; rfl)
/-- a model's heaps, of rows that lead to its own worlds alone -/
def CWF (c : CMl) : Prop := ∀ k i v, i < c.1 → c.2.2 k i v = true → v < c.1
theorem cm1_wf {a : AM} (h : WFm a) : CWF (cm1 a) := fun k i v _ hv => h k i v hv
theorem cm2_wf {a b : AM} (h : WFm a) (h2 : WFm b) : CWF (cm2 a b) := fun k i v hi hv => by
  have h3 : (if i < a.1 then a.2.2.2 k i v else (decide (a.1 ≤ v) && b.2.2.2 k (i - a.1) (v - a.1))) = true := hv
  show v < a.1 + b.1
  by_cases q : i < a.1
  · rw [if_pos q] at h3; have := h k i v h3; omega
  · rw [if_neg q, Bool.and_eq_true, decide_eq_true_eq] at h3; have := h2 k _ _ h3.2; omega
theorem alk_al {c : CMl} {r i j : Nat} {fl : Nat → Int32} {fs : Nat → Int64} (h48 : c.1 ≤ 48) (h : RKx c c.1 r fl) (hs : LKx c (rk c r) 4 0 fs) (hi : i < c.1) (hj : j < c.1) : ALx fl fs i j ↔ ALK c (rk c r) i j := by
  have h1 := (rk_le c r i).1
  have h2 := (rk_le c r j).1
  unfold ALx ALK
  rw [h i hi, h j hj]
  constructor
  · rintro ⟨a, b⟩
    exact ⟨((nI_eq (by omega) (by omega)).mp a).symm, fun k hk t ht => (((LSx.eq (hs k i hk hi (by omega)) (hs k j hk hj (by omega))).mp (b k hk)) t ht).symm⟩
  · rintro ⟨a, b⟩
    exact ⟨by rw [a], fun k hk => (LSx.eq (hs k i hk hi (by omega)) (hs k j hk hj (by omega))).mpr (fun t ht => (b k hk t ht).symm)⟩
theorem hp_rk {c : CMl} {r : Nat} {fl fn : Nat → Int32} {fs : Nat → Int64} (h48 : c.1 ≤ 48) (h : RKx c c.1 r fl) (hs : LKx c (rk c r) 4 0 fs) (hp : HPx c.1 fl fs fn) : RKx c c.1 (r + 1) fn := by
  intro i hi
  obtain ⟨lo, j, a0, a1, a2, a3, a4, a5⟩ := hp i hi
  have hl := rk_le c r i
  have e0 : rk c r i = lo := (nI_eq (by omega) (by omega)).mp ((h i hi).symm.trans a0)
  rw [a3]
  congr 1
  symm
  show rkS c (rk c r) i = j
  refine rkS_u a2 (fun v hv ha => ?_) ((alk_al h48 h hs hi (by omega)).mp a4)
  rcases Nat.lt_or_ge v lo with q | q
  · have h3 := (rk_le c r v).1
    have h4 := ha.1
    omega
  · exact a5 v q hv ((alk_al h48 h hs hi (by omega)).mpr ha)
theorem hb_rk {c : CMl} {fx fl : Nat → Int32} (hf : ∀ i, i < c.1 → c.2.1 i = fx i) (h : HBx c.1 fx fl) : RKx c c.1 0 fl := by
  intro i hi
  obtain ⟨j, a1, a2, a3, a4⟩ := h i hi
  rw [a2]
  congr 1
  symm
  exact rk0_u a1 (fun v hv => by rw [hf v (by omega), hf i hi]; exact a4 v hv) (by rw [hf j (by omega), hf i hi]; exact a3)
/-- a round that parts none is the last -/
theorem rk_rest {c : CMl} (hw : CWF c) {r : Nat} (h : ∀ i, i < c.1 → rk c (r + 1) i = rk c r i) : ∀ d i, i < c.1 → rk c (r + d) i = rk c r i := by
  intro d
  induction d with
  | zero => intro i _; rfl
  | succ d ih =>
    intro i hi
    rw [← h i hi]
    show rkS c (rk c (r + d)) i = rkS c (rk c r) i
    have hs : ∀ k j, j < c.1 → ∀ t, HSt c (rk c (r + d)) k j t = HSt c (rk c r) k j t := by
      intro k j hj t
      unfold HSt
      refine anyN_cg (fun v _ => ?_)
      cases hb : c.2.2 k j v with
      | false => rfl
      | true => rw [ih v (hw k j v hj hb)]
    have hr := rk_le c (r + 1) i
    refine rkS_u hr.1 (fun v hv ha => ?_) ?_
    · have e : rkS c (rk c r) i = rkS c (rk c r) i := rfl
      have hv2 : v < rkS c (rk c r) i := hv
      have h1 := lst_in (p := alkB c (rk c r) i) i (ALK.dec.mpr ⟨rfl, fun _ _ _ _ => rfl⟩)
      have h2 := h1.2.2 v hv2
      rw [← Bool.not_eq_true, ALK.dec] at h2
      have hle9 : rkS c (rk c r) i ≤ i := h1.1
      exact h2 ⟨by rw [← ih v (by omega), ← ih i hi]; exact ha.1, fun k hk t ht => by rw [← hs k v (by omega), ← hs k i hi]; exact ha.2 k hk t ht⟩
    · have h1 := lst_in (p := alkB c (rk c r) i) i (ALK.dec.mpr ⟨rfl, fun _ _ _ _ => rfl⟩)
      have h2 := ALK.dec.mp h1.2.1
      have hlt : rkS c (rk c r) i < c.1 := by have h3 : rkS c (rk c r) i ≤ i := h1.1; omega
      exact ⟨by rw [ih _ hlt, ih i hi]; exact h2.1, fun k hk t ht => by rw [hs k _ hlt, hs k i hi]; exact h2.2 k hk t ht⟩
/-- the least world of a class -/
def clsS (c : CMl) : Nat → Nat := rk c c.1
theorem rk_end {c : CMl} (hw : CWF c) {r : Nat} {fl : Nat → Int32} (hr : r ≤ c.1) (h : ∀ i, i < c.1 → rk c (r + 1) i = rk c r i) (hx : RKx c c.1 (r + 1) fl) : RKx c c.1 c.1 fl := by
  intro i hi
  obtain ⟨d, hd⟩ : ∃ d, r + d = c.1 := ⟨c.1 - r, by omega⟩
  have h1 := rk_rest hw h d i hi
  rw [hd] at h1
  rw [hx i hi, h i hi, h1]
/-- the depth of two worlds: the first round by which they are parted -/
def DEPr (c : CMl) (u v d : Nat) : Prop := rk c d u ≠ rk c d v ∧ ∀ r, r < d → rk c r u = rk c r v
def DEPn (c : CMl) (u v : Nat) : Prop := ∀ r, rk c r u = rk c r v
theorem DEPr.uniq {c : CMl} {u v d e : Nat} (h1 : DEPr c u v d) (h2 : DEPr c u v e) : d = e := by
  rcases Nat.lt_trichotomy d e with h | h | h
  · exact absurd (h2.2 d h) h1.1
  · exact h
  · exact absurd (h1.2 e h) h2.1
/-- melted: each class becomes its least world -/
def mlP (m : AM) : Nat → Bool := fun w => decide (clsS (cm1 m) w = w)
def aMelt (m : AM) : AM := cmpS (mlP m) m.1 (cb (mlP m) (clsS (cm1 m) m.2.1)) m.2.2.1 (fun k p q => anyN (fun v => m.2.2.2 k p v && decide (clsS (cm1 m) v = q)) 24)
theorem rk_eqv {c : CMl} {n r u v : Nat} {fl : Nat → Int32} (h : RKx c n r fl) (hu : u < n) (hv : v < n) (h48 : n ≤ 48) : fl u = fl v ↔ rk c r u = rk c r v := by
  have l1 := (rk_le c r u).1
  have l2 := (rk_le c r v).1
  rw [h u hu, h v hv]
  exact nI_eq (by omega) (by omega)
theorem dep_s {c : CMl} {n r u v : Nat} {fl : Nat → Int32} (h : ∀ s, s < r → rk c s u = rk c s v) (hx : RKx c n r fl) (hu : u < n) (hv : v < n) (h48 : n ≤ 48) (e : fl u = fl v) : ∀ s, s < r + 1 → rk c s u = rk c s v := fun s hs => by
  by_cases q : s = r
  · rw [q]; exact (rk_eqv hx hu hv h48).mp e
  · exact h s (by omega)
def DEPx (c : CMl) (u v : Nat) (x : Int32) : Prop := (x = -4 ∧ ∀ r, r ≤ c.1 → rk c r u = rk c r v) ∨ ∃ d, x = nI d ∧ d ≤ c.1 ∧ DEPr c u v d
theorem DEPx.uniq {c : CMl} {u v : Nat} {x y : Int32} (h1 : DEPx c u v x) (h2 : DEPx c u v y) : x = y := by
  rcases h1 with ⟨a, b⟩ | ⟨d, a, b, e⟩
  · rcases h2 with ⟨a', b'⟩ | ⟨d', a', b', e'⟩
    · rw [a, a']
    · exact absurd (b d' b') e'.1
  · rcases h2 with ⟨a', b'⟩ | ⟨d', a', b', e'⟩
    · exact absurd (b' d b) e.1
    · rw [a, a', DEPr.uniq e e']
theorem dep_a {c : CMl} {u v r : Nat} {fl : Nat → Int32} (hr : r = c.1) (h : ∀ s, s < r → rk c s u = rk c s v) (hx : RKx c c.1 r fl) (hu : u < c.1) (hv : v < c.1) (h48 : c.1 ≤ 48) (e : fl u = fl v) : DEPx c u v (-4) :=
  Or.inl ⟨rfl, fun s hs => dep_s h hx hu hv h48 e s (by omega)⟩
theorem dep_d {c : CMl} {u v r : Nat} {fl : Nat → Int32} (hr : r ≤ c.1) (h : ∀ s, s < r → rk c s u = rk c s v) (hx : RKx c c.1 r fl) (hu : u < c.1) (hv : v < c.1) (h48 : c.1 ≤ 48) (e : ¬ fl u = fl v) : DEPx c u v (nI r) :=
  Or.inr ⟨r, rfl, hr, fun q => e ((rk_eqv hx hu hv h48).mpr q), h⟩
theorem dep_c {c : CMl} (hw : CWF c) {u v r : Nat} {fl : Nat → Int32} (h : ∀ s, s < r → rk c s u = rk c s v) (hx : RKx c c.1 r fl) (hu : u < c.1) (hv : v < c.1) (h48 : c.1 ≤ 48) (e : fl u = fl v) (hp : ∀ i, i < c.1 → rk c (r + 1) i = rk c r i) : ∀ s, rk c s u = rk c s v := fun s => by
  have h1 := dep_s h hx hu hv h48 e
  rcases Nat.lt_or_ge s r with q | q
  · exact h s q
  · obtain ⟨d, rfl⟩ : ∃ d, s = r + d := ⟨s - r, by omega⟩
    rw [rk_rest hw hp d u hu, rk_rest hw hp d v hv]; exact h1 r (by omega)
/-- the classes of a row's worlds, by their new places -/
def CLx (bs : Int32) (NN : Nat → Nat) (i : Nat) (x : Int32) : Prop := BS x (fun j => anyN (fun v => bt bs v && decide (NN v = j)) i)
theorem CLx.nil {bs : Int32} {NN : Nat → Nat} : CLx bs NN 0 0 := BS.z
theorem CLx.f {bs x : Int32} {NN : Nat → Nat} {i : Nat} (h : CLx bs NN i x) (hb : bt bs i = false) : CLx bs NN (i + 1) x := h.cg (fun j _ => by
  show anyN _ i = (anyN _ i || (bt bs i && decide (NN i = j)))
  rw [hb, Bool.false_and, Bool.or_false])
theorem CLx.t {bs x y z : Int32} {NN : Nat → Nat} {i : Nat} (h : CLx bs NN i x) (hb : bt bs i = true) (hN : NN i ≤ 30) (e1 : (1 : Int32) <<< (nI (NN i) &&& 31) = y) (e : x ||| y = z) : CLx bs NN (i + 1) z := fun j hj => by
  show bt z j = (anyN _ i || (bt bs i && decide (NN i = j)))
  rw [← e, b_or, h j hj, ← e1, one_b hN j hj, hb, Bool.true_and, dec_cg (show j = NN i ↔ NN i = j from ⟨fun q => q.symm, fun q => q.symm⟩)]
theorem CLx.fin {bs x : Int32} {NN : Nat → Nat} {i : Nat} (h : CLx bs NN i x) (hi : i ≤ 24) (hb : ∀ w, i ≤ w → w < 24 → bt bs w = false) : CLx bs NN 24 x := h.cg (fun j _ => (anyN_up hi (fun v a b => by rw [hb v a b, Bool.false_and])).symm)
theorem mlP_1 {n r w : Nat} {f g fl : Nat → Int32} {x : Int32} (h48 : n ≤ 48) (hx : RKx (cm1 (am n r f g)) n n fl) (hw : w < n) (e : fl w = x) (hz : x.toInt = (w : Int)) : mlP (am n r f g) w = true := by
  have l1 := (rk_le (cm1 (am n r f g)) n w).1
  have h1 := hx w hw
  rw [e] at h1
  rw [h1, nI_toInt (by omega)] at hz
  exact decide_eq_true (show rk (cm1 (am n r f g)) n w = w by omega)
theorem mlP_0 {n r w : Nat} {f g fl : Nat → Int32} {x : Int32} (h48 : n ≤ 48) (hx : RKx (cm1 (am n r f g)) n n fl) (hw : w < n) (e : fl w = x) (hz : x.toInt ≠ (w : Int)) : mlP (am n r f g) w = false := by
  have l1 := (rk_le (cm1 (am n r f g)) n w).1
  have h1 := hx w hw
  rw [e] at h1
  rw [h1, nI_toInt (by omega)] at hz
  exact decide_eq_false (show ¬ rk (cm1 (am n r f g)) n w = w by omega)
theorem ml_cls {m : AM} (w : Nat) : mlP m (clsS (cm1 m) w) = true := decide_eq_true (rk_le (cm1 m) (cm1 m).1 w).2
theorem ml_le {m : AM} (w : Nat) : clsS (cm1 m) w ≤ w := (rk_le (cm1 m) (cm1 m).1 w).1
/-- where the classes' least worlds come to stand: the first i are numbered -/
def MNx (P : Nat → Bool) (i : Nat) (fn : Nat → Int32) : Prop := ∀ v, v < i → P v = true → fn v = nI (cb P v)
theorem MNx.nil {P : Nat → Bool} {fn : Nat → Int32} : MNx P 0 fn := fun v h => absurd h (Nat.not_lt_zero _)
theorem MNx.f {P : Nat → Bool} {i : Nat} {fn : Nat → Int32} (h : MNx P i fn) (hb : P i = false) : MNx P (i + 1) fn := fun v hv hP => h v (Nat.lt_of_le_of_ne (by omega) (fun z => by rw [z, hb] at hP; cases hP)) hP
theorem MNx.t {P : Nat → Bool} {i c : Nat} {fn g : Nat → Int32} (h : MNx P i fn) (hc : c = cb P i) (e : upd fn i (nI c) = g) : MNx P (i + 1) g := fun v hv hP => by
  rw [← e]
  by_cases q : v = i
  · rw [q, pk_us, hc]
  · rw [pk_un q]; exact h v (by omega) hP
abbrev MLw (m : AM) (g : Nat → Int32) : Nat → Nat → Nat → Bool := fun k p j => anyN (fun v => bt (g (k * 24 + p)) v && decide (cb (mlP m) (clsS (cm1 m) v) = j)) 24
theorem am_melt {n r n2 r2 i : Nat} {f g f2 g2 : Nat → Int32} (h24 : n ≤ 24) (hw : WFm (am n r f g)) (h1 : CUf n i (mlP (am n r f g)) f f2) (h2 : CUG n i 0 (mlP (am n r f g)) (MLw (am n r f g) g) g g2) (hi : i = n) (hn : n2 = cb (mlP (am n r f g)) n) (hr : r2 = cb (mlP (am n r f g)) (clsS (cm1 (am n r f g)) r)) : am n2 r2 f2 g2 = aMelt (am n r f g) := by
  subst hi
  have hc := cb_le (mlP (am i r f g)) i
  unfold aMelt
  rw [hr]
  refine cmp_am hn (by omega) (fun p hp hP => ?_) (fun k p hk hp hP => (h2.1 k p hk hp (Or.inl hp) hP).cg (fun j _ => ?_))
  · rw [am_F (show p < i from hp)]; exact h1.1 p hp hP
  · have hp2 : p < i := hp
    apply bool_iff
    show anyN (fun v => bt (g (k * 24 + p)) v && decide (cb (mlP (am i r f g)) (clsS (cm1 (am i r f g)) v) = j)) 24 = true ↔ (decide (j < cb (mlP (am i r f g)) i) && anyN (fun v => (am i r f g).2.2.2 k p v && decide (clsS (cm1 (am i r f g)) v = nth (mlP (am i r f g)) i j)) 24) = true
    rw [Bool.and_eq_true, anyN_iff, anyN_iff, decide_eq_true_eq]
    constructor
    · rintro ⟨v, hv, h3⟩
      rw [Bool.and_eq_true, decide_eq_true_eq] at h3
      have h4 : v < i := hw k p v (by rw [am_S hk hp2]; exact h3.1)
      have h5 := ml_le (m := am i r f g) v
      have h6 := ml_cls (m := am i r f g) v
      refine ⟨by rw [← h3.2]; exact cb_lt (show clsS (cm1 (am i r f g)) v < i by omega) h6, v, hv, ?_⟩
      rw [am_S hk hp2, h3.1, Bool.true_and, ← h3.2, nth_cb (show clsS (cm1 (am i r f g)) v < i by omega) h6]
      exact decide_eq_true rfl
    · rintro ⟨hj, v, hv, h3⟩
      rw [am_S hk hp2, Bool.and_eq_true, decide_eq_true_eq] at h3
      refine ⟨v, hv, ?_⟩
      rw [h3.1, Bool.true_and, h3.2, (nth_in hj).2.2]
      exact decide_eq_true rfl
