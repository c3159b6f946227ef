/-! heaps of worlds: the least world of each one's heap -/
def RNG (N B : Nat) (f : Nat → Int32) : Prop := ∀ i, i < N → ∃ j : Nat, j < B ∧ f i = nI j
theorem RNG.put {N B k t : Nat} {f g : Nat → Int32} (h : RNG N B f) (ht : t < B) (e : upd f k (nI t) = g) : RNG N B g := by
  intro i hi
  rw [← e]
  by_cases hk : i = k
  · rw [hk, pk_us]; exact ⟨t, ht, rfl⟩
  · rw [pk_un hk]; exact h i hi
theorem RNG.zero {N B : Nat} (h : 0 < B) : RNG N B (fun _ => 0) := fun i _ => ⟨0, h, rfl⟩
/-- each one's least is no greater, and its own least -/
def LI (n : Nat) (f : Nat → Int32) : Prop := ∀ i, i < n → ∃ j : Nat, j ≤ i ∧ f i = nI j ∧ f j = nI j
def fxM (n : Nat) (f g : Nat → Int32) (i : Nat) : Int32 := if i < n then f i else g (i - n)
theorem fxM_l {n i : Nat} {f g : Nat → Int32} (h : i < n) : f i = fxM n f g i := by unfold fxM; rw [if_pos h]
theorem fxM_r {n i : Nat} {f g : Nat → Int32} (h : n ≤ i) : g (i - n) = fxM n f g i := by unfold fxM; rw [if_neg (by omega)]
def HBx (n : Nat) (fx fl : Nat → Int32) : Prop := ∀ i, i < n → ∃ j : Nat, j ≤ i ∧ fl i = nI j ∧ fx j = fx i ∧ ∀ v, v < j → fx v ≠ fx i
theorem HBx.zero {fx fl : Nat → Int32} : HBx 0 fx fl := fun v h => absurd h (Nat.not_lt_zero _)
theorem HBx.ext {i j : Nat} {fx fl g : Nat → Int32} (h : HBx i fx fl) (hj : j ≤ i) (hv : ∀ v, v < j → fx v ≠ fx i) (he : fx j = fx i) (e : upd fl i (nI j) = g) : HBx (i + 1) fx g := by
  intro m hm
  rw [← e]
  by_cases hk : m = i
  · rw [hk, pk_us]; exact ⟨j, hj, rfl, he, hv⟩
  · rw [pk_un hk]; exact h m (by omega)
theorem HBx.LI {n : Nat} {fx fl : Nat → Int32} (h : HBx n fx fl) (hn : n ≤ 48) : LI n fl := by
  intro i hi
  obtain ⟨j, h1, h2, h3, h4⟩ := h i hi
  obtain ⟨j2, g1, g2, g3, g4⟩ := h j (by omega)
  have e : j2 = j := by
    rcases Nat.lt_or_ge j2 j with q | q
    · exact absurd (g3.trans h3) (h4 j2 q)
    · omega
  rw [e] at g2
  exact ⟨j, h1, h2, g2⟩
def ALx (fl : Nat → Int32) (fs : Nat → Int64) (i j : Nat) : Prop := fl i = fl j ∧ ∀ k, k < 4 → fs (k * 2 * 24 + i) = fs (k * 2 * 24 + j)
theorem ALx.rf {fl : Nat → Int32} {fs : Nat → Int64} {i : Nat} : ALx fl fs i i := ⟨rfl, fun _ _ => rfl⟩
def SEx (fs : Nat → Int64) (i j k : Nat) : Prop := ∀ m, m < k → fs (m * 2 * 24 + i) = fs (m * 2 * 24 + j)
theorem SEx.zero {fs : Nat → Int64} {i j : Nat} : SEx fs i j 0 := fun v h => absurd h (Nat.not_lt_zero _)
theorem SEx.ext {fs : Nat → Int64} {i j k : Nat} {x y : Int64} (h : SEx fs i j k) (ex : fs (k * 2 * 24 + i) = x) (ey : fs (k * 2 * 24 + j) = y) (e : x.toInt = y.toInt) : SEx fs i j (k + 1) := by
  intro m hm
  by_cases hk : m = k
  · rw [hk, ex, ey]; exact Int64.toInt_inj.mp e
  · exact h m (by omega)
theorem ALx.no1 {fl : Nat → Int32} {fs : Nat → Int64} {i j : Nat} {x y : Int32} (ex : fl i = x) (ey : fl j = y) (h : ¬ x = y) : ¬ ALx fl fs i j := fun q => h (by rw [← ex, ← ey]; exact q.1)
theorem ALx.no2 {fl : Nat → Int32} {fs : Nat → Int64} {i j k : Nat} {x y : Int64} (hk : k < 4) (ex : fs (k * 2 * 24 + i) = x) (ey : fs (k * 2 * 24 + j) = y) (h : x.toInt ≠ y.toInt) : ¬ ALx fl fs i j := fun q => h (by rw [← ex, ← ey, q.2 k hk])
def HPx (n : Nat) (fl : Nat → Int32) (fs : Nat → Int64) (fn : Nat → Int32) : Prop := ∀ i, i < n → ∃ lo j : Nat, fl i = nI lo ∧ lo ≤ j ∧ j ≤ i ∧ fn i = nI j ∧ ALx fl fs i j ∧ ∀ v, lo ≤ v → v < j → ¬ ALx fl fs i v
theorem HPx.zero {fl : Nat → Int32} {fs : Nat → Int64} {fn : Nat → Int32} : HPx 0 fl fs fn := fun v h => absurd h (Nat.not_lt_zero _)
theorem HPx.ext {i lo j : Nat} {fl : Nat → Int32} {fs : Nat → Int64} {fn g : Nat → Int32} (h : HPx i fl fs fn) (hl : fl i = nI lo) (h1 : lo ≤ j) (h2 : j ≤ i) (ha : ALx fl fs i j) (hv : ∀ v, lo ≤ v → v < j → ¬ ALx fl fs i v) (e : upd fn i (nI j) = g) : HPx (i + 1) fl fs g := by
  intro m hm
  rw [← e]
  by_cases hk : m = i
  · rw [hk, pk_us]; exact ⟨lo, j, hl, h1, h2, rfl, ha, hv⟩
  · rw [pk_un hk]; exact h m (by omega)
theorem HPx.LI {n : Nat} {fl : Nat → Int32} {fs : Nat → Int64} {fn : Nat → Int32} (h : HPx n fl fs fn) (hn : n ≤ 48) : LI n fn := by
  intro i hi
  obtain ⟨lo, j, h0, h1, h2, h3, h4, h5⟩ := h i hi
  obtain ⟨lo2, j2, g0, g1, g2, g3, g4, g5⟩ := h j (by omega)
  have el : lo2 = lo := by
    have := g0.symm.trans (h4.1.symm.trans h0)
    exact (nI_eq (by omega) (by omega)).mp this
  have e : j2 = j := by
    rcases Nat.lt_or_ge j2 j with q | q
    · exact absurd (show ALx fl fs i j2 from ⟨h4.1.trans g4.1, fun k hk => (h4.2 k hk).trans (g4.2 k hk)⟩) (h5 j2 (by omega) q)
    · omega
  rw [e] at g3
  exact ⟨j, h2, h3, g3⟩
def CPx (i : Nat) (fn f : Nat → Int32) : Prop := ∀ v, v < i → f v = fn v
theorem CPx.zero {fn f : Nat → Int32} : CPx 0 fn f := fun v h => absurd h (Nat.not_lt_zero _)
theorem CPx.ext {i : Nat} {fn f g : Nat → Int32} {x : Int32} (h : CPx i fn f) (ex : fn i = x) (e : upd f i x = g) : CPx (i + 1) fn g := by
  intro v hv
  rw [← e]
  by_cases hk : v = i
  · rw [hk, pk_us]; exact ex.symm
  · rw [pk_un hk]; exact h v (by omega)
theorem LI.cp {n : Nat} {fn f : Nat → Int32} (h : LI n fn) (hc : CPx n fn f) : LI n f := by
  intro i hi
  obtain ⟨j, h1, h2, h3⟩ := h i hi
  exact ⟨j, h1, (hc i hi).trans h2, (hc j (by omega)).trans h3⟩
theorem LI.at {n i : Nat} {f : Nat → Int32} (h : LI n f) (hi : i < n) : ∃ j : Nat, j ≤ i ∧ f i = nI j := by
  obtain ⟨j, h1, h2, -⟩ := h i hi; exact ⟨j, h1, h2⟩
theorem HPx.at {n i : Nat} {fl : Nat → Int32} {fs : Nat → Int64} {fn : Nat → Int32} (h : HPx n fl fs fn) (hi : i < n) : ∃ j : Nat, j ≤ i ∧ fn i = nI j := by
  obtain ⟨lo, j, -, -, h2, h3, -⟩ := h i hi; exact ⟨j, h2, h3⟩
def MDx (fl : Nat → Int32) (i c : Nat) (fn : Nat → Int32) : Prop := ∀ v, v < i → fl v = nI v → ∃ t : Nat, t < c ∧ fn v = nI t
theorem MDx.zero {fl fn : Nat → Int32} {c : Nat} : MDx fl 0 c fn := fun v h => absurd h (Nat.not_lt_zero _)
theorem MDx.yes {fl fn g : Nat → Int32} {i c : Nat} (h : MDx fl i c fn) (e : upd fn i (nI c) = g) : MDx fl (i + 1) (c + 1) g := by
  intro v hv hf
  rw [← e]
  by_cases hk : v = i
  · rw [hk, pk_us]; exact ⟨c, by omega, rfl⟩
  · rw [pk_un hk]; obtain ⟨t, h1, h2⟩ := h v (by omega) hf; exact ⟨t, by omega, h2⟩
theorem MDx.no {fl fn : Nat → Int32} {i c : Nat} {x : Int32} (h : MDx fl i c fn) (ex : fl i = x) (hn : ¬ x = nI i) : MDx fl (i + 1) c fn := by
  intro v hv hf
  by_cases hk : v = i
  · rw [hk] at hf; exact absurd (ex.symm.trans hf) hn
  · exact h v (by omega) hf
