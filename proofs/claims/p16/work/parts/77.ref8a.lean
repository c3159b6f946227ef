/-! heaps of the reference -/
def rowH (hp : Nat → Int32) (r : Nat) : Nat → Int32 := fun w => hp (48 * r + w)
theorem rowH_0 (hp : Nat → Int32) : rowH hp 0 = hp := by funext w; unfold rowH; rw [Nat.mul_zero, Nat.zero_add]
theorem rowH_k {hp hp' : Nat → Int32} {r w : Nat} (h : KP (48 * (r + 1)) hp hp') (hw : w < 48) : rowH hp' r w = rowH hp r w := h _ (by omega)
def fxN (ff : Nat → Int32) : Nat → Int32 := fun v => ff (0 + v)
def fxR (n : Nat) (ff : Nat → Int32) (b : Nat) : Nat → Int32 := fun v => if v < n then ff (0 + v) else ff (24 * b + v - n)
theorem fxR_l {n b v : Nat} {ff : Nat → Int32} (h : v < n) : ff (0 + v) = fxR n ff b v := by unfold fxR; rw [if_pos h]
theorem fxR_r {n b v : Nat} {ff : Nat → Int32} (h : n ≤ v) : ff (24 * b + v - n) = fxR n ff b v := by unfold fxR; rw [if_neg (by omega)]
def ALR (hp : Nat → Int32) (r : Nat) (led : Nat → Int64) (v w : Nat) : Prop := hp (48 * r + v) = hp (48 * r + w) ∧ ∀ k, k < 4 → led (4 * v + k) = led (4 * w + k)
theorem ALR.rf {hp : Nat → Int32} {r : Nat} {led : Nat → Int64} {v : Nat} : ALR hp r led v v := ⟨rfl, fun _ _ => rfl⟩
theorem ALR.kp {hp hp' : Nat → Int32} {r : Nat} {led : Nat → Int64} {v w : Nat} (h : KP (48 * (r + 1)) hp hp') (hv : v < 48) (hw : w < 48) (a : ALR hp' r led v w) : ALR hp r led v w := ⟨by rw [← h _ (show 48 * r + v < _ by omega), ← h _ (show 48 * r + w < _ by omega)]; exact a.1, a.2⟩
theorem ALR.kp' {hp hp' : Nat → Int32} {r : Nat} {led : Nat → Int64} {v w : Nat} (h : KP (48 * (r + 1)) hp hp') (hv : v < 48) (hw : w < 48) (a : ALR hp r led v w) : ALR hp' r led v w := ⟨by rw [h _ (show 48 * r + v < _ by omega), h _ (show 48 * r + w < _ by omega)]; exact a.1, a.2⟩
def LEx (led : Nat → Int64) (v w k : Nat) : Prop := ∀ m, m < k → led (4 * v + m) = led (4 * w + m)
theorem LEx.zero {led : Nat → Int64} {v w : Nat} : LEx led v w 0 := fun m h => absurd h (Nat.not_lt_zero _)
theorem LEx.ext {led : Nat → Int64} {v w k : Nat} {x y : Int64} (h : LEx led v w k) (ex : led (4 * v + k) = x) (ey : led (4 * w + k) = y) (e : x.toInt = y.toInt) : LEx led v w (k + 1) := by
  intro m hm
  by_cases hk : m = k
  · rw [hk, ex, ey]; exact Int64.toInt_inj.mp e
  · exact h m (by omega)
/-- whether v and w are alike as far as k knowers say, and whether that is known -/
def ALk (hp : Nat → Int32) (r : Nat) (led : Nat → Int64) (v w k a : Nat) : Prop := (a = 1 → hp (48 * r + v) = hp (48 * r + w) ∧ LEx led v w k) ∧ (a = 0 → ¬ ALR hp r led v w)
theorem ALk.start {hp : Nat → Int32} {r : Nat} {led : Nat → Int64} {v w : Nat} {x y : Int32} (ex : hp (48 * r + v) = x) (ey : hp (48 * r + w) = y) (h : x.toInt = y.toInt) : ALk hp r led v w 0 1 := ⟨fun _ => ⟨by rw [ex, ey]; exact Int32.toInt_inj.mp h, LEx.zero⟩, fun h => absurd h (by decide)⟩
theorem ALk.start0 {hp : Nat → Int32} {r : Nat} {led : Nat → Int64} {v w : Nat} {x y : Int32} (ex : hp (48 * r + v) = x) (ey : hp (48 * r + w) = y) (h : x.toInt ≠ y.toInt) : ALk hp r led v w 0 0 := ⟨fun h => absurd h (by decide), fun _ q => h (by rw [← ex, ← ey, q.1])⟩
theorem ALk.keep0 {hp : Nat → Int32} {r : Nat} {led : Nat → Int64} {v w k a : Nat} (h : ALk hp r led v w k a) (ha : a = 0) : ALk hp r led v w (k + 1) 0 := ⟨fun h => absurd h (by decide), fun _ => h.2 ha⟩
theorem ALk.no {hp : Nat → Int32} {r : Nat} {led : Nat → Int64} {v w k a : Nat} {x y : Int64} (hk : k < 4) (ex : led (4 * v + k) = x) (ey : led (4 * w + k) = y) (h : x.toInt ≠ y.toInt) (_ : ALk hp r led v w k a) : ALk hp r led v w (k + 1) 0 := ⟨fun h => absurd h (by decide), fun _ q => h (by rw [← ex, ← ey, q.2 k hk])⟩
theorem ALk.yes {hp : Nat → Int32} {r : Nat} {led : Nat → Int64} {v w k a : Nat} {x y : Int64} (h : ALk hp r led v w k a) (ha : a = 1) (ex : led (4 * v + k) = x) (ey : led (4 * w + k) = y) (e : x.toInt = y.toInt) : ALk hp r led v w (k + 1) 1 := ⟨fun _ => ⟨(h.1 ha).1, (h.1 ha).2.ext ex ey e⟩, fun h => absurd h (by decide)⟩
theorem ALk.is {hp : Nat → Int32} {r : Nat} {led : Nat → Int64} {v w a : Nat} (h : ALk hp r led v w 4 a) (ha : a = 1) : ALR hp r led v w := ⟨(h.1 ha).1, (h.1 ha).2⟩
/-- of each world of the next row the least that is alike -/
def LA2 (n : Nat) (hp : Nat → Int32) (r : Nat) (led : Nat → Int64) (hp' : Nat → Int32) : Prop := ∀ w, w < n → ∃ v : Nat, v ≤ w ∧ rowH hp' (r + 1) w = nI v ∧ ALR hp r led v w ∧ ∀ u, u < v → ¬ ALR hp r led u w
theorem LA2.zero {hp hp' : Nat → Int32} {r : Nat} {led : Nat → Int64} : LA2 0 hp r led hp' := fun v h => absurd h (Nat.not_lt_zero _)
theorem LA2.ext {i v : Nat} {hp h1 h2 : Nat → Int32} {r : Nat} {led : Nat → Int64} (h : LA2 i hp r led h1) (hv : v ≤ i) (ha : ALR hp r led v i) (hu : ∀ u, u < v → ¬ ALR hp r led u i) (e : upd h1 (48 * (r + 1) + i) (nI v) = h2) : LA2 (i + 1) hp r led h2 := by
  intro w hw
  by_cases hk : w = i
  · subst hk
    exact ⟨v, hv, by unfold rowH; rw [← e, pk_us], ha, hu⟩
  · obtain ⟨x, a, b, c, d⟩ := h w (by omega)
    refine ⟨x, a, ?_, c, d⟩
    rw [← b]; unfold rowH; rw [← e, pk_un (by omega)]
theorem ALR.tr {hp : Nat → Int32} {r : Nat} {led : Nat → Int64} {u v w : Nat} (a : ALR hp r led u v) (b : ALR hp r led v w) : ALR hp r led u w := ⟨a.1.trans b.1, fun k hk => (a.2 k hk).trans (b.2 k hk)⟩
theorem LA2.LI {n : Nat} {hp hp' : Nat → Int32} {r : Nat} {led : Nat → Int64} (h : LA2 n hp r led hp') : LI n (rowH hp' (r + 1)) := by
  intro w hw
  obtain ⟨v, h1, h2, h3, h4⟩ := h w hw
  obtain ⟨u, g1, g2, g3, g4⟩ := h v (by omega)
  have e : u = v := by
    rcases Nat.lt_or_ge u v with q | q
    · exact absurd (g3.tr h3) (h4 u q)
    · omega
  rw [e] at g2
  exact ⟨v, h1, h2, g2⟩
/-- how many worlds name their heap -/
def cbS (hp : Nat → Int32) (r n : Nat) : Nat := cb (fun w => decide (rowH hp r w = nI w)) n
def MOR (n : Nat) (hp : Nat → Int32) (r : Nat) (hp' : Nat → Int32) : Prop := ∃ w, w < n ∧ rowH hp' (r + 1) w ≠ rowH hp r w
theorem MOR.ext {i : Nat} {v' : Int32} {hp h1 h2 : Nat → Int32} {r : Nat} (h : MOR i hp r h1) (e : upd h1 (48 * (r + 1) + i) v' = h2) : MOR (i + 1) hp r h2 := by
  obtain ⟨w, hw, hn⟩ := h
  refine ⟨w, by omega, ?_⟩
  have q : rowH h2 (r + 1) w = rowH h1 (r + 1) w := by unfold rowH; rw [← e, pk_un (by omega)]
  rw [q]; exact hn
theorem MOR.new {i v : Nat} {hp h1 h2 : Nat → Int32} {r : Nat} {x : Int32} (hi : i < 48) (hk : KP (48 * (r + 1)) hp h2) (e : upd h1 (48 * (r + 1) + i) (nI v) = h2) (ex : h2 (48 * r + i) = x) (hn : ¬ nI v = x) : MOR (i + 1) hp r h2 := by
  refine ⟨i, by omega, ?_⟩
  have q : rowH h2 (r + 1) i = nI v := by unfold rowH; rw [← e, pk_us]
  have q2 : rowH hp r i = x := by rw [← ex]; exact (hk _ (by omega)).symm
  rw [q, q2]; exact hn
theorem cbS_lt {n : Nat} {hp hp' : Nat → Int32} {r : Nat} {led : Nat → Int64} (hn : n ≤ 48) (hl : LI n (rowH hp r)) (h : LA2 n hp r led hp') (hm : MOR n hp r hp') : cbS hp r n < cbS hp' (r + 1) n := by
  unfold cbS
  refine cb_sub_lt n ?_ ?_
  · intro w hw hr
    have hr := of_decide_eq_true hr
    apply decide_eq_true
    obtain ⟨v, h1, h2, h3, h4⟩ := h w hw
    obtain ⟨u, g1, g2, -⟩ := hl v (by omega)
    have e1 : rowH hp r v = rowH hp r w := h3.1
    have e2 : nI u = nI w := by rw [← g2, e1, hr]
    have e3 := (nI_eq (by omega) (by omega)).mp e2
    rw [h2]; congr 1; omega
  · obtain ⟨w, hw, hne⟩ := hm
    obtain ⟨v, h1, h2, h3, h4⟩ := h w hw
    refine ⟨v, by omega, ?_, ?_⟩
    · apply decide_eq_false
      intro q
      apply hne
      have e1 : rowH hp r v = rowH hp r w := h3.1
      rw [h2, ← e1, q]
    · apply decide_eq_true
      obtain ⟨u, g1, g2, g3, g4⟩ := h v (by omega)
      have e : u = v := by
        rcases Nat.lt_or_ge u v with q | q
        · exact absurd (g3.tr h3) (h4 u q)
        · omega
      rw [g2, e]
theorem cbS_le (hp : Nat → Int32) (r n : Nat) : cbS hp r n ≤ n := cb_le _ _
/-! turns of the reference -/
theorem and_sub {a b c : Int32} {n : Nat} (h : ∀ i, i < 32 → bt a i = true → i < n) (e : a &&& b = c) : ∀ i, i < 32 → bt c i = true → i < n := fun i hi hb => h i hi (by rw [← e, b_and] at hb; exact (Bool.and_eq_true _ _ ▸ hb : _ ∧ _).1)
theorem all_sub {a : Int32} {n : Nat} (h : ∀ i, i < 32 → bt a i = decide (i < n)) : ∀ i, i < 32 → bt a i = true → i < n := fun i hi hb => by rw [h i hi] at hb; exact of_decide_eq_true hb
theorem all_at {a : Int32} {n r : Nat} (h : ∀ i, i < 32 → bt a i = decide (i < n)) (hn : n ≤ 24) (hr : r < n) : bt a r = true := by rw [h r (by omega)]; exact decide_eq_true hr
def NAx (i : Nat) (so : Int32) (f : Nat → Int32) : Prop := ∀ v, v < i → f v = nI (cb (bt so) v)
theorem NAx.zero {so : Int32} {f : Nat → Int32} : NAx 0 so f := fun v h => absurd h (Nat.not_lt_zero _)
theorem NAx.ext {i c : Nat} {so : Int32} {f g : Nat → Int32} (h : NAx i so f) (hc : c = cb (bt so) i) (e : upd f i (nI c) = g) : NAx (i + 1) so g := by
  intro v hv
  rw [← e]
  by_cases hk : v = i
  · rw [hk, pk_us, hc]
  · rw [pk_un hk]; exact h v (by omega)
theorem cb_true : ∀ n : Nat, cb (fun _ => true) n = n
  | 0 => rfl
  | n + 1 => by rw [cb_s, cb_true n]; rfl
theorem keep_lt {so al : Int32} {n : Nat} (hn : n ≤ 24) (hs : ∀ i, i < 32 → bt so i = true → i < n) (ha : ∀ i, i < 32 → bt al i = decide (i < n)) (hne : so.toInt ≠ al.toInt) : cb (bt so) n < n := by
  have key : cb (bt so) n < cb (fun _ => true) n := by
    refine cb_sub_lt n (fun _ _ _ => rfl) ?_
    apply Classical.byContradiction
    intro hno
    apply hne
    congr 1
    apply b_ext
    intro i hi
    rw [ha i hi]
    cases hb : bt so i with
    | true => exact (decide_eq_true (hs i hi hb)).symm
    | false =>
      symm
      apply decide_eq_false
      intro hin
      exact hno ⟨i, hin, hb, rfl⟩
  rw [cb_true] at key
  exact key
theorem pow64 {m : Nat} (h : m ≤ 3) : 2 ^ (2 * m) ≤ 64 := by
  have key : ∀ m, m ≤ 3 → 2 ^ (2 * m) ≤ 64 := by decide +kernel
  exact key m h
theorem pow6_le {m : Nat} (h : m ≤ 5) : 6 ^ m ≤ 7776 := by
  have key : ∀ m, m ≤ 5 → 6 ^ m ≤ 7776 := by decide +kernel
  exact key m h
theorem pow6_pos (m : Nat) : 1 ≤ 6 ^ m := Nat.pow_pos (by decide)
theorem pow6_s (m : Nat) : 6 ^ (m + 1) = 6 ^ m * 6 := Nat.pow_succ 6 m
theorem pow6_d {n k : Nat} (h : k + 1 < n) : 6 ^ (n - 1 - k) / 6 = 6 ^ (n - 1 - (k + 1)) := by
  rw [show n - 1 - k = (n - 1 - (k + 1)) + 1 by omega, Nat.pow_succ, Nat.mul_div_cancel _ (by decide)]
theorem nI_n0 {b : Nat} (h0 : 1 ≤ b) (h : b < 2 ^ 31) : ¬ nI b = 0 := fun e => by
  have h1 := nI_toInt h
  rw [e] at h1
  have e0 : (0 : Int32).toInt = 0 := rfl
  omega
theorem l_add32 (x y : Int32) : (x.toInt64 + y.toInt64).toInt = x.toInt + y.toInt := by
  have h1 := Int32.toInt_lt x
  have h2 := Int32.toInt_lt y
  have h3 := Int32.le_toInt x
  have h4 := Int32.le_toInt y
  rw [Int64.toInt_add, Int32.toInt_toInt64, Int32.toInt_toInt64, Int.bmod_eq_of_le (by omega) (by omega)]
