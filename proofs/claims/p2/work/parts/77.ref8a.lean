/-! heaps of the reference -/
def rowH (hp : Nat → Int32) (r : Nat) : Nat → Int32 := fun w => hp (48 * r + w)
theorem rowH_0 (hp : Nat → Int32) : rowH hp 0 = hp := by funext w; unfold rowH; rw [Nat.mul_zero, Nat.zero_add]
theorem rowH_k {hp hp' : Nat → Int32} {r w : Nat} (h : KP (48 * (r + 1)) hp hp') (hw : w < 48) : rowH hp' r w = rowH hp r w := h _ (by omega)
def fxN (ff : Nat → Int32) : Nat → Int32 := fun v => ff (0 + v)
def fxR (n : Nat) (ff : Nat → Int32) (b : Nat) : Nat → Int32 := fun v => if v < n then ff (0 + v) else ff (24 * b + v - n)
theorem fxR_l {n b v : Nat} {ff : Nat → Int32} (h : v < n) : ff (0 + v) = fxR n ff b v := by unfold fxR; rw [if_pos h]
theorem fxR_r {n b v : Nat} {ff : Nat → Int32} (h : n ≤ v) : ff (24 * b + v - n) = fxR n ff b v := by unfold fxR; rw [if_neg (by omega)]
def ALR (hp : Nat → Int32) (r : Nat) (led : Nat → Int64) (v w : Nat) : Prop := hp (48 * r + v) = hp (48 * r + w) ∧ ∀ k, k < 4 → led (4 * v + k) = led (4 * w + k)
theorem ALR.rf {hp : Nat → Int32} {r : Nat} {led : Nat → Int64} {v : Nat} : ALR hp r led v v := ⟨rfl, fun _ _ => rfl⟩
theorem ALR.kp {hp hp' : Nat → Int32} {r : Nat} {led : Nat → Int64} {v w : Nat} (h : KP (48 * (r + 1)) hp hp') (hv : v < 48) (hw : w < 48) (a : ALR hp' r led v w) : ALR hp r led v w := ⟨by rw [← h _ (show 48 * r + v < _ by omega), ← h _ (show 48 * r + w < _ by omega)]; exact a.1, a.2⟩
theorem ALR.kp' {hp hp' : Nat → Int32} {r : Nat} {led : Nat → Int64} {v w : Nat} (h : KP (48 * (r + 1)) hp hp') (hv : v < 48) (hw : w < 48) (a : ALR hp r led v w) : ALR hp' r led v w := ⟨by rw [h _ (show 48 * r + v < _ by omega), h _ (show 48 * r + w < _ by omega)]; exact a.1, a.2⟩
def LEx (led : Nat → Int64) (v w k : Nat) : Prop := ∀ m, m < k → led (4 * v + m) = led (4 * w + m)
theorem LEx.zero {led : Nat → Int64} {v w : Nat} : LEx led v w 0 := fun m h => absurd h (Nat.not_lt_zero _)
theorem LEx.ext {led : Nat → Int64} {v w k : Nat} {x y : Int64} (h : LEx led v w k) (ex : led (4 * v + k) = x) (ey : led (4 * w + k) = y) (e : x.toInt = y.toInt) : LEx led v w (k + 1) := by
  intro m hm
  by_cases hk : m = k
  · rw [hk, ex, ey]; exact Int64.toInt_inj.mp e
  · exact h m (by omega)
/-- whether v and w are alike as far as k knowers say, and whether that is known -/
def ALk (hp : Nat → Int32) (r : Nat) (led : Nat → Int64) (v w k a : Nat) : Prop := (a = 1 → hp (48 * r + v) = hp (48 * r + w) ∧ LEx led v w k) ∧ (a = 0 → ¬ ALR hp r led v w)
theorem ALk.start {hp : Nat → Int32} {r : Nat} {led : Nat → Int64} {v w : Nat} {x y : Int32} (ex : hp (48 * r + v) = x) (ey : hp (48 * r + w) = y) (h : x.toInt = y.toInt) : ALk hp r led v w 0 1 := ⟨fun _ => ⟨by rw [ex, ey]; exact Int32.toInt_inj.mp h, LEx.zero⟩, fun h => absurd h (by decide)⟩
theorem ALk.start0 {hp : Nat → Int32} {r : Nat} {led : Nat → Int64} {v w : Nat} {x y : Int32} (ex : hp (48 * r + v) = x) (ey : hp (48 * r + w) = y) (h : x.toInt ≠ y.toInt) : ALk hp r led v w 0 0 := ⟨fun h => absurd h (by decide), fun _ q => h (by rw [← ex, ← ey, q.1])⟩
theorem ALk.keep0 {hp : Nat → Int32} {r : Nat} {led : Nat → Int64} {v w k a : Nat} (h : ALk hp r led v w k a) (ha : a = 0) : ALk hp r led v w (k + 1) 0 := ⟨fun h => absurd h (by decide), fun _ => h.2 ha⟩
theorem ALk.no {hp : Nat → Int32} {r : Nat} {led : Nat → Int64} {v w k a : Nat} {x y : Int64} (hk : k < 4) (ex : led (4 * v + k) = x) (ey : led (4 * w + k) = y) (h : x.toInt ≠ y.toInt) (_ : ALk hp r led v w k a) : ALk hp r led v w (k + 1) 0 := ⟨fun h => absurd h (by decide), fun _ q => h (by rw [← ex, ← ey, q.2 k hk])⟩
theorem ALk.yes {hp : Nat → Int32} {r : Nat} {led : Nat → Int64} {v w k a : Nat} {x y : Int64} (h : ALk hp r led v w k a) (ha : a = 1) (ex : led (4 * v + k) = x) (ey : led (4 * w + k) = y) (e : x.toInt = y.toInt) : ALk hp r led v w (k + 1) 1 := ⟨fun _ => ⟨(h.1 ha).1, (h.1 ha).2.ext ex ey e⟩, fun h => absurd h (by decide)⟩
theorem ALk.is {hp : Nat → Int32} {r : Nat} {led : Nat → Int64} {v w a : Nat} (h : ALk hp r led v w 4 a) (ha : a = 1) : ALR hp r led v w := ⟨(h.1 ha).1, (h.1 ha).2⟩
/-- of each world of the next row the least that is alike -/
def LA2 (n : Nat) (hp : Nat → Int32) (r : Nat) (led : Nat → Int64) (hp' : Nat → Int32) : Prop := ∀ w, w < n → ∃ v : Nat, v ≤ w ∧ rowH hp' (r + 1) w = nI v ∧ ALR hp r led v w ∧ ∀ u, u < v → ¬ ALR hp r led u w
theorem LA2.zero {hp hp' : Nat → Int32} {r : Nat} {led : Nat → Int64} : LA2 0 hp r led hp' := fun v h => absurd h (Nat.not_lt_zero _)
theorem LA2.ext {i v : Nat} {hp h1 h2 : Nat → Int32} {r : Nat} {led : Nat → Int64} (h : LA2 i hp r led h1) (hv : v ≤ i) (ha : ALR hp r led v i) (hu : ∀ u, u < v → ¬ ALR hp r led u i) (e : upd h1 (48 * (r + 1) + i) (nI v) = h2) : LA2 (i + 1) hp r led h2 := by
  intro w hw
  by_cases hk : w = i
  · subst hk
    exact ⟨v, hv, by unfold rowH; rw [← e, pk_us], ha, hu⟩
  · obtain ⟨x, a, b, c, d⟩ := h w (by omega)
    refine ⟨x, a, ?_, c, d⟩
    rw [← b]; unfold rowH; rw [← e, pk_un (by omega)]
theorem ALR.tr {hp : Nat → Int32} {r : Nat} {led : Nat → Int64} {u v w : Nat} (a : ALR hp r led u v) (b : ALR hp r led v w) : ALR hp r led u w := ⟨a.1.trans b.1, fun k hk => (a.2 k hk).trans (b.2 k hk)⟩
theorem LA2.LI {n : Nat} {hp hp' : Nat → Int32} {r : Nat} {led : Nat → Int64} (h : LA2 n hp r led hp') : LI n (rowH hp' (r + 1)) := by
  intro w hw
  obtain ⟨v, h1, h2, h3, h4⟩ := h w hw
  obtain ⟨u, g1, g2, g3, g4⟩ := h v (by omega)
  have e : u = v := by
    rcases Nat.lt_or_ge u v with q | q
    · exact absurd (g3.tr h3) (h4 u q)
    · omega
  rw [e] at g2
  exact ⟨v, h1, h2, g2⟩
/-- how many worlds name their heap -/
def cbS (hp : Nat → Int32) (r n : Nat) : Nat := cb (fun w => decide (rowH hp r w = nI w)) n
def MOR (n : Nat) (hp : Nat → Int32) (r : Nat) (hp' : Nat → Int32) : Prop := ∃ w, w < n ∧ rowH hp' (r + 1) w ≠ rowH hp r w
theorem MOR.ext {i : Nat} {v' : Int32} {hp h1 h2 : Nat → Int32} {r : Nat} (h : MOR i hp r h1) (e : upd h1 (48 * (r + 1) + i) v' = h2) : MOR (i + 1) hp r h2 := by
  obtain ⟨w, hw, hn⟩ := h
  refine ⟨w, by omega, ?_⟩
  have q : rowH h2 (r + 1) w = rowH h1 (r + 1) w := by unfold rowH; rw [← e, pk_un (by omega)]
  rw [q]; exact hn
theorem MOR.new {i v : Nat} {hp h1 h2 : Nat → Int32} {r : Nat} {x : Int32} (hi : i < 48) (hk : KP (48 * (r + 1)) hp h2) (e : upd h1 (48 * (r + 1) + i) (nI v) = h2) (ex : h2 (48 * r + i) = x) (hn : ¬ nI v = x) : MOR (i + 1) hp r h2 := by
  refine ⟨i, by omega, ?_⟩
  have q : rowH h2 (r + 1) i = nI v := by unfold rowH; rw [← e, pk_us]
  have q2 : rowH hp r i = x := by rw [← ex]; exact (hk _ (by omega)).symm
  rw [q, q2]; exact hn
theorem cbS_lt {n : Nat} {hp hp' : Nat → Int32} {r : Nat} {led : Nat → Int64} (hn : n ≤ 48) (hl : LI n (rowH hp r)) (h : LA2 n hp r led hp') (hm : MOR n hp r hp') : cbS hp r n < cbS hp' (r + 1) n := by
  unfold cbS
  refine cb_sub_lt n ?_ ?_
  · intro w hw hr
    have hr := of_decide_eq_true hr
    apply decide_eq_true
    obtain ⟨v, h1, h2, h3, h4⟩ := h w hw
    obtain ⟨u, g1, g2, -⟩ := hl v (by omega)
    have e1 : rowH hp r v = rowH hp r w := h3.1
    have e2 : nI u = nI w := by rw [← g2, e1, hr]
    have e3 := (nI_eq (by omega) (by omega)).mp e2
    rw [h2]; congr 1; omega
  · obtain ⟨w, hw, hne⟩ := hm
    obtain ⟨v, h1, h2, h3, h4⟩ := h w hw
    refine ⟨v, by omega, ?_, ?_⟩
    · apply decide_eq_false
      intro q
      apply hne
      have e1 : rowH hp r v = rowH hp r w := h3.1
      rw [h2, ← e1, q]
    · apply decide_eq_true
      obtain ⟨u, g1, g2, g3, g4⟩ := h v (by omega)
      have e : u = v := by
        rcases Nat.lt_or_ge u v with q | q
        · exact absurd (g3.tr h3) (h4 u q)
        · omega
      rw [g2, e]
theorem cbS_le (hp : Nat → Int32) (r n : Nat) : cbS hp r n ≤ n := cb_le _ _
/-! turns of the reference -/
theorem and_sub {a b c : Int32} {n : Nat} (h : ∀ i, i < 32 → bt a i = true → i < n) (e : a &&& b = c) : ∀ i, i < 32 → bt c i = true → i < n := fun i hi hb => h i hi (by rw [← e, b_and] at hb; exact (Bool.and_eq_true _ _ ▸ hb : _ ∧ _).1)
theorem all_sub {a : Int32} {n : Nat} (h : ∀ i, i < 32 → bt a i = decide (i < n)) : ∀ i, i < 32 → bt a i = true → i < n := fun i hi hb => by rw [h i hi] at hb; exact of_decide_eq_true hb
theorem all_at {a : Int32} {n r : Nat} (h : ∀ i, i < 32 → bt a i = decide (i < n)) (hn : n ≤ 24) (hr : r < n) : bt a r = true := by rw [h r (by omega)]; exact decide_eq_true hr
def NAx (i : Nat) (so : Int32) (f : Nat → Int32) : Prop := ∀ v, v < i → f v = nI (cb (bt so) v)
theorem NAx.zero {so : Int32} {f : Nat → Int32} : NAx 0 so f := fun v h => absurd h (Nat.not_lt_zero _)
theorem NAx.ext {i c : Nat} {so : Int32} {f g : Nat → Int32} (h : NAx i so f) (hc : c = cb (bt so) i) (e : upd f i (nI c) = g) : NAx (i + 1) so g := by
  intro v hv
  rw [← e]
  by_cases hk : v = i
  · rw [hk, pk_us, hc]
  · rw [pk_un hk]; exact h v (by omega)
theorem cb_true : ∀ n : Nat, cb (fun _ => true) n = n
  | 0 => rfl
  | n + 1 => by rw [cb_s, cb_true n]; rfl
theorem keep_lt {so al : Int32} {n : Nat} (hn : n ≤ 24) (hs : ∀ i, i < 32 → bt so i = true → i < n) (ha : ∀ i, i < 32 → bt al i = decide (i < n)) (hne : so.toInt ≠ al.toInt) : cb (bt so) n < n := by
  have key : cb (bt so) n < cb (fun _ => true) n := by
    refine cb_sub_lt n (fun _ _ _ => rfl) ?_
    apply Classical.byContradiction
    intro hno
    apply hne
    congr 1
    apply b_ext
    intro i hi
    rw [ha i hi]
    cases hb : bt so i with
    | true => exact (decide_eq_true (hs i hi hb)).symm
    | false =>
      symm
      apply decide_eq_false
      intro hin
      exact hno ⟨i, hin, hb, rfl⟩
  rw [cb_true] at key
  exact key
theorem pow64 {m : Nat} (h : m ≤ 3) : 2 ^ (2 * m) ≤ 64 := by
  have key : ∀ m, m ≤ 3 → 2 ^ (2 * m) ≤ 64 := by decide +kernel
  exact key m h
theorem pow6_le {m : Nat} (h : m ≤ 5) : 6 ^ m ≤ 7776 := by
  have key : ∀ m, m ≤ 5 → 6 ^ m ≤ 7776 := by decide +kernel
  exact key m h
theorem pow6_pos (m : Nat) : 1 ≤ 6 ^ m := Nat.pow_pos (by decide)
theorem pow6_s (m : Nat) : 6 ^ (m + 1) = 6 ^ m * 6 := Nat.pow_succ 6 m
theorem pow6_d {n k : Nat} (h : k + 1 < n) : 6 ^ (n - 1 - k) / 6 = 6 ^ (n - 1 - (k + 1)) := by
  rw [show n - 1 - k = (n - 1 - (k + 1)) + 1 by omega, Nat.pow_succ, Nat.mul_div_cancel _ (by decide)]
theorem nI_n0 {b : Nat} (h0 : 1 ≤ b) (h : b < 2 ^ 31) : ¬ nI b = 0 := fun e => by
  have h1 := nI_toInt h
  rw [e] at h1
  have e0 : (0 : Int32).toInt = 0 := rfl
  omega
theorem l_add32 (x y : Int32) : (x.toInt64 + y.toInt64).toInt = x.toInt + y.toInt := by
  have h1 := Int32.toInt_lt x
  have h2 := Int32.toInt_lt y
  have h3 := Int32.le_toInt x
  have h4 := Int32.le_toInt y
  rw [Int64.toInt_add, Int32.toInt_toInt64, Int32.toInt_toInt64, Int.bmod_eq_of_le (by omega) (by omega)]
/-! the reference's heaps, round by round -/
theorem LSx.zz {x z : Int64} {P : Nat → Bool} (h : LSx x P) (e : x ||| (0 : Int64) = z) : LSx z P := by
  have h0 : z = x := by
    rw [← e]
    apply Int64.toBitVec_inj.mp
    refine BitVec.eq_of_getLsbD_eq (fun i _ => ?_)
    rw [Int64.toBitVec_or, BitVec.getLsbD_or]
    have h1 : (0 : Int64).toBitVec.getLsbD i = false := BitVec.getLsbD_zero
    rw [h1, Bool.or_false]
  rw [h0]; exact h
theorem HOx.z {bs : Int32} {R : Nat → Nat} {sf i : Nat} {x z : Int64} (h : HOx bs R sf i x) (hb : bt bs i = false) (e : x ||| (0 : Int64) = z) : HOx bs R sf (i + 1) z := LSx.zz (HOx.f h hb) e
theorem HOx.t' {bs v : Int32} {R : Nat → Nat} {sf i : Nat} {x y z : Int64} (h : HOx bs R sf i x) (hb : bt bs i = true) (hv : v = nI (R (sf + i))) (hr : R (sf + i) < 48) (e1 : (1 : Int64) <<< (v.toInt64 &&& 63) = y) (e : x ||| y = z) : HOx bs R sf (i + 1) z := HOx.t h hb hr (by rw [← hv]; exact e1) e
def LKr (c : CMl) (rk : Nat → Nat) (w k : Nat) (led : Nat → Int64) : Prop := ∀ w' k', w' < c.1 → k' < 4 → (w' < w ∨ w' = w ∧ k' < k) → LSx (led (4 * w' + k')) (HSt c rk k' w')
section LKRS
variable {c : CMl} {R : Nat → Nat} {w k : Nat} {led led' : Nat → Int64}
theorem LKr.nil : LKr c R 0 0 led := fun w k _ _ h => absurd h (by omega)
theorem LKr.up (h : LKr c R w k led) (e : k = 4) : LKr c R (w + 1) 0 led := fun w' k' a b d => h w' k' a b (by omega)
theorem LKr.ext {x : Int64} (h : LKr c R w k led) (hk : k < 4) (hx : LSx x (HSt c R k w)) (e : vp_updL led (4 * w + k) x = led') : LKr c R w (k + 1) led' := fun w' k' a b d => by
  rw [← e]
  by_cases q : 4 * w' + k' = 4 * w + k
  · have e1 : w' = w := by omega
    have e2 : k' = k := by omega
    rw [q, pk_uLs, e1, e2]; exact hx
  · rw [pk_uLn q]; exact h w' k' a b (by omega)
end LKRS
section RKAS
variable {c : CMl} {hp hp' : Nat → Int32} {led : Nat → Int64} {r : Nat}
theorem alr_alk {v w : Nat} (h48 : c.1 ≤ 48) (h : RKx c c.1 r (rowH hp r)) (hs : LKr c (rk c r) c.1 0 led) (hv : v < c.1) (hw : w < c.1) : ALR hp r led v w ↔ ALK c (rk c r) w v := by
  have l1 := (rk_le c r v).1
  have l2 := (rk_le c r w).1
  have e1 : hp (48 * r + v) = nI (rk c r v) := h v hv
  have e2 : hp (48 * r + w) = nI (rk c r w) := h w hw
  unfold ALR ALK
  rw [e1, e2]
  constructor
  · rintro ⟨a, b⟩
    exact ⟨(nI_eq (by omega) (by omega)).mp a, fun k hk t ht => ((LSx.eq (hs v k hv hk (by omega)) (hs w k hw hk (by omega))).mp (b k hk)) t ht⟩
  · rintro ⟨a, b⟩
    exact ⟨by rw [a], fun k hk => (LSx.eq (hs v k hv hk (by omega)) (hs w k hw hk (by omega))).mpr (fun t ht => b k hk t ht)⟩
theorem la2_rk (h48 : c.1 ≤ 48) (h : RKx c c.1 r (rowH hp r)) (hs : LKr c (rk c r) c.1 0 led) (hl : LA2 c.1 hp r led hp') : RKx c c.1 (r + 1) (rowH hp' (r + 1)) := fun i hi => by
  obtain ⟨v, hv, e, ha, hu⟩ := hl i hi
  rw [e]
  congr 1
  symm
  show rkS c (rk c r) i = v
  exact rkS_u hv (fun u hu2 hk => hu u hu2 ((alr_alk h48 h hs (by omega) hi).mpr hk)) ((alr_alk h48 h hs (by omega) hi).mp ha)
/-- the rounds so far -/
def RKA (c : CMl) (hp : Nat → Int32) (r : Nat) : Prop := ∀ s, s ≤ r → RKx c c.1 s (rowH hp s)
theorem RKA.z (h : RKx c c.1 0 hp) : RKA c hp 0 := fun s hs => by
  have e : s = 0 := by omega
  rw [e, rowH_0]; exact h
theorem RKA.ext (h : RKA c hp r) (h48 : c.1 ≤ 48) (hk : KP (48 * (r + 1)) hp hp') (h1 : RKx c c.1 (r + 1) (rowH hp' (r + 1))) : RKA c hp' (r + 1) := fun s hs => by
  by_cases q : s = r + 1
  · rw [q]; exact h1
  · intro i hi
    have e : rowH hp' s i = rowH hp s i := hk _ (by omega)
    rw [e]; exact h s (by omega) i hi
theorem rk_same (h48 : c.1 ≤ 48) (h : RKx c c.1 r (rowH hp r)) (h1 : RKx c c.1 (r + 1) (rowH hp' (r + 1))) (hm : ∀ w, w < c.1 → rowH hp' (r + 1) w = rowH hp r w) : ∀ i, i < c.1 → rk c (r + 1) i = rk c r i := fun i hi => by
  have l1 := (rk_le c r i).1
  have l2 := (rk_le c (r + 1) i).1
  have e := hm i hi
  rw [h i hi, h1 i hi] at e
  exact (nI_eq (by omega) (by omega)).mp e
/-- the last round parts none -/
def RST (c : CMl) (z : Nat) : Prop := ∃ r, z = r + 1 ∧ r ≤ c.1 ∧ ∀ i, i < c.1 → rk c (r + 1) i = rk c r i
theorem RST.end {z : Nat} (h : RST c z) (hw : CWF c) (ha : RKA c hp z) : RKx c c.1 c.1 (rowH hp z) := by
  obtain ⟨r, e, hr, h1⟩ := h
  subst e
  exact rk_end hw hr h1 (ha (r + 1) (Nat.le_refl _))
end RKAS
theorem fx_1 {fm fr ff fp : Nat → Int32} : ∀ i, i < (cm1 (pgs fm fr ff fp 0)).1 → (cm1 (pgs fm fr ff fp 0)).2.1 i = fxN ff i := fun i hi => by
  have h1 : (pgs fm fr ff fp 0).2.2.1 i = ff (24 * 0 + i) := pg_F hi
  show (pgs fm fr ff fp 0).2.2.1 i = ff (0 + i)
  rw [h1]
theorem fx_2 {fm fr ff fp : Nat → Int32} {b : Nat} : ∀ i, i < (cm2 (pgs fm fr ff fp 0) (pgs fm fr ff fp b)).1 → (cm2 (pgs fm fr ff fp 0) (pgs fm fr ff fp b)).2.1 i = fxR (cN fm 0) ff b i := fun i hi => by
  have hi2 : i < cN fm 0 + cN fm b := hi
  show (if i < cN fm 0 then (pgs fm fr ff fp 0).2.2.1 i else (pgs fm fr ff fp b).2.2.1 (i - cN fm 0)) = (if i < cN fm 0 then ff (0 + i) else ff (24 * b + i - cN fm 0))
  by_cases q : i < cN fm 0
  · have h1 : (pgs fm fr ff fp 0).2.2.1 i = ff (24 * 0 + i) := pg_F q
    rw [if_pos q, if_pos q, h1]
  · have h1 : (pgs fm fr ff fp b).2.2.1 (i - cN fm 0) = ff (24 * b + (i - cN fm 0)) := pg_F (by omega)
    rw [if_neg q, if_neg q, h1]
    congr 1; omega
theorem MZ_ext {i v : Nat} {hp h1 h2 : Nat → Int32} {r : Nat} {x : Int32} (h : ∀ w, w < i → rowH h1 (r + 1) w = rowH hp r w) (hi : i < 48) (hk : KP (48 * (r + 1)) hp h2) (e : upd h1 (48 * (r + 1) + i) (nI v) = h2) (ex : h2 (48 * r + i) = x) (hz : ((v : Nat) : Int) = x.toInt) : ∀ w, w < i + 1 → rowH h2 (r + 1) w = rowH hp r w := fun w hw => by
  by_cases q : w = i
  · subst q
    have e1 : rowH h2 (r + 1) w = nI v := by unfold rowH; rw [← e, pk_us]
    have e2 : rowH hp r w = x := by rw [← ex]; exact (hk _ (by omega)).symm
    have h3 := Int32.toInt_lt x
    rw [e1, e2]
    exact Int32.toInt_inj.mp (by rw [nI_toInt (by omega)]; exact hz)
  · have e1 : rowH h2 (r + 1) w = rowH h1 (r + 1) w := by unfold rowH; rw [← e, pk_un (by omega)]
    rw [e1]; exact h w (by omega)
