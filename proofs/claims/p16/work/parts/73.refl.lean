/-! the reference's rows: numbers below a bound -/
def NB (N B : Nat) (f : Nat → Int32) : Prop := ∀ p, p < N → f p = nI (cN f p) ∧ cN f p ≤ B
theorem cN_s {f g : Nat → Int32} {k t : Nat} (ht : t < 2 ^ 31) (e : upd f k (nI t) = g) : cN g k = t := by
  unfold cN; rw [← e, pk_us]; exact nI_clamp ht
theorem cN_n {f g : Nat → Int32} {k j : Nat} {v : Int32} (e : upd f k v = g) (h : j ≠ k) : cN g j = cN f j := by
  unfold cN; rw [← e, pk_un h]
theorem NB.put {N B k t : Nat} {f g : Nat → Int32} (h : NB N B f) (ht : t ≤ B) (hB : B < 2 ^ 31) (e : upd f k (nI t) = g) : NB N B g := by
  intro p hp
  by_cases hk : p = k
  · have e1 := cN_s (by omega) e
    rw [hk, e1]
    refine ⟨?_, ht⟩
    rw [← e, pk_us]
  · rw [cN_n e hk]
    refine ⟨?_, (h p hp).2⟩
    rw [← e, pk_un hk]; exact (h p hp).1
theorem NB.zero {N B : Nat} : NB N B (fun _ => 0) := fun p _ => ⟨rfl, Nat.zero_le _⟩
/-- of every page: the real world is one of its worlds, or 0 -/
def PG (fm fr : Nat → Int32) : Prop := ∀ p, p < 18 → cN fr p < cN fm p ∨ cN fr p = 0
theorem PG.put {fm fr fm' fr' : Nat → Int32} {k a b : Nat} (h : PG fm fr) (e1 : upd fm k (nI a) = fm') (e2 : upd fr k (nI b) = fr') (ha : a < 2 ^ 31) (hb : b < 2 ^ 31) (hab : b < a ∨ b = 0) : PG fm' fr' := by
  intro p hp
  by_cases hk : p = k
  · rw [hk, cN_s ha e1, cN_s hb e2]; exact hab
  · rw [cN_n e1 hk, cN_n e2 hk]; exact h p hp
theorem PG.zero : PG (fun _ => 0) (fun _ => 0) := fun p _ => Or.inr rfl
/-- the first B places are as they were -/
def KP (B : Nat) (f g : Nat → Int32) : Prop := ∀ p, p < B → g p = f p
theorem KP.rf {B : Nat} {f : Nat → Int32} : KP B f f := fun _ _ => rfl
theorem KP.put {B k : Nat} {f g g' : Nat → Int32} {v : Int32} (h : KP B f g) (hk : B ≤ k) (e : upd g k v = g') : KP B f g' := fun p hp => by rw [← e, pk_un (by omega)]; exact h p hp
theorem KP.tr {B : Nat} {f g g' : Nat → Int32} (h : KP B f g) (h2 : KP B g g') : KP B f g' := fun p hp => (h2 p hp).trans (h p hp)
theorem KP.at {B p : Nat} {f g : Nat → Int32} (h : KP B f g) (hp : p < B) : cN g p = cN f p := by unfold cN; rw [h p hp]
theorem KP.up {B C : Nat} {f g : Nat → Int32} (h : KP B f g) (hc : C ≤ B) : KP C f g := fun p hp => h p (by omega)
/-- g is f with the first i of n places of page q taken from page p -/
def CPG (n p q i : Nat) (f g : Nat → Int32) : Prop := (∀ w, w < i → g (n * q + w) = f (n * p + w)) ∧ ∀ j, (j < n * q ∨ n * q + i ≤ j) → g j = f j
theorem CPG.nil {n p q : Nat} {f : Nat → Int32} : CPG n p q 0 f f := ⟨fun w h => absurd h (Nat.not_lt_zero _), fun _ _ => rfl⟩
theorem CPG.ext {n p q i : Nat} {f g g' : Nat → Int32} {x : Int32} (h : CPG n p q i f g) (hi : i < n) (ex : g (n * p + i) = x) (e : upd g (n * q + i) x = g') : CPG n p q (i + 1) f g' := by
  have hpq : n * p + i < n * q ∨ n * q + i ≤ n * p + i := by
    rcases Nat.lt_or_ge p q with c | c
    · left
      have := Nat.mul_le_mul_left n (show p + 1 ≤ q from c)
      rw [Nat.mul_add] at this; omega
    · right
      have := Nat.mul_le_mul_left n c
      omega
  have hx : x = f (n * p + i) := by rw [← ex]; exact h.2 _ hpq
  refine ⟨fun w hw => ?_, fun j hj => ?_⟩
  · by_cases hk : w = i
    · rw [hk, ← e, pk_us, hx]
    · rw [← e, pk_un (by omega)]; exact h.1 w (by omega)
  · rw [← e, pk_un (by omega)]; exact h.2 j (by omega)
theorem CPG.kp {n p q B : Nat} {f g : Nat → Int32} (h : CPG n p q n f g) (hB : B ≤ n * q) : KP B f g := fun j hj => h.2 j (Or.inl (by omega))
theorem cb_bit {x y : Int32} {k j : Nat} (hk : k < 32) (hj : j < 2) (e : x >>> (nI k &&& 31) = y) (ej : y &&& 1 = nI j) : cb (bt x) (k + 1) = cb (bt x) k + j := by
  rcases (show j = 0 ∨ j = 1 by omega) with rfl | rfl
  · rw [cb_f (hasb_0 hk e ej rfl)]; rfl
  · rw [cb_t (hasb_1 hk e ej rfl)]
/-- all of one row of bits are of the other -/
def SB (a b : Int32) : Prop := ∀ i, i < 32 → bt a i = true → bt b i = true
theorem SB.rf {a : Int32} : SB a a := fun _ _ h => h
theorem SB.zero {a : Int32} : SB 0 a := fun i _ h => by rw [b_0] at h; cases h
theorem SB.or {a b x c : Int32} (h : SB a b) (e : b ||| x = c) : SB a c := fun i hi hb => by rw [← e, b_or, h i hi hb]; rfl
theorem cb_sub {f g : Nat → Bool} : ∀ n : Nat, (∀ i, i < n → f i = true → g i = true) → cb f n ≤ cb g n
  | 0, _ => Nat.le_refl _
  | n + 1, h => by
    have ih := cb_sub n (fun i hi => h i (by omega))
    rw [cb_s, cb_s]
    cases hf : f n with
    | false => simp; omega
    | true => rw [h n (by omega) hf]; omega
theorem cb_sub_lt {f g : Nat → Bool} : ∀ n : Nat, (∀ i, i < n → f i = true → g i = true) → (∃ i, i < n ∧ f i = false ∧ g i = true) → cb f n < cb g n
  | 0, _, ⟨i, hi, _⟩ => absurd hi (Nat.not_lt_zero _)
  | n + 1, h, ⟨i, hi, h1, h2⟩ => by
    have h0 := cb_sub n (fun i hi => h i (by omega))
    rw [cb_s, cb_s]
    by_cases hn : i = n
    · subst hn; rw [h1, h2]; simp; omega
    · have ih := cb_sub_lt n (fun i hi => h i (by omega)) ⟨i, by omega, h1, h2⟩
      cases hf : f n with
      | false => simp; omega
      | true => rw [h n (by omega) hf]; omega
theorem SB.lt {a b : Int32} (h : SB a b) (hne : ¬ a = b) : cb (bt a) 32 < cb (bt b) 32 := by
  refine cb_sub_lt 32 h ?_
  apply Classical.byContradiction
  intro hno
  apply hne
  apply b_ext
  intro i hi
  cases ha : bt a i with
  | true => rw [h i hi ha]
  | false =>
    cases hb : bt b i with
    | false => rfl
    | true => exact absurd ⟨i, hi, ha, hb⟩ hno
theorem SB.lt' {a b : Int32} (h : SB a b) (hne : b.toInt ≠ a.toInt) : cb (bt a) 32 < cb (bt b) 32 := h.lt (fun e => hne (by rw [e]))
/-- a byte of the tape -/
def byt (f : Nat → Int32) (t k : Nat) : Int32 := if k < t then f k else -4
theorem byt_1 {f : Nat → Int32} {t k : Nat} {x : Int32} (h : k < t) (e : f k = x) : x = byt f t k := by unfold byt; rw [if_pos h, e]
theorem byt_0 {f : Nat → Int32} {t k : Nat} (h : t ≤ k) : (-4 : Int32) = byt f t k := by unfold byt; rw [if_neg (by omega)]
theorem byt_lt {f : Nat → Int32} {t k : Nat} (h : (byt f t k).toInt ≠ -4) : k < t := by
  apply Classical.byContradiction
  intro hk
  apply h
  unfold byt
  rw [if_neg hk]; rfl
theorem dig {x : Int32} (h0 : 48 ≤ x.toInt) (h1 : x.toInt ≤ 57) : ∃ j : Nat, x - 48 = nI j ∧ j ≤ 9 ∧ (j : Int) = x.toInt - 48 := by
  have e := i_sub (x := x) (y := 48) rfl rfl (by have e48 : (48 : Int32).toInt = 48 := rfl; omega) (by have e48 : (48 : Int32).toInt = 48 := rfl; omega)
  have e48 : (48 : Int32).toInt = 48 := rfl
  obtain ⟨j, e1, e2⟩ := nI_ex (x := x - 48) (n := 9) (by omega) (by omega)
  refine ⟨j, e1, e2, ?_⟩
  rw [e1, nI_toInt (by omega)] at e
  omega
/-! the sayings of the reference -/
def wR (x : Int32) : Int := if x.toInt ≤ 4 then 0 else if x.toInt = 6 ∨ x.toInt = 7 then 2 else 1
def opr (o : Nat → Int32) : Nat → Int
  | 0 => 1
  | i + 1 => opr o i + wR (o i) - 1
theorem opr_s (o : Nat → Int32) (i : Nat) : opr o (i + 1) = opr o i + wR (o i) - 1 := rfl
theorem wR_in (x : Int32) : 0 ≤ wR x ∧ wR x ≤ 2 := by
  unfold wR; split
  · omega
  · split <;> omega
theorem wR_a0 {x : Int32} (h : x.toInt ≤ 4) : wR x = 0 := by unfold wR; rw [if_pos h]
theorem wR_a2 {x : Int32} (h : x.toInt = 6 ∨ x.toInt = 7) : wR x = 2 := by unfold wR; rw [if_neg (by omega), if_pos h]
theorem wR_a1 {x : Int32} (h : 4 < x.toInt ∧ x.toInt ≠ 6 ∧ x.toInt ≠ 7) : wR x = 1 := by unfold wR; rw [if_neg (by omega), if_neg (by omega)]
def OPR (n : Nat) (o : Nat → Int32) : Prop := (∀ i, i < n → 0 ≤ (o i).toInt ∧ (o i).toInt ≤ 12) ∧ ∀ i, i < n → 1 ≤ opr o i
def WR (n : Nat) (o : Nat → Int32) : Prop := n ≤ 32 ∧ OPR n o ∧ (n = 0 ∨ opr o n = 0)
theorem opr_le {n : Nat} {o : Nat → Int32} (h : WR n o) {i : Nat} (hi : i ≤ n) (hn : 0 < n) : opr o i ≤ (n : Int) - i := by
  obtain ⟨d, rfl⟩ : ∃ d, n = i + d := ⟨n - i, by omega⟩
  have key : ∀ d : Nat, opr o i ≤ opr o (i + d) + d := by
    intro d
    induction d with
    | zero => simp
    | succ d ih =>
      have h1 := opr_s o (i + d)
      have h2 := wR_in (o (i + d))
      show opr o i ≤ opr o (i + d + 1) + ((d + 1 : Nat) : Int)
      omega
  have h2 := key d
  have h3 := h.2.2
  omega
theorem OPR.nil {o : Nat → Int32} : OPR 0 o := ⟨fun i h => absurd h (by omega), fun i h => absurd h (by omega)⟩
theorem opr_congr {o p : Nat → Int32} : ∀ n : Nat, (∀ i, i < n → p i = o i) → opr p n = opr o n
  | 0, _ => rfl
  | n + 1, h => by rw [opr_s, opr_s, opr_congr n (fun i hi => h i (by omega)), h n (by omega)]
theorem OPR.congr {n : Nat} {o p : Nat → Int32} (h : OPR n o) (hp : ∀ i, i < n → p i = o i) : OPR n p := ⟨fun i hi => by rw [hp i hi]; exact h.1 i hi, fun i hi => by rw [opr_congr i (fun j hj => hp j (by omega))]; exact h.2 i hi⟩
theorem OPR.ext {n : Nat} {o p : Nat → Int32} {x : Int32} (h : OPR n o) (hp : ∀ i, i < n → p i = o i) (hn : p n = x) (h0 : 0 ≤ x.toInt) (h8 : x.toInt ≤ 12) (ho : 1 ≤ opr o n) : OPR (n + 1) p ∧ opr p (n + 1) = opr o n + wR x - 1 := by
  have hc : ∀ i, i ≤ n → opr p i = opr o i := fun i hi => opr_congr i (fun j hj => hp j (by omega))
  refine ⟨⟨fun i hi => ?_, fun i hi => ?_⟩, ?_⟩
  · by_cases q : i = n
    · rw [q, hn]; exact ⟨h0, h8⟩
    · rw [hp i (by omega)]; exact h.1 i (by omega)
  · rw [hc i (by omega)]
    by_cases q : i = n
    · rw [q]; exact ho
    · exact h.2 i (by omega)
  · rw [opr_s, hc n (by omega), hn]
theorem WR.congr {n : Nat} {o p : Nat → Int32} (h : WR n o) (hp : ∀ i, i < n → p i = o i) : WR n p := ⟨h.1, h.2.1.congr hp, by rw [opr_congr n hp]; exact h.2.2⟩
theorem WR.zero {o : Nat → Int32} : WR 0 o := ⟨by omega, OPR.nil, Or.inl rfl⟩
/-- the acts of slot s -/
def slot (fo : Nat → Int32) (s : Nat) : Nat → Int32 := fun i => fo (32 * s + i)
def SV (fo fm : Nat → Int32) : Prop := ∀ s, s < 24 → WR (cN fm s) (slot fo s)
theorem SV.zero {fo : Nat → Int32} : SV fo (fun _ => 0) := fun s _ => by
  have e : cN (fun _ => (0 : Int32)) s = 0 := rfl
  rw [e]; exact WR.zero
/-- slot 24 alone has changed -/
theorem SV.keep {fo fm fo' fm' : Nat → Int32} (h : SV fo fm) (h1 : KP 768 fo fo') (h2 : KP 24 fm fm') : SV fo' fm' := fun s hs => by
  rw [h2.at hs]
  have hw := h s hs
  exact hw.congr (fun i hi => by have := hw.1; exact h1 _ (by omega))
theorem SV.copy {fo fm fo' fm' : Nat → Int32} {p q : Nat} (h : SV fo fm) (hp : WR (cN fm p) (slot fo p)) (hb : cN fm p ≤ 32) (hc : CPG 32 p q 32 fo fo') (e : upd fm q (nI (cN fm p)) = fm') : SV fo' fm' := fun s hs => by
  by_cases hk : s = q
  · subst hk
    rw [cN_s (by omega) e]
    exact hp.congr (fun i hi => hc.1 i (by omega))
  · rw [cN_n e hk]
    have hw := h s hs
    refine hw.congr (fun i hi => ?_)
    have := hw.1
    exact hc.2 _ (by omega)
/-- the names' ends -/
def endsL : List Nat := [0, 1, 2, 3, 4, 7, 10, 13, 15, 19, 26, 31, 37, 45, 50]
def endsN (n : Nat) : Nat := endsL.getD n 0
def EN (f : Nat → Int32) : Prop := ∀ n, n < 15 → f n = nI (endsN n)
theorem ends_m : ∀ n, n < 14 → endsN n ≤ endsN (n + 1) ∧ endsN (n + 1) ≤ 50 := by decide +kernel
theorem ends_le : ∀ n, n < 15 → endsN n ≤ 50 := by decide +kernel
/-! the text, as the reference reads it -/
theorem byt_in {f : Nat → Int32} {t k : Nat} {lo hi : Int} (h0 : 0 ≤ lo) (h1 : hi ≤ 127) : (lo ≤ (byt f t k).toInt ∧ (byt f t k).toInt ≤ hi) ↔ (lo ≤ cz f t k ∧ cz f t k ≤ hi) := by
  by_cases q : k < t
  · rw [cz_in q h0 h1]; unfold byt; rw [if_pos q]
  · rw [cz_0 (by omega)]; unfold byt; rw [if_neg q]
    have e : (-4 : Int32).toInt = -4 := rfl
    omega
def RGY (c : Nat → Int) (fr j : Nat) (lo hi : Int) : Prop := ∀ k, fr ≤ k → k < j → lo ≤ c k ∧ c k ≤ hi
theorem RGY.nil {c : Nat → Int} {fr : Nat} {lo hi : Int} : RGY c fr fr lo hi := fun k a b => absurd a (by omega)
theorem RGY.ext {f : Nat → Int32} {t fr j : Nat} {lo hi : Int} (h : RGY (cz f t) fr j lo hi) (h0 : 0 ≤ lo) (h1 : hi ≤ 127) (hb : lo ≤ (byt f t j).toInt ∧ (byt f t j).toInt ≤ hi) : RGY (cz f t) fr (j + 1) lo hi := by
  intro k a b
  by_cases q : k = j
  · rw [q]; exact (byt_in h0 h1).mp hb
  · exact h k a (by omega)
theorem bh_y {f : Nat → Int32} {t fr j : Nat} {lo hi : Int} (h : RGY (cz f t) fr j lo hi) (a : fr ≤ j) (b : j ≤ 160) (h0 : 0 ≤ lo) (h1 : hi ≤ 127) (hs : ¬ (lo ≤ (byt f t j).toInt ∧ (byt f t j).toInt ≤ hi)) : bh (cz f t) lo hi fr = j := bh_u a b h (fun q => hs ((byt_in h0 h1).mpr q))
theorem cy_end {f : Nat → Int32} {t k : Nat} (hk : (byt f t k).toInt = -4) (hn : NB 160 255 f) (ht : t ≤ 160) : cz f t k < 0 := by
  by_cases q : k < t
  · unfold byt at hk
    rw [if_pos q, (hn k (by omega)).1, nI_toInt (by have := (hn k (by omega)).2; omega)] at hk
    omega
  · rw [cz_0 (by omega)]; decide
theorem cy_nn {f : Nat → Int32} {t k : Nat} (hk : (byt f t k).toInt ≠ -4) : 0 ≤ cz f t k := cz_nn (byt_lt hk)
theorem cy_eq {f : Nat → Int32} {t k : Nat} {lo hi : Int} (h0 : 0 ≤ lo) (h1 : hi ≤ 127) (hb : lo ≤ (byt f t k).toInt ∧ (byt f t k).toInt ≤ hi) : cz f t k = (byt f t k).toInt := by
  have h2 := (byt_in h0 h1).mp hb
  have h3 : k < t := cz_lt (f := f) (by omega)
  rw [cz_1 h3] at *
  rw [nz_eq h0 h1 h2]
  unfold byt; rw [if_pos h3]
/-! eight bytes come -/
def rexp (v : Int64) (i : Nat) : Int32 := (v >>> ((nI (56 - 8 * i)).toInt64 &&& 63)).toInt32 &&& 255
def RYW (f g : Nat → Int32) (t i : Nat) (v : Int64) : Prop := (∀ k, k < t → g k = f k) ∧ ∀ j, j < i → g (t + j) = rexp v j
theorem RYW.nil {f : Nat → Int32} {t : Nat} {v : Int64} : RYW f f t 0 v := ⟨fun _ _ => rfl, fun j h => absurd h (by omega)⟩
theorem RYW.ext {f g g' : Nat → Int32} {t i i' m tp b : Nat} {v l : Int64} {x : Int32} (h : RYW f g t i v) (e1 : v >>> ((nI m).toInt64 &&& 63) = l) (e2 : l.toInt32 = x) (e3 : x &&& 255 = nI b) (e : upd g tp (nI b) = g') (hm : m = 56 - 8 * i) (ht : tp = t + i) (hi : i' = i + 1) : RYW f g' t i' v := by
  subst hm; subst ht; subst hi; subst e1; subst e2
  refine ⟨fun k hk => ?_, fun j hj => ?_⟩
  · rw [← e, pk_un (by omega)]; exact h.1 k hk
  · by_cases q : j = i
    · rw [q, ← e, pk_us, ← e3]; rfl
    · rw [← e, pk_un (by omega)]; exact h.2 j (by omega)
/-! the names -/
theorem wd_ends : ∀ n, n < 14 → wdL n = endsN (n + 1) - endsN n ∧ wdL n ≤ 8 := by decide +kernel
theorem wd_r : ∀ n, n < 14 → ∀ k, k < wdL n → 97 ≤ wdB n k ∧ wdB n k ≤ 122 := by
  have h : ∀ n, n < 14 → ∀ k, k < 8 → k < wdL n → 97 ≤ wdB n k ∧ wdB n k ≤ 122 := by decide +kernel
  intro n hn k hk
  exact h n hn k (Nat.lt_of_lt_of_le hk (wd_ends n hn).2) hk
def LTR (fl : Nat → Int32) : Prop := ∀ n, n < 14 → ∀ k, k < wdL n → (fl (endsN n + k)).toInt = wdB n k
theorem nm_ext {f fl : Nat → Int32} {t pl n k : Nat} {x : Int32} (hl : LTR fl) (hm : ∀ j, j < k → cz f t (pl + j) = wdB n j) (hn : n < 14) (hk : k < wdL n) (ex : fl (endsN n + k) = x) (hz : (byt f t (pl + k)).toInt = x.toInt) : ∀ j, j < k + 1 → cz f t (pl + j) = wdB n j := by
  intro j hj
  by_cases q : j = k
  · subst q
    have h1 := hl n hn j hk
    have h2 := wd_r n hn j hk
    rw [ex] at h1
    rw [cy_eq (lo := 97) (hi := 122) (by decide) (by decide) (by omega)]
    omega
  · exact hm j (by omega)
theorem nm_no {f fl : Nat → Int32} {t pl tk sp n k : Nat} {x : Int32} (hl : LTR fl) (hn : n < 14) (hk : k < wdL n) (ex : fl (endsN n + k) = x) (hz : (byt f t (pl + k)).toInt ≠ x.toInt) : ¬ IN (cz f t) pl tk sp n := by
  intro h
  have h1 := hl n hn k hk
  have h2 := wd_r n hn k hk
  have h3 := h.2.2 k hk
  rw [ex] at h1
  have h4 := (byt_in (f := f) (t := t) (k := pl + k) (lo := 97) (hi := 122) (by decide) (by decide)).mpr (by omega)
  have h5 := cy_eq (f := f) (t := t) (k := pl + k) (lo := 97) (hi := 122) (by decide) (by decide) h4
  omega
theorem and4 : ∀ a, a < 16 → ∀ k, k < 4 → ((nI a &&& nI (2 ^ k)).toInt = 0 ↔ a.testBit k = false) := by decide +kernel
theorem sz4 : ∀ g, g < 16 → cb (bt (nI g)) 24 = cb g.testBit 32 := by decide +kernel
/-- of every event: the real case is one of its cases, or 0 -/
def HP (fc fh : Nat → Int32) : Prop := ∀ p, p < 4 → cN fh p < cN fc p ∨ cN fh p = 0
theorem HP.put {fm fr fm' fr' : Nat → Int32} {k a b : Nat} (h : HP fm fr) (e1 : upd fm k (nI a) = fm') (e2 : upd fr k (nI b) = fr') (ha : a < 2 ^ 31) (hb : b < 2 ^ 31) (hab : b < a ∨ b = 0) : HP fm' fr' := by
  intro p hp
  by_cases hk : p = k
  · rw [hk, cN_s ha e1, cN_s hb e2]; exact hab
  · rw [cN_n e1 hk, cN_n e2 hk]; exact h p hp
theorem HP.put2 {fm fr fr' : Nat → Int32} {k b : Nat} (h : HP fm fr) (e2 : upd fr k (nI b) = fr') (hb : b < 2 ^ 31) (hab : b < cN fm k ∨ b = 0) : HP fm fr' := by
  intro p hp
  by_cases hk : p = k
  · rw [hk, cN_s hb e2]; exact hab
  · rw [cN_n e2 hk]; exact h p hp
theorem HP.zero : HP (fun _ => 0) (fun _ => 0) := fun p _ => Or.inr rfl
theorem PG.put2 {fm fr fr' : Nat → Int32} {k b : Nat} (h : PG fm fr) (e2 : upd fr k (nI b) = fr') (hb : b < 2 ^ 31) (hab : b < cN fm k ∨ b = 0) : PG fm fr' := by
  intro p hp
  by_cases hk : p = k
  · rw [hk, cN_s hb e2]; exact hab
  · rw [cN_n e2 hk]; exact h p hp
theorem act_step {go gm go' gm' : Nat → Int32} {ac : Nat} {x : Int32} (h : OPR (cN gm 24) (slot go 24)) (ho : 1 ≤ opr (slot go 24) (cN gm 24)) (hm : cN gm 24 < 32) (em : upd gm 24 (nI (cN gm 24 + 1)) = gm') (ea : upd go (768 + cN gm 24) (nI ac) = go') (hac : ac ≤ 12) (ex : go' (768 + cN gm' 24 - 1) = x) : OPR (cN gm' 24) (slot go' 24) ∧ opr (slot go' 24) (cN gm' 24) = opr (slot go 24) (cN gm 24) + wR x - 1 ∧ cN gm' 24 = cN gm 24 + 1 ∧ x.toInt = (ac : Int) := by
  have e1 : cN gm' 24 = cN gm 24 + 1 := cN_s (by omega) em
  rw [e1] at ex
  have hx : x = nI ac := by rw [← ex, ← ea, show 768 + (cN gm 24 + 1) - 1 = 768 + cN gm 24 by omega, pk_us]
  have hi := nI_toInt (n := ac) (by omega)
  have key := OPR.ext (p := slot go' 24) (x := x) h (fun i hi => by unfold slot; rw [← ea, pk_un (by omega)]) (by unfold slot; rw [← ex]; congr 1) (by rw [hx, hi]; omega) (by rw [hx, hi]; omega) ho
  rw [e1]
  exact ⟨key.1, key.2, rfl, by rw [hx, hi]⟩
/-! pairs of worlds and cases -/
def OKP (pr : Nat → Int32) (pg w i many : Nat) : Prop := pr (96 * pg + 4 * w + i) = -4 ∨ ∃ j : Nat, (j < many ∨ j = 0) ∧ pr (96 * pg + 4 * w + i) = nI j
def PR0 (pr : Nat → Int32) (pg n i1 w1 : Nat) : Prop := ∀ w i, w < n → i < 4 → (i < i1 ∨ (i = i1 ∧ w < w1)) → OKP pr pg w i 0
theorem PR0.nil {pr : Nat → Int32} {pg n : Nat} : PR0 pr pg n 0 0 := fun w i _ _ h => absurd h (by omega)
theorem PR0.ext {pr pr' : Nat → Int32} {pg n i1 w1 : Nat} {x : Int32} (h : PR0 pr pg n i1 w1) (hi : i1 < 4) (hx : x = -4 ∨ x = 0) (e : upd pr (96 * pg + 4 * w1 + i1) x = pr') : PR0 pr' pg n i1 (w1 + 1) := by
  intro w i hw hi4 hc
  unfold OKP
  by_cases hk : w = w1 ∧ i = i1
  · obtain ⟨rfl, rfl⟩ := hk
    rw [← e, pk_us]
    rcases hx with rfl | rfl
    · exact Or.inl rfl
    · exact Or.inr ⟨0, Or.inr rfl, rfl⟩
  · rw [← e, pk_un (by omega)]
    exact h w i hw hi4 (by omega)
theorem PR0.up {pr : Nat → Int32} {pg n i1 : Nat} (h : PR0 pr pg n i1 n) : PR0 pr pg n (i1 + 1) 0 := fun w i hw hi hc => h w i hw hi (by omega)
def PRB (pr : Nat → Int32) (pg n c many : Nat) : Prop := ∀ w i, w < n → i < c → OKP pr pg w i many
theorem PR0.b {pr : Nat → Int32} {pg n c : Nat} (h : PR0 pr pg n c 0) (hc : c ≤ 4) : PRB pr pg n c 0 := fun w i hw hi => h w i hw (by omega) (Or.inl hi)
theorem PRB.put {pr pr' : Nat → Int32} {pg n c m w1 i1 : Nat} (h : PRB pr pg n c m) (hc : c ≤ 4) (hi1 : i1 < c) (e : upd pr (96 * pg + 4 * w1 + i1) (nI m) = pr') : PRB pr' pg n c (m + 1) := by
  intro w i hw hi
  unfold OKP
  by_cases hk : w = w1 ∧ i = i1
  · obtain ⟨rfl, rfl⟩ := hk
    rw [← e, pk_us]
    exact Or.inr ⟨m, Or.inl (by omega), rfl⟩
  · rw [← e, pk_un (by omega)]
    rcases h w i hw hi with q | ⟨j, hj, q⟩
    · exact Or.inl q
    · exact Or.inr ⟨j, by omega, q⟩
/-! the afters and the saying, as the reference reads them -/
theorem TK.self {c : Nat → Int} {p : Nat} : TK c p (sS c p) (sK c p) (sE c p) := ⟨rfl, rfl, rfl⟩
def AO (n : Nat) (g : Nat → Int32) (v w : Nat) : Prop := (0 < n → g 16 = nI v) ∧ (1 < n → g 17 = nI w)
theorem AO.nil {n : Nat} {g : Nat → Int32} {v w : Nat} (h : n = 0) : AO n g v w := ⟨fun q => absurd q (by omega), fun q => absurd q (by omega)⟩
theorem AO.ext {n n' x : Nat} {g g' : Nat → Int32} {v w : Nat} (h : AO n g v w) (hn : n < 2) (e : upd g (16 + n) (nI x) = g') (hn' : n' = n + 1) : AO n' g' (if n = 0 then x else v) (if n = 0 then w else x) := by
  subst hn'
  rcases (show n = 0 ∨ n = 1 by omega) with rfl | rfl
  · exact ⟨fun _ => by rw [if_pos rfl, ← e, pk_us], fun q => absurd q (by omega)⟩
  · refine ⟨fun _ => ?_, fun _ => ?_⟩
    · rw [if_neg (by decide), ← e, pk_un (by decide)]; exact h.1 (by decide)
    · rw [if_neg (by decide), ← e, pk_us]
section AH
variable {c : Nat → Int} {F n p v w s k e s1 k1 e1 s2 k2 e2 : Nat}
theorem ah_stop (hn : n ≤ 2) (h0 : TK c p s k e) (hi : aT c s k e ≠ 13) : afC c (3 - n) p n v w = .inr (p, n, v, w) := by
  rw [show 3 - n = 2 - n + 1 by omega]; exact af_no (by rw [aF_eq h0]; exact hi)
theorem ah_b1 (hn : n = 2) (h0 : TK c p s k e) (hi : aT c s k e = 13) : afC c (3 - n) p n v w = .inl s := by
  rw [show 3 - n = 2 - n + 1 by omega, af_full (by rw [aF_eq h0]; exact hi) (by omega), h0.1]
theorem ah_b2 (hn : n < 2) (h0 : TK c p s k e) (hi : aT c s k e = 13) (h1 : TK c e s1 k1 e1) (hk : k1 ≠ 2 ∨ 51 < c s1) : afC c (3 - n) p n v w = .inl s1 := by
  obtain ⟨a1, a2, a3⟩ := id h0
  obtain ⟨b1, b2, b3⟩ := h1
  rw [a3] at b1 b2
  rw [show 3 - n = 2 - n + 1 by omega, af_1 (by rw [aF_eq h0]; exact hi) hn (by rw [← b1, ← b2]; exact hk), b1]
theorem ah_b3 (hn : n < 2) (h0 : TK c p s k e) (hi : aT c s k e = 13) (h1 : TK c e s1 k1 e1) (hk : k1 = 2) (hc : c s1 ≤ 51) (h2 : sK c e1 = 3) : afC c (3 - n) p n v w = .inl (sS c e1) := by
  obtain ⟨a1, a2, a3⟩ := id h0
  obtain ⟨b1, b2, b3⟩ := h1
  rw [a3] at b1 b2 b3
  rw [show 3 - n = 2 - n + 1 by omega, af_2 (by rw [aF_eq h0]; exact hi) hn (by rw [← b2]; exact hk) (by rw [← b1]; exact hc) (by rw [← b3]; exact h2), b3]
theorem ah_go {n' x : Nat} (hn : n < 2) (hn' : n' = n + 1) (h0 : TK c p s k e) (hi : aT c s k e = 13) (h1 : TK c e s1 k1 e1) (hk : k1 = 2) (hx : (x : Int) = c s1 - 48) (hx3 : x ≤ 3) (h2 : TK c e1 s2 k2 e2) (hk2 : k2 ≠ 3) : afC c (3 - n) p n v w = afC c (3 - n') e1 n' (if n = 0 then x else v) (if n = 0 then w else x) := by
  obtain ⟨a1, a2, a3⟩ := id h0
  obtain ⟨b1, b2, b3⟩ := h1
  obtain ⟨d1, d2, d3⟩ := h2
  rw [a3] at b1 b2 b3
  have ex : (c s1 - 48).toNat = x := by omega
  rw [show 3 - n = 2 - n + 1 by omega, af_3 (by rw [aF_eq h0]; exact hi) hn (by rw [← b2]; exact hk) (by rw [← b1]; omega) (by rw [← b3, ← d2]; exact hk2), ← b3, ← b1, ex, hn', show 2 - n = 3 - (n + 1) by omega]
end AH
/-- the names read so far, in the reference's rows -/
def OPY (c : Nat → Int) (p n : Nat) (ga gw : Nat → Int32) : Prop := ∀ i, i < n → ga (768 + i) = nI (aI c p i) ∧ gw (768 + i) = nI (gI c p i) ∧ aI c p i < 13 ∧ gI c p i < 16
theorem OPY.nil {c : Nat → Int} {p n : Nat} {ga gw : Nat → Int32} (h : n = 0) : OPY c p n ga gw := fun i q => absurd q (by omega)
theorem OPY.ext {c : Nat → Int} {p n n' a x : Nat} {ga gw ga' gw' : Nat → Int32} (h : OPY c p n ga gw) (e1 : upd ga (768 + n) (nI a) = ga') (e2 : upd gw (768 + n) (nI x) = gw') (hn : n' = n + 1) (ha : aI c p n = a) (hg : gI c p n = x) (ha2 : a ≤ 12) (hg2 : x < 16) : OPY c p n' ga' gw' := by
  subst hn
  intro i hi
  by_cases q : i = n
  · rw [q, ← e1, ← e2, pk_us, pk_us, ha, hg]; exact ⟨rfl, rfl, by omega, hg2⟩
  · rw [← e1, ← e2, pk_un (by omega), pk_un (by omega)]; exact h i (by omega)
theorem gI_r {c : Nat → Int} {p i q n o s k e a x : Nat} (h : it c p i = .inr (q, n, o)) (h0 : TK c q s k e) (ha : aT c s k e = a) (hx : (a < 8 → x = 0) ∧ (8 ≤ a → x = gA a (gF c (sE c q))) ∧ x < 16) : gI c p i = x := by
  rw [gI_at h, aF_eq h0, ha]
  by_cases q9 : a < 8
  · rw [if_pos q9, hx.1 q9]
  · rw [if_neg q9, hx.2.1 (by omega)]
theorem wt_0 {a : Nat} (h : a ≤ 4) : wt a = 0 := by unfold wt; rw [if_pos h]
theorem wt_2 {a : Nat} (h : a = 6 ∨ a = 7) : wt a = 2 := by unfold wt; rw [if_neg (by omega), if_pos h]
theorem wt_1 {a : Nat} (h : 4 < a ∧ a ≠ 6 ∧ a ≠ 7) : wt a = 1 := by unfold wt; rw [if_neg (by omega), if_neg (by omega)]
/-- slot k is told anew from slot 24, the others stay -/
theorem KP.cpg {k j : Nat} {f g h : Nat → Int32} (h1 : KP 768 f g) (hc : CPG 32 24 k 32 g h) (hk : k < 24) (hj : j < 768) (hn : j < 32 * k ∨ 32 * k + 32 ≤ j) : h j = f j := by
  rw [hc.2 j hn]; exact h1 j hj
/-! events and sayings of the reference -/
def tRr (tk af : Nat → Int32) : Nat → Option Nat := fun k => if 0 < (tk k).toInt then some (cN af k) else none
theorem PLN.rmk {tk af : Nat → Int32} {j : Nat} (hj : j ≤ 7) (h : 0 < (tk (nI j).toNatClampNeg).toInt) (h0 : cN af j = 0) : PLN (tRr tk af) (nI j) := by
  refine ⟨by rw [nI_toInt (by omega)]; omega, by rw [nI_toInt (by omega)]; omega, ?_⟩
  unfold tRr
  rw [if_pos h, nI_clamp (by omega), h0]
theorem PLN.rno {tk af : Nat → Int32} {k : Int32} (h : k.toInt < 0 ∨ 7 < k.toInt ∨ (tk k.toNatClampNeg).toInt ≤ 0) : ¬ PLN (tRr tk af) k := by
  rintro ⟨h1, h2, q⟩
  unfold tRr at q
  rw [if_neg (by omega)] at q
  cases q
theorem PLN.rno3 {tk af : Nat → Int32} {j : Nat} (hj : j ≤ 7) (h0 : cN af j ≠ 0) : ¬ PLN (tRr tk af) (nI j) := by
  rintro ⟨h1, h2, q⟩
  unfold tRr at q
  rw [nI_clamp (by omega)] at q
  split at q
  · exact h0 (Option.some.inj q)
  · cases q
/-- what each holds of event e is taken away: cases below i, and case i of knowers below k -/
def HZ (e i k : Nat) (f g : Nat → Int32) : Prop := (∀ c, c < 16 → (c % 4 < i ∨ (c % 4 = i ∧ c / 4 < k)) → g (16 * e + c) = 0) ∧ ∀ j, (j < 16 * e ∨ 16 * e + 16 ≤ j) → g j = f j
theorem HZ.nil {e : Nat} {f : Nat → Int32} : HZ e 0 0 f f := ⟨fun c _ h => absurd h (by omega), fun _ _ => rfl⟩
theorem HZ.ext {e i k : Nat} {f g g' : Nat → Int32} (h : HZ e i k f g) (hi : i < 4) (hk : k < 4) (x : upd g (16 * e + 4 * k + i) 0 = g') : HZ e i (k + 1) f g' := by
  refine ⟨fun c hc hq => ?_, fun j hj => ?_⟩
  · by_cases q : 16 * e + c = 16 * e + 4 * k + i
    · rw [q, ← x, pk_us]
    · rw [← x, pk_un q]; exact h.1 c hc (by omega)
  · rw [← x, pk_un (by omega)]; exact h.2 j hj
theorem HZ.up {e i : Nat} {f g : Nat → Int32} (h : HZ e i 4 f g) : HZ e (i + 1) 0 f g := ⟨fun c hc hq => h.1 c hc (by omega), h.2⟩
/-- a word: who holds what, the first i knowers -/
def WX (e d : Nat) (gr : Int32) (i : Nat) (f g : Nat → Int32) : Prop := (∀ c, c < 16 → g (16 * e + c) = if c / 4 < i then (if c % 4 = 0 then (if d = 0 ∨ bt gr (c / 4) = true then 1 else 2) else if c % 4 = 1 then (if d = 0 then 0 else 2) else 0) else 0) ∧ ∀ j, (j < 16 * e ∨ 16 * e + 16 ≤ j) → g j = f j
theorem WX.nil {e d : Nat} {gr : Int32} {f g : Nat → Int32} (h : HZ e 4 0 f g) : WX e d gr 0 f g := ⟨fun c hc => by rw [h.1 c hc (by omega), if_neg (by omega)], h.2⟩
theorem WX.ext {e d i : Nat} {gr a b : Int32} {f g g' g'' : Nat → Int32} (h : WX e d gr i f g) (hi : i < 4) (ha : a = if d = 0 ∨ bt gr i = true then 1 else 2) (hb : b = if d = 0 then 0 else 2) (x : upd g (16 * e + 4 * i) a = g') (y : upd g' (16 * e + 4 * i + 1) b = g'') : WX e d gr (i + 1) f g'' := by
  refine ⟨fun c hc => ?_, fun j hj => ?_⟩
  · by_cases q1 : 16 * e + c = 16 * e + 4 * i + 1
    · rw [q1, ← y, pk_us, if_pos (show c / 4 < i + 1 by omega), if_neg (show ¬ c % 4 = 0 by omega), if_pos (show c % 4 = 1 by omega)]; exact hb
    · rw [← y, pk_un q1]
      by_cases q : 16 * e + c = 16 * e + 4 * i
      · rw [q, ← x, pk_us, if_pos (show c / 4 < i + 1 by omega), if_pos (show c % 4 = 0 by omega), show c / 4 = i by omega]; exact ha
      · rw [← x, pk_un q, h.1 c hc]
        by_cases q2 : c / 4 < i
        · rw [if_pos q2, if_pos (show c / 4 < i + 1 by omega)]
        · rw [if_neg q2]
          by_cases q3 : c / 4 < i + 1
          · rw [if_pos q3, if_neg (show ¬ c % 4 = 0 by omega), if_neg (show ¬ c % 4 = 1 by omega)]
          · rw [if_neg q3]
  · rw [← y, pk_un (by omega), ← x, pk_un (by omega)]; exact h.2 j hj
