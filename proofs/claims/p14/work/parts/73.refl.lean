section
/-! the reference's rows: numbers below a bound -/
def NB (N B : Nat) (f : Nat → Int32) : Prop := ∀ p, p < N → f p = nI (cN f p) ∧ cN f p ≤ B
theorem NB.put {N B k t : Nat} {f g : Nat → Int32} (h : NB N B f) (ht : t ≤ B) (hB : B < 2 ^ 31) (e : upd f k (nI t) = g) : NB N B g := by
  intro p hp
  by_cases hk : p = k
  · have e1 := cN_s (by omega) e
    rw [hk, e1]
    refine ⟨?_, ht⟩
    rw [← e, pk_us]
  · rw [cN_n e hk]
    refine ⟨?_, (h p hp).2⟩
    rw [← e, pk_un hk]; exact (h p hp).1
theorem NB.zero {N B : Nat} : NB N B (fun _ => 0) := fun p _ => ⟨rfl, Nat.zero_le _⟩
/-- of every page: the real world is one of its worlds, or 0 -/
def PG (fm fr : Nat → Int32) : Prop := ∀ p, p < 18 → cN fr p < cN fm p ∨ cN fr p = 0
theorem PG.put {fm fr fm' fr' : Nat → Int32} {k a b : Nat} (h : PG fm fr) (e1 : upd fm k (nI a) = fm') (e2 : upd fr k (nI b) = fr') (ha : a < 2 ^ 31) (hb : b < 2 ^ 31) (hab : b < a ∨ b = 0) : PG fm' fr' := by
  intro p hp
  by_cases hk : p = k
  · rw [hk, cN_s ha e1, cN_s hb e2]; exact hab
  · rw [cN_n e1 hk, cN_n e2 hk]; exact h p hp
theorem PG.zero : PG (fun _ => 0) (fun _ => 0) := fun p _ => Or.inr rfl
/-- the first B places are as they were -/
def KP (B : Nat) (f g : Nat → Int32) : Prop := ∀ p, p < B → g p = f p
theorem KP.rf {B : Nat} {f : Nat → Int32} : KP B f f := fun _ _ => rfl
theorem KP.put {B k : Nat} {f g g' : Nat → Int32} {v : Int32} (h : KP B f g) (hk : B ≤ k) (e : upd g k v = g') : KP B f g' := fun p hp => by rw [← e, pk_un (by omega)]; exact h p hp
theorem KP.tr {B : Nat} {f g g' : Nat → Int32} (h : KP B f g) (h2 : KP B g g') : KP B f g' := fun p hp => (h2 p hp).trans (h p hp)
theorem KP.at {B p : Nat} {f g : Nat → Int32} (h : KP B f g) (hp : p < B) : cN g p = cN f p := by unfold cN; rw [h p hp]
theorem KP.up {B C : Nat} {f g : Nat → Int32} (h : KP B f g) (hc : C ≤ B) : KP C f g := fun p hp => h p (by omega)
/-- g is f with the first i of n places of page q taken from page p -/
def CPG (n p q i : Nat) (f g : Nat → Int32) : Prop := (∀ w, w < i → g (n * q + w) = f (n * p + w)) ∧ ∀ j, (j < n * q ∨ n * q + i ≤ j) → g j = f j
theorem CPG.nil {n p q : Nat} {f : Nat → Int32} : CPG n p q 0 f f := ⟨fun w h => absurd h (Nat.not_lt_zero _), fun _ _ => rfl⟩
theorem CPG.ext {n p q i : Nat} {f g g' : Nat → Int32} {x : Int32} (h : CPG n p q i f g) (hi : i < n) (ex : g (n * p + i) = x) (e : upd g (n * q + i) x = g') : CPG n p q (i + 1) f g' := by
  have hpq : n * p + i < n * q ∨ n * q + i ≤ n * p + i := by
    rcases Nat.lt_or_ge p q with c | c
    · left
      have := Nat.mul_le_mul_left n (show p + 1 ≤ q from c)
      rw [Nat.mul_add] at this; omega
    · right
      have := Nat.mul_le_mul_left n c
      omega
  have hx : x = f (n * p + i) := by rw [← ex]; exact h.2 _ hpq
  refine ⟨fun w hw => ?_, fun j hj => ?_⟩
  · by_cases hk : w = i
    · rw [hk, ← e, pk_us, hx]
    · rw [← e, pk_un (by omega)]; exact h.1 w (by omega)
  · rw [← e, pk_un (by omega)]; exact h.2 j (by omega)
theorem CPG.kp {n p q B : Nat} {f g : Nat → Int32} (h : CPG n p q n f g) (hB : B ≤ n * q) : KP B f g := fun j hj => h.2 j (Or.inl (by omega))
theorem cb_bit {x y : Int32} {k j : Nat} (hk : k < 32) (hj : j < 2) (e : x >>> (nI k &&& 31) = y) (ej : y &&& 1 = nI j) : cb (bt x) (k + 1) = cb (bt x) k + j := by
  rcases (show j = 0 ∨ j = 1 by omega) with rfl | rfl
  · rw [cb_f (hasb_0 hk e ej rfl)]; rfl
  · rw [cb_t (hasb_1 hk e ej rfl)]
/-- all of one row of bits are of the other -/
def SB (a b : Int32) : Prop := ∀ i, i < 32 → bt a i = true → bt b i = true
theorem SB.rf {a : Int32} : SB a a := fun _ _ h => h
theorem SB.zero {a : Int32} : SB 0 a := fun i _ h => by rw [b_0] at h; cases h
theorem SB.or {a b x c : Int32} (h : SB a b) (e : b ||| x = c) : SB a c := fun i hi hb => by rw [← e, b_or, h i hi hb]; rfl
theorem SB.lt {a b : Int32} (h : SB a b) (hne : ¬ a = b) : cb (bt a) 32 < cb (bt b) 32 := by
  refine cb_sub_lt 32 h ?_
  apply Classical.byContradiction
  intro hno
  apply hne
  apply b_ext
  intro i hi
  cases ha : bt a i with
  | true => rw [h i hi ha]
  | false =>
    cases hb : bt b i with
    | false => rfl
    | true => exact absurd ⟨i, hi, ha, hb⟩ hno
theorem SB.lt' {a b : Int32} (h : SB a b) (hne : b.toInt ≠ a.toInt) : cb (bt a) 32 < cb (bt b) 32 := h.lt (fun e => hne (by rw [e]))
/-- a byte of the tape -/
def byt (f : Nat → Int32) (t k : Nat) : Int32 := if k < t then f k else -4
theorem byt_1 {f : Nat → Int32} {t k : Nat} {x : Int32} (h : k < t) (e : f k = x) : x = byt f t k := by unfold byt; rw [if_pos h, e]
theorem byt_0 {f : Nat → Int32} {t k : Nat} (h : t ≤ k) : (-4 : Int32) = byt f t k := by unfold byt; rw [if_neg (by omega)]
theorem byt_lt {f : Nat → Int32} {t k : Nat} (h : (byt f t k).toInt ≠ -4) : k < t := by
  apply Classical.byContradiction
  intro hk
  apply h
  unfold byt
  rw [if_neg hk]; rfl
theorem dig {x : Int32} (h0 : 48 ≤ x.toInt) (h1 : x.toInt ≤ 57) : ∃ j : Nat, x - 48 = nI j ∧ j ≤ 9 ∧ (j : Int) = x.toInt - 48 := by
  have e := i_sub (x := x) (y := 48) rfl rfl (by have e48 : (48 : Int32).toInt = 48 := rfl; omega) (by have e48 : (48 : Int32).toInt = 48 := rfl; omega)
  have e48 : (48 : Int32).toInt = 48 := rfl
  obtain ⟨j, e1, e2⟩ := nI_ex (x := x - 48) (n := 9) (by omega) (by omega)
  refine ⟨j, e1, e2, ?_⟩
  rw [e1, nI_toInt (by omega)] at e
  omega
/-! the sayings of the reference -/
def wR (x : Int32) : Int := if x.toInt ≤ 4 then 0 else if x.toInt = 6 ∨ x.toInt = 7 then 2 else 1
def opr (o : Nat → Int32) : Nat → Int
  | 0 => 1
  | i + 1 => opr o i + wR (o i) - 1
theorem opr_s (o : Nat → Int32) (i : Nat) : opr o (i + 1) = opr o i + wR (o i) - 1 := rfl
theorem wR_in (x : Int32) : 0 ≤ wR x ∧ wR x ≤ 2 := by
  unfold wR; split
  · omega
  · split <;> omega
theorem wR_a0 {x : Int32} (h : x.toInt ≤ 4) : wR x = 0 := by unfold wR; rw [if_pos h]
theorem wR_a2 {x : Int32} (h : x.toInt = 6 ∨ x.toInt = 7) : wR x = 2 := by unfold wR; rw [if_neg (by omega), if_pos h]
theorem wR_a1 {x : Int32} (h : 4 < x.toInt ∧ x.toInt ≠ 6 ∧ x.toInt ≠ 7) : wR x = 1 := by unfold wR; rw [if_neg (by omega), if_neg (by omega)]
def OPR (n : Nat) (o : Nat → Int32) : Prop := (∀ i, i < n → 0 ≤ (o i).toInt ∧ (o i).toInt ≤ 12) ∧ ∀ i, i < n → 1 ≤ opr o i
def WR (n : Nat) (o : Nat → Int32) : Prop := n ≤ 32 ∧ OPR n o ∧ (n = 0 ∨ opr o n = 0)
theorem opr_le {n : Nat} {o : Nat → Int32} (h : WR n o) {i : Nat} (hi : i ≤ n) (hn : 0 < n) : opr o i ≤ (n : Int) - i := by
  obtain ⟨d, rfl⟩ : ∃ d, n = i + d := ⟨n - i, by omega⟩
  have key : ∀ d : Nat, opr o i ≤ opr o (i + d) + d := by
    intro d
    induction d with
    | zero => simp
    | succ d ih =>
      have h1 := opr_s o (i + d)
      have h2 := wR_in (o (i + d))
      show opr o i ≤ opr o (i + d + 1) + ((d + 1 : Nat) : Int)
      omega
  have h2 := key d
  have h3 := h.2.2
  omega
theorem OPR.nil {o : Nat → Int32} : OPR 0 o := ⟨fun i h => absurd h (by omega), fun i h => absurd h (by omega)⟩
theorem opr_congr {o p : Nat → Int32} : ∀ n : Nat, (∀ i, i < n → p i = o i) → opr p n = opr o n
  | 0, _ => rfl
  | n + 1, h => by rw [opr_s, opr_s, opr_congr n (fun i hi => h i (by omega)), h n (by omega)]
theorem OPR.congr {n : Nat} {o p : Nat → Int32} (h : OPR n o) (hp : ∀ i, i < n → p i = o i) : OPR n p := ⟨fun i hi => by rw [hp i hi]; exact h.1 i hi, fun i hi => by rw [opr_congr i (fun j hj => hp j (by omega))]; exact h.2 i hi⟩
theorem OPR.ext {n : Nat} {o p : Nat → Int32} {x : Int32} (h : OPR n o) (hp : ∀ i, i < n → p i = o i) (hn : p n = x) (h0 : 0 ≤ x.toInt) (h8 : x.toInt ≤ 12) (ho : 1 ≤ opr o n) : OPR (n + 1) p ∧ opr p (n + 1) = opr o n + wR x - 1 := by
  have hc : ∀ i, i ≤ n → opr p i = opr o i := fun i hi => opr_congr i (fun j hj => hp j (by omega))
  refine ⟨⟨fun i hi => ?_, fun i hi => ?_⟩, ?_⟩
  · by_cases q : i = n
    · rw [q, hn]; exact ⟨h0, h8⟩
    · rw [hp i (by omega)]; exact h.1 i (by omega)
  · rw [hc i (by omega)]
    by_cases q : i = n
    · rw [q]; exact ho
    · exact h.2 i (by omega)
  · rw [opr_s, hc n (by omega), hn]
theorem WR.congr {n : Nat} {o p : Nat → Int32} (h : WR n o) (hp : ∀ i, i < n → p i = o i) : WR n p := ⟨h.1, h.2.1.congr hp, by rw [opr_congr n hp]; exact h.2.2⟩
theorem WR.zero {o : Nat → Int32} : WR 0 o := ⟨by omega, OPR.nil, Or.inl rfl⟩
/-- the acts of slot s -/
def slot (fo : Nat → Int32) (s : Nat) : Nat → Int32 := fun i => fo (32 * s + i)
def SV (fo fm : Nat → Int32) : Prop := ∀ s, s < 24 → WR (cN fm s) (slot fo s)
theorem SV.zero {fo : Nat → Int32} : SV fo (fun _ => 0) := fun s _ => by
  have e : cN (fun _ => (0 : Int32)) s = 0 := rfl
  rw [e]; exact WR.zero
/-- slot 24 alone has changed -/
theorem SV.keep {fo fm fo' fm' : Nat → Int32} (h : SV fo fm) (h1 : KP 768 fo fo') (h2 : KP 24 fm fm') : SV fo' fm' := fun s hs => by
  rw [h2.at hs]
  have hw := h s hs
  exact hw.congr (fun i hi => by have := hw.1; exact h1 _ (by omega))
theorem SV.copy {fo fm fo' fm' : Nat → Int32} {p q : Nat} (h : SV fo fm) (hp : WR (cN fm p) (slot fo p)) (hb : cN fm p ≤ 32) (hc : CPG 32 p q 32 fo fo') (e : upd fm q (nI (cN fm p)) = fm') : SV fo' fm' := fun s hs => by
  by_cases hk : s = q
  · subst hk
    rw [cN_s (by omega) e]
    exact hp.congr (fun i hi => hc.1 i (by omega))
  · rw [cN_n e hk]
    have hw := h s hs
    refine hw.congr (fun i hi => ?_)
    have := hw.1
    exact hc.2 _ (by omega)
/-- the names' ends -/
def endsL : List Nat := [0, 1, 2, 3, 4, 7, 10, 13, 15, 19, 26, 31, 37, 45, 50]
def endsN (n : Nat) : Nat := endsL.getD n 0
def EN (f : Nat → Int32) : Prop := ∀ n, n < 15 → f n = nI (endsN n)
theorem ends_m : ∀ n, n < 14 → endsN n ≤ endsN (n + 1) ∧ endsN (n + 1) ≤ 50 := by decide +kernel
theorem ends_le : ∀ n, n < 15 → endsN n ≤ 50 := by decide +kernel
/-! the text, as the reference reads it -/
theorem byt_in {f : Nat → Int32} {t k : Nat} {lo hi : Int} (h0 : 0 ≤ lo) (h1 : hi ≤ 127) : (lo ≤ (byt f t k).toInt ∧ (byt f t k).toInt ≤ hi) ↔ (lo ≤ cz f t k ∧ cz f t k ≤ hi) := by
  by_cases q : k < t
  · rw [cz_in q h0 h1]; unfold byt; rw [if_pos q]
  · rw [cz_0 (by omega)]; unfold byt; rw [if_neg q]
    have e : (-4 : Int32).toInt = -4 := rfl
    omega
def RGY (c : Nat → Int) (fr j : Nat) (lo hi : Int) : Prop := ∀ k, fr ≤ k → k < j → lo ≤ c k ∧ c k ≤ hi
theorem RGY.nil {c : Nat → Int} {fr : Nat} {lo hi : Int} : RGY c fr fr lo hi := fun k a b => absurd a (by omega)
theorem RGY.ext {f : Nat → Int32} {t fr j : Nat} {lo hi : Int} (h : RGY (cz f t) fr j lo hi) (h0 : 0 ≤ lo) (h1 : hi ≤ 127) (hb : lo ≤ (byt f t j).toInt ∧ (byt f t j).toInt ≤ hi) : RGY (cz f t) fr (j + 1) lo hi := by
  intro k a b
  by_cases q : k = j
  · rw [q]; exact (byt_in h0 h1).mp hb
  · exact h k a (by omega)
theorem bh_y {f : Nat → Int32} {t fr j : Nat} {lo hi : Int} (h : RGY (cz f t) fr j lo hi) (a : fr ≤ j) (b : j ≤ 160) (h0 : 0 ≤ lo) (h1 : hi ≤ 127) (hs : ¬ (lo ≤ (byt f t j).toInt ∧ (byt f t j).toInt ≤ hi)) : bh (cz f t) lo hi fr = j := bh_u a b h (fun q => hs ((byt_in h0 h1).mpr q))
theorem cy_end {f : Nat → Int32} {t k : Nat} (hk : (byt f t k).toInt = -4) (hn : NB 160 255 f) (ht : t ≤ 160) : cz f t k < 0 := by
  by_cases q : k < t
  · unfold byt at hk
    rw [if_pos q, (hn k (by omega)).1, nI_toInt (by have := (hn k (by omega)).2; omega)] at hk
    omega
  · rw [cz_0 (by omega)]; decide
theorem cy_nn {f : Nat → Int32} {t k : Nat} (hk : (byt f t k).toInt ≠ -4) : 0 ≤ cz f t k := cz_nn (byt_lt hk)
theorem cy_eq {f : Nat → Int32} {t k : Nat} {lo hi : Int} (h0 : 0 ≤ lo) (h1 : hi ≤ 127) (hb : lo ≤ (byt f t k).toInt ∧ (byt f t k).toInt ≤ hi) : cz f t k = (byt f t k).toInt := by
  have h2 := (byt_in h0 h1).mp hb
  have h3 : k < t := cz_lt (f := f) (by omega)
  rw [cz_1 h3] at *
  rw [nz_eq h0 h1 h2]
  unfold byt; rw [if_pos h3]
/-! eight bytes come -/
def rexp (v : Int64) (i : Nat) : Int32 := (v >>> ((nI (56 - 8 * i)).toInt64 &&& 63)).toInt32 &&& 255
def RYW (f g : Nat → Int32) (t i : Nat) (v : Int64) : Prop := (∀ k, k < t → g k = f k) ∧ ∀ j, j < i → g (t + j) = rexp v j
theorem RYW.nil {f : Nat → Int32} {t : Nat} {v : Int64} : RYW f f t 0 v := ⟨fun _ _ => rfl, fun j h => absurd h (by omega)⟩
theorem RYW.ext {f g g' : Nat → Int32} {t i i' m tp b : Nat} {v l : Int64} {x : Int32} (h : RYW f g t i v) (e1 : v >>> ((nI m).toInt64 &&& 63) = l) (e2 : l.toInt32 = x) (e3 : x &&& 255 = nI b) (e : upd g tp (nI b) = g') (hm : m = 56 - 8 * i) (ht : tp = t + i) (hi : i' = i + 1) : RYW f g' t i' v := by
  subst hm; subst ht; subst hi; subst e1; subst e2
  refine ⟨fun k hk => ?_, fun j hj => ?_⟩
  · rw [← e, pk_un (by omega)]; exact h.1 k hk
  · by_cases q : j = i
    · rw [q, ← e, pk_us, ← e3]; rfl
    · rw [← e, pk_un (by omega)]; exact h.2 j (by omega)
/-! the names -/
theorem wd_ends : ∀ n, n < 14 → wdL n = endsN (n + 1) - endsN n ∧ wdL n ≤ 8 := by decide +kernel
theorem wd_r : ∀ n, n < 14 → ∀ k, k < wdL n → 97 ≤ wdB n k ∧ wdB n k ≤ 122 := by
  have h : ∀ n, n < 14 → ∀ k, k < 8 → k < wdL n → 97 ≤ wdB n k ∧ wdB n k ≤ 122 := by decide +kernel
  intro n hn k hk
  exact h n hn k (Nat.lt_of_lt_of_le hk (wd_ends n hn).2) hk
def LTR (fl : Nat → Int32) : Prop := ∀ n, n < 14 → ∀ k, k < wdL n → (fl (endsN n + k)).toInt = wdB n k
theorem nm_ext {f fl : Nat → Int32} {t pl n k : Nat} {x : Int32} (hl : LTR fl) (hm : ∀ j, j < k → cz f t (pl + j) = wdB n j) (hn : n < 14) (hk : k < wdL n) (ex : fl (endsN n + k) = x) (hz : (byt f t (pl + k)).toInt = x.toInt) : ∀ j, j < k + 1 → cz f t (pl + j) = wdB n j := by
  intro j hj
  by_cases q : j = k
  · subst q
    have h1 := hl n hn j hk
    have h2 := wd_r n hn j hk
    rw [ex] at h1
    rw [cy_eq (lo := 97) (hi := 122) (by decide) (by decide) (by omega)]
    omega
  · exact hm j (by omega)
theorem nm_no {f fl : Nat → Int32} {t pl tk sp n k : Nat} {x : Int32} (hl : LTR fl) (hn : n < 14) (hk : k < wdL n) (ex : fl (endsN n + k) = x) (hz : (byt f t (pl + k)).toInt ≠ x.toInt) : ¬ IN (cz f t) pl tk sp n := by
  intro h
  have h1 := hl n hn k hk
  have h2 := wd_r n hn k hk
  have h3 := h.2.2 k hk
  rw [ex] at h1
  have h4 := (byt_in (f := f) (t := t) (k := pl + k) (lo := 97) (hi := 122) (by decide) (by decide)).mpr (by omega)
  have h5 := cy_eq (f := f) (t := t) (k := pl + k) (lo := 97) (hi := 122) (by decide) (by decide) h4
  omega
theorem and4 : ∀ a, a < 16 → ∀ k, k < 4 → ((nI a &&& nI (2 ^ k)).toInt = 0 ↔ a.testBit k = false) := by decide +kernel
theorem sz4 : ∀ g, g < 16 → cb (bt (nI g)) 24 = cb g.testBit 32 := by decide +kernel
/-- of every event: the real case is one of its cases, or 0 -/
def HP (fc fh : Nat → Int32) : Prop := ∀ p, p < 4 → cN fh p < cN fc p ∨ cN fh p = 0
theorem HP.put {fm fr fm' fr' : Nat → Int32} {k a b : Nat} (h : HP fm fr) (e1 : upd fm k (nI a) = fm') (e2 : upd fr k (nI b) = fr') (ha : a < 2 ^ 31) (hb : b < 2 ^ 31) (hab : b < a ∨ b = 0) : HP fm' fr' := by
  intro p hp
  by_cases hk : p = k
  · rw [hk, cN_s ha e1, cN_s hb e2]; exact hab
  · rw [cN_n e1 hk, cN_n e2 hk]; exact h p hp
theorem HP.put2 {fm fr fr' : Nat → Int32} {k b : Nat} (h : HP fm fr) (e2 : upd fr k (nI b) = fr') (hb : b < 2 ^ 31) (hab : b < cN fm k ∨ b = 0) : HP fm fr' := by
  intro p hp
  by_cases hk : p = k
  · rw [hk, cN_s hb e2]; exact hab
  · rw [cN_n e2 hk]; exact h p hp
theorem HP.zero : HP (fun _ => 0) (fun _ => 0) := fun p _ => Or.inr rfl
theorem PG.put2 {fm fr fr' : Nat → Int32} {k b : Nat} (h : PG fm fr) (e2 : upd fr k (nI b) = fr') (hb : b < 2 ^ 31) (hab : b < cN fm k ∨ b = 0) : PG fm fr' := by
  intro p hp
  by_cases hk : p = k
  · rw [hk, cN_s hb e2]; exact hab
  · rw [cN_n e2 hk]; exact h p hp
theorem act_step {go gm go' gm' : Nat → Int32} {ac : Nat} {x : Int32} (h : OPR (cN gm 24) (slot go 24)) (ho : 1 ≤ opr (slot go 24) (cN gm 24)) (hm : cN gm 24 < 32) (em : upd gm 24 (nI (cN gm 24 + 1)) = gm') (ea : upd go (768 + cN gm 24) (nI ac) = go') (hac : ac ≤ 12) (ex : go' (768 + cN gm' 24 - 1) = x) : OPR (cN gm' 24) (slot go' 24) ∧ opr (slot go' 24) (cN gm' 24) = opr (slot go 24) (cN gm 24) + wR x - 1 ∧ cN gm' 24 = cN gm 24 + 1 ∧ x.toInt = (ac : Int) := by
  have e1 : cN gm' 24 = cN gm 24 + 1 := cN_s (by omega) em
  rw [e1] at ex
  have hx : x = nI ac := by rw [← ex, ← ea, show 768 + (cN gm 24 + 1) - 1 = 768 + cN gm 24 by omega, pk_us]
  have hi := nI_toInt (n := ac) (by omega)
  have key := OPR.ext (p := slot go' 24) (x := x) h (fun i hi => by unfold slot; rw [← ea, pk_un (by omega)]) (by unfold slot; rw [← ex]; congr 1) (by rw [hx, hi]; omega) (by rw [hx, hi]; omega) ho
  rw [e1]
  exact ⟨key.1, key.2, rfl, by rw [hx, hi]⟩
/-! pairs of worlds and cases -/
def OKP (pr : Nat → Int32) (pg w i many : Nat) : Prop := pr (96 * pg + 4 * w + i) = -4 ∨ ∃ j : Nat, (j < many ∨ j = 0) ∧ pr (96 * pg + 4 * w + i) = nI j
def PR0 (pr : Nat → Int32) (pg n i1 w1 : Nat) : Prop := ∀ w i, w < n → i < 4 → (i < i1 ∨ (i = i1 ∧ w < w1)) → OKP pr pg w i 0
theorem PR0.nil {pr : Nat → Int32} {pg n : Nat} : PR0 pr pg n 0 0 := fun w i _ _ h => absurd h (by omega)
theorem PR0.ext {pr pr' : Nat → Int32} {pg n i1 w1 : Nat} {x : Int32} (h : PR0 pr pg n i1 w1) (hi : i1 < 4) (hx : x = -4 ∨ x = 0) (e : upd pr (96 * pg + 4 * w1 + i1) x = pr') : PR0 pr' pg n i1 (w1 + 1) := by
  intro w i hw hi4 hc
  unfold OKP
  by_cases hk : w = w1 ∧ i = i1
  · obtain ⟨rfl, rfl⟩ := hk
    rw [← e, pk_us]
    rcases hx with rfl | rfl
    · exact Or.inl rfl
    · exact Or.inr ⟨0, Or.inr rfl, rfl⟩
  · rw [← e, pk_un (by omega)]
    exact h w i hw hi4 (by omega)
theorem PR0.up {pr : Nat → Int32} {pg n i1 : Nat} (h : PR0 pr pg n i1 n) : PR0 pr pg n (i1 + 1) 0 := fun w i hw hi hc => h w i hw hi (by omega)
def PRB (pr : Nat → Int32) (pg n c many : Nat) : Prop := ∀ w i, w < n → i < c → OKP pr pg w i many
theorem PR0.b {pr : Nat → Int32} {pg n c : Nat} (h : PR0 pr pg n c 0) (hc : c ≤ 4) : PRB pr pg n c 0 := fun w i hw hi => h w i hw (by omega) (Or.inl hi)
theorem PRB.put {pr pr' : Nat → Int32} {pg n c m w1 i1 : Nat} (h : PRB pr pg n c m) (hc : c ≤ 4) (hi1 : i1 < c) (e : upd pr (96 * pg + 4 * w1 + i1) (nI m) = pr') : PRB pr' pg n c (m + 1) := by
  intro w i hw hi
  unfold OKP
  by_cases hk : w = w1 ∧ i = i1
  · obtain ⟨rfl, rfl⟩ := hk
    rw [← e, pk_us]
    exact Or.inr ⟨m, Or.inl (by omega), rfl⟩
  · rw [← e, pk_un (by omega)]
    rcases h w i hw hi with q | ⟨j, hj, q⟩
    · exact Or.inl q
    · exact Or.inr ⟨j, by omega, q⟩
/-! the afters and the saying, as the reference reads them -/
theorem TK.self {c : Nat → Int} {p : Nat} : TK c p (sS c p) (sK c p) (sE c p) := ⟨rfl, rfl, rfl⟩
def AO (n : Nat) (g : Nat → Int32) (v w : Nat) : Prop := (0 < n → g 16 = nI v) ∧ (1 < n → g 17 = nI w)
theorem AO.nil {n : Nat} {g : Nat → Int32} {v w : Nat} (h : n = 0) : AO n g v w := ⟨fun q => absurd q (by omega), fun q => absurd q (by omega)⟩
theorem AO.ext {n n' x : Nat} {g g' : Nat → Int32} {v w : Nat} (h : AO n g v w) (hn : n < 2) (e : upd g (16 + n) (nI x) = g') (hn' : n' = n + 1) : AO n' g' (if n = 0 then x else v) (if n = 0 then w else x) := by
  subst hn'
  rcases (show n = 0 ∨ n = 1 by omega) with rfl | rfl
  · exact ⟨fun _ => by rw [if_pos rfl, ← e, pk_us], fun q => absurd q (by omega)⟩
  · refine ⟨fun _ => ?_, fun _ => ?_⟩
    · rw [if_neg (by decide), ← e, pk_un (by decide)]; exact h.1 (by decide)
    · rw [if_neg (by decide), ← e, pk_us]
section AH
variable {c : Nat → Int} {F n p v w s k e s1 k1 e1 s2 k2 e2 : Nat}
theorem ah_stop (hn : n ≤ 2) (h0 : TK c p s k e) (hi : aT c s k e ≠ 13) : afC c (3 - n) p n v w = .inr (p, n, v, w) := by
  rw [show 3 - n = 2 - n + 1 by omega]; exact af_no (by rw [aF_eq h0]; exact hi)
theorem ah_b1 (hn : n = 2) (h0 : TK c p s k e) (hi : aT c s k e = 13) : afC c (3 - n) p n v w = .inl s := by
  rw [show 3 - n = 2 - n + 1 by omega, af_full (by rw [aF_eq h0]; exact hi) (by omega), h0.1]
theorem ah_b2 (hn : n < 2) (h0 : TK c p s k e) (hi : aT c s k e = 13) (h1 : TK c e s1 k1 e1) (hk : k1 ≠ 2 ∨ 51 < c s1) : afC c (3 - n) p n v w = .inl s1 := by
  obtain ⟨a1, a2, a3⟩ := id h0
  obtain ⟨b1, b2, b3⟩ := h1
  rw [a3] at b1 b2
  rw [show 3 - n = 2 - n + 1 by omega, af_1 (by rw [aF_eq h0]; exact hi) hn (by rw [← b1, ← b2]; exact hk), b1]
theorem ah_b3 (hn : n < 2) (h0 : TK c p s k e) (hi : aT c s k e = 13) (h1 : TK c e s1 k1 e1) (hk : k1 = 2) (hc : c s1 ≤ 51) (h2 : sK c e1 = 3) : afC c (3 - n) p n v w = .inl (sS c e1) := by
  obtain ⟨a1, a2, a3⟩ := id h0
  obtain ⟨b1, b2, b3⟩ := h1
  rw [a3] at b1 b2 b3
  rw [show 3 - n = 2 - n + 1 by omega, af_2 (by rw [aF_eq h0]; exact hi) hn (by rw [← b2]; exact hk) (by rw [← b1]; exact hc) (by rw [← b3]; exact h2), b3]
theorem ah_go {n' x : Nat} (hn : n < 2) (hn' : n' = n + 1) (h0 : TK c p s k e) (hi : aT c s k e = 13) (h1 : TK c e s1 k1 e1) (hk : k1 = 2) (hx : (x : Int) = c s1 - 48) (hx3 : x ≤ 3) (h2 : TK c e1 s2 k2 e2) (hk2 : k2 ≠ 3) : afC c (3 - n) p n v w = afC c (3 - n') e1 n' (if n = 0 then x else v) (if n = 0 then w else x) := by
  obtain ⟨a1, a2, a3⟩ := id h0
  obtain ⟨b1, b2, b3⟩ := h1
  obtain ⟨d1, d2, d3⟩ := h2
  rw [a3] at b1 b2 b3
  have ex : (c s1 - 48).toNat = x := by omega
  rw [show 3 - n = 2 - n + 1 by omega, af_3 (by rw [aF_eq h0]; exact hi) hn (by rw [← b2]; exact hk) (by rw [← b1]; omega) (by rw [← b3, ← d2]; exact hk2), ← b3, ← b1, ex, hn', show 2 - n = 3 - (n + 1) by omega]
end AH
/-- the names read so far, in the reference's rows -/
def OPY (c : Nat → Int) (p n : Nat) (ga gw : Nat → Int32) : Prop := ∀ i, i < n → ga (768 + i) = nI (aI c p i) ∧ gw (768 + i) = nI (gI c p i) ∧ aI c p i < 13 ∧ gI c p i < 16
theorem OPY.nil {c : Nat → Int} {p n : Nat} {ga gw : Nat → Int32} (h : n = 0) : OPY c p n ga gw := fun i q => absurd q (by omega)
theorem OPY.ext {c : Nat → Int} {p n n' a x : Nat} {ga gw ga' gw' : Nat → Int32} (h : OPY c p n ga gw) (e1 : upd ga (768 + n) (nI a) = ga') (e2 : upd gw (768 + n) (nI x) = gw') (hn : n' = n + 1) (ha : aI c p n = a) (hg : gI c p n = x) (ha2 : a ≤ 12) (hg2 : x < 16) : OPY c p n' ga' gw' := by
  subst hn
  intro i hi
  by_cases q : i = n
  · rw [q, ← e1, ← e2, pk_us, pk_us, ha, hg]; exact ⟨rfl, rfl, by omega, hg2⟩
  · rw [← e1, ← e2, pk_un (by omega), pk_un (by omega)]; exact h i (by omega)
theorem gI_r {c : Nat → Int} {p i q n o s k e a x : Nat} (h : it c p i = .inr (q, n, o)) (h0 : TK c q s k e) (ha : aT c s k e = a) (hx : (a < 8 → x = 0) ∧ (8 ≤ a → x = gA a (gF c (sE c q))) ∧ x < 16) : gI c p i = x := by
  rw [gI_at h, aF_eq h0, ha]
  by_cases q9 : a < 8
  · rw [if_pos q9, hx.1 q9]
  · rw [if_neg q9, hx.2.1 (by omega)]
theorem wt_0 {a : Nat} (h : a ≤ 4) : wt a = 0 := by unfold wt; rw [if_pos h]
theorem wt_2 {a : Nat} (h : a = 6 ∨ a = 7) : wt a = 2 := by unfold wt; rw [if_neg (by omega), if_pos h]
theorem wt_1 {a : Nat} (h : 4 < a ∧ a ≠ 6 ∧ a ≠ 7) : wt a = 1 := by unfold wt; rw [if_neg (by omega), if_neg (by omega)]
/-- slot k is told anew from slot 24, the others stay -/
theorem KP.cpg {k j : Nat} {f g h : Nat → Int32} (h1 : KP 768 f g) (hc : CPG 32 24 k 32 g h) (hk : k < 24) (hj : j < 768) (hn : j < 32 * k ∨ 32 * k + 32 ≤ j) : h j = f j := by
  rw [hc.2 j hn]; exact h1 j hj
/-! events and sayings of the reference -/
def tRr (tk af : Nat → Int32) : Nat → Option Nat := fun k => if 0 < (tk k).toInt then some (cN af k) else none
theorem PLN.rmk {tk af : Nat → Int32} {j : Nat} (hj : j ≤ 7) (h : 0 < (tk (nI j).toNatClampNeg).toInt) (h0 : cN af j = 0) : PLN (tRr tk af) (nI j) := by
  refine ⟨by rw [nI_toInt (by omega)]; omega, by rw [nI_toInt (by omega)]; omega, ?_⟩
  unfold tRr
  rw [if_pos h, nI_clamp (by omega), h0]
theorem PLN.rno {tk af : Nat → Int32} {k : Int32} (h : k.toInt < 0 ∨ 7 < k.toInt ∨ (tk k.toNatClampNeg).toInt ≤ 0) : ¬ PLN (tRr tk af) k := by
  rintro ⟨h1, h2, q⟩
  unfold tRr at q
  rw [if_neg (by omega)] at q
  cases q
theorem PLN.rno3 {tk af : Nat → Int32} {j : Nat} (hj : j ≤ 7) (h0 : cN af j ≠ 0) : ¬ PLN (tRr tk af) (nI j) := by
  rintro ⟨h1, h2, q⟩
  unfold tRr at q
  rw [nI_clamp (by omega)] at q
  split at q
  · exact h0 (Option.some.inj q)
  · cases q
/-- what each holds of event e is taken away: cases below i, and case i of knowers below k -/
def HZ (e i k : Nat) (f g : Nat → Int32) : Prop := (∀ c, c < 16 → (c % 4 < i ∨ (c % 4 = i ∧ c / 4 < k)) → g (16 * e + c) = 0) ∧ ∀ j, (j < 16 * e ∨ 16 * e + 16 ≤ j) → g j = f j
theorem HZ.nil {e : Nat} {f : Nat → Int32} : HZ e 0 0 f f := ⟨fun c _ h => absurd h (by omega), fun _ _ => rfl⟩
theorem HZ.ext {e i k : Nat} {f g g' : Nat → Int32} (h : HZ e i k f g) (hi : i < 4) (hk : k < 4) (x : upd g (16 * e + 4 * k + i) 0 = g') : HZ e i (k + 1) f g' := by
  refine ⟨fun c hc hq => ?_, fun j hj => ?_⟩
  · by_cases q : 16 * e + c = 16 * e + 4 * k + i
    · rw [q, ← x, pk_us]
    · rw [← x, pk_un q]; exact h.1 c hc (by omega)
  · rw [← x, pk_un (by omega)]; exact h.2 j hj
theorem HZ.up {e i : Nat} {f g : Nat → Int32} (h : HZ e i 4 f g) : HZ e (i + 1) 0 f g := ⟨fun c hc hq => h.1 c hc (by omega), h.2⟩
/-- a word: who holds what, the first i knowers -/
def WX (e d : Nat) (gr : Int32) (i : Nat) (f g : Nat → Int32) : Prop := (∀ c, c < 16 → g (16 * e + c) = if c / 4 < i then (if c % 4 = 0 then (if d = 0 ∨ bt gr (c / 4) = true then 1 else 2) else if c % 4 = 1 then (if d = 0 then 0 else 2) else 0) else 0) ∧ ∀ j, (j < 16 * e ∨ 16 * e + 16 ≤ j) → g j = f j
theorem WX.nil {e d : Nat} {gr : Int32} {f g : Nat → Int32} (h : HZ e 4 0 f g) : WX e d gr 0 f g := ⟨fun c hc => by rw [h.1 c hc (by omega), if_neg (by omega)], h.2⟩
theorem WX.ext {e d i : Nat} {gr a b : Int32} {f g g' g'' : Nat → Int32} (h : WX e d gr i f g) (hi : i < 4) (ha : a = if d = 0 ∨ bt gr i = true then 1 else 2) (hb : b = if d = 0 then 0 else 2) (x : upd g (16 * e + 4 * i) a = g') (y : upd g' (16 * e + 4 * i + 1) b = g'') : WX e d gr (i + 1) f g'' := by
  refine ⟨fun c hc => ?_, fun j hj => ?_⟩
  · by_cases q1 : 16 * e + c = 16 * e + 4 * i + 1
    · rw [q1, ← y, pk_us, if_pos (show c / 4 < i + 1 by omega), if_neg (show ¬ c % 4 = 0 by omega), if_pos (show c % 4 = 1 by omega)]; exact hb
    · rw [← y, pk_un q1]
      by_cases q : 16 * e + c = 16 * e + 4 * i
      · rw [q, ← x, pk_us, if_pos (show c / 4 < i + 1 by omega), if_pos (show c % 4 = 0 by omega), show c / 4 = i by omega]; exact ha
      · rw [← x, pk_un q, h.1 c hc]
        by_cases q2 : c / 4 < i
        · rw [if_pos q2, if_pos (show c / 4 < i + 1 by omega)]
        · rw [if_neg q2]
          by_cases q3 : c / 4 < i + 1
          · rw [if_pos q3, if_neg (show ¬ c % 4 = 0 by omega), if_neg (show ¬ c % 4 = 1 by omega)]
          · rw [if_neg q3]
  · rw [← y, pk_un (by omega), ← x, pk_un (by omega)]; exact h.2 j hj
/-! the reference's pages, by value -/
abbrev sh (b : Nat) (f : Nat → Int32) : Nat → Int32 := fun w => f (b + w)
theorem sh_upd {f g : Nat → Int32} {b t : Nat} {x : Int32} (e : upd f (b + t) x = g) : upd (sh b f) t x = sh b g := by
  subst e
  funext w
  show upd (fun w => f (b + w)) t x w = upd f (b + t) x (b + w)
  by_cases q : w = t
  · rw [q, pk_us, pk_us]
  · rw [pk_un q, pk_un (by omega)]
theorem sh_upg {f g : Nat → Int32} {b k t : Nat} {x : Int32} (e : upd f (b + 24 * k + t) x = g) : upd (sh b f) (k * 24 + t) x = sh b g :=
  sh_upd (by rw [show b + (k * 24 + t) = b + 24 * k + t by omega]; exact e)
def pgs (fm fr ff fp : Nat → Int32) (p : Nat) : AM := am (cN fm p) (cN fr p) (sh (24 * p) ff) (sh (96 * p) fp)
theorem pg_S {fm fr ff fp : Nat → Int32} {p k w v : Nat} (hk : k < 4) (hw : w < cN fm p) : (pgs fm fr ff fp p).2.2.2 k w v = bt (fp (96 * p + 24 * k + w)) v := by
  have h1 : (pgs fm fr ff fp p).2.2.2 k w v = bt (fp (96 * p + (k * 24 + w))) v := am_S hk hw
  rw [h1, show 96 * p + (k * 24 + w) = 96 * p + 24 * k + w by omega]
theorem pg_F {fm fr ff fp : Nat → Int32} {p w : Nat} (hw : w < cN fm p) : (pgs fm fr ff fp p).2.2.1 w = ff (24 * p + w) := am_F hw
theorem pgs_0 {fm fr ff fp : Nat → Int32} : pgs fm fr ff fp 0 = am (cN fm 0) (cN fr 0) ff fp := by
  unfold pgs
  exact am_eq (fun w _ => by show ff (24 * 0 + w) = ff w; rw [Nat.mul_zero, Nat.zero_add]) (fun k w _ _ => by show fp (96 * 0 + (k * 24 + w)) = fp (k * 24 + w); rw [Nat.mul_zero, Nat.zero_add])
/-- all but page q stay, of n places a page -/
def OFF (n q : Nat) (f g : Nat → Int32) : Prop := ∀ j, (j < n * q ∨ n * q + n ≤ j) → g j = f j
theorem OFF.rf {n q : Nat} {f : Nat → Int32} : OFF n q f f := fun _ _ => rfl
theorem OFF.put {n q k : Nat} {f g g' : Nat → Int32} {v : Int32} (h : OFF n q f g) (h1 : n * q ≤ k) (h2 : k < n * q + n) (e : upd g k v = g') : OFF n q f g' := fun j hj => by
  rw [← e, pk_un (by omega)]; exact h j hj
theorem OFF.cpg {n p q : Nat} {f g : Nat → Int32} (h : CPG n p q n f g) : OFF n q f g := h.2
theorem OFF.tr {n q : Nat} {f g g' : Nat → Int32} (h : OFF n q f g) (h2 : OFF n q g g') : OFF n q f g' := fun j hj => (h2 j hj).trans (h j hj)
/-- all pages but q are as they were -/
def OTH (q : Nat) (PG PG' : Nat → AM) : Prop := ∀ p, p < 18 → p ≠ q → PG' p = PG p
theorem OTH.rf {q : Nat} {PG : Nat → AM} : OTH q PG PG := fun _ _ _ => rfl
theorem OTH.tr {q : Nat} {PG PG1 PG2 : Nat → AM} (h : OTH q PG PG1) (h2 : OTH q PG1 PG2) : OTH q PG PG2 := fun p a b => (h2 p a b).trans (h p a b)
theorem pgs_oth {fm fr ff fp fm' fr' ff' fp' : Nat → Int32} {q : Nat} (hb : NB 18 24 fm) (h1 : OFF 1 q fm fm') (h2 : OFF 1 q fr fr') (h3 : OFF 24 q ff ff') (h4 : OFF 96 q fp fp') : OTH q (pgs fm fr ff fp) (pgs fm' fr' ff' fp') := by
  intro j hj hq
  unfold pgs
  have hn := (hb j hj).2
  have e1 : cN fm' j = cN fm j := by unfold cN; rw [h1 j (by omega)]
  have e2 : cN fr' j = cN fr j := by unfold cN; rw [h2 j (by omega)]
  rw [e1, e2]
  exact am_eq (fun w hw => h3 (24 * j + w) (by omega)) (fun k w hk hw => h4 (96 * j + (k * 24 + w)) (by omega))
theorem pgs_copy {fm fr ff fp fm' fr' ff' fp' : Nat → Int32} {p q : Nat} (hb : NB 18 24 fm) (hc : NB 18 23 fr) (hp : p < 18) (h1 : upd fm q (nI (cN fm p)) = fm') (h2 : upd fr q (nI (cN fr p)) = fr') (h3 : CPG 24 p q 24 ff ff') (h4 : CPG 96 p q 96 fp fp') : ∀ j, j < 18 → pgs fm' fr' ff' fp' j = if j = q then pgs fm fr ff fp p else pgs fm fr ff fp j := by
  intro j hj
  by_cases hq : j = q
  · subst hq
    rw [if_pos rfl]
    have hn := (hb p hp).2
    have hr := (hc p hp).2
    unfold pgs
    rw [cN_s (by omega) h1, cN_s (by omega) h2]
    exact am_eq (fun w hw => h3.1 w (by omega)) (fun k w hk hw => h4.1 (k * 24 + w) (by omega))
  · rw [if_neg hq]
    exact pgs_oth hb (OFF.put OFF.rf (by omega) (by omega) h1) (OFF.put OFF.rf (by omega) (by omega) h2) (OFF.cpg h3) (OFF.cpg h4) j hj hq
/-- every page is well made -/
def WFP (PG : Nat → AM) : Prop := ∀ p, p < 18 → WFm (PG p)
theorem WFP.copy {PG PG' : Nat → AM} {p q : Nat} (h : WFP PG) (hp : p < 18) (e : ∀ j, j < 18 → PG' j = if j = q then PG p else PG j) : WFP PG' := fun j hj => by
  rw [e j hj]
  by_cases z : j = q
  · rw [if_pos z]; exact h p hp
  · rw [if_neg z]; exact h j hj
theorem WFP.at {PG PG' : Nat → AM} {q : Nat} (h : WFP PG) (ho : OTH q PG PG') (hq : WFm (PG' q)) : WFP PG' := fun j hj => by
  by_cases z : j = q
  · rw [z]; exact hq
  · rw [ho j hj z]; exact h j hj
theorem am0_wf {r : Nat} {f g : Nat → Int32} : WFm (am 0 r f g) := fun k w v hv => by
  have h1 : (decide (k < 4) && (decide (w < 0) && bt (g (k * 24 + w)) v)) = true := hv
  rw [decide_eq_false (Nat.not_lt_zero w), Bool.false_and, Bool.and_false] at h1
  cases h1
theorem WFP.zero : WFP (pgs (fun _ => 0) (fun _ => 0) (fun _ => 0) (fun _ => 0)) := fun _ _ => am0_wf
/-- the pages 10 on moved down, those below 10 + k -/
def SHP (PG PG' : Nat → AM) (k : Nat) : Prop := ∀ p, p < 18 → PG' p = if 10 ≤ p ∧ p + 1 < 10 + k then PG (p + 1) else PG p
theorem SHP.nil {PG : Nat → AM} : SHP PG PG 1 := fun p _ => by rw [if_neg (by omega)]
theorem SHP.ext {PG PG' PG2 : Nat → AM} {k a b : Nat} (h : SHP PG PG' k) (hk : k < 8) (hk1 : 1 ≤ k) (ha : a = 10 + k) (hb : b + 1 = 10 + k) (e : ∀ p, p < 18 → PG2 p = if p = b then PG' a else PG' p) : SHP PG PG2 (k + 1) := fun p hp => by
  rw [e p hp]
  by_cases q : p = b
  · rw [if_pos q, if_pos (by omega), ha, h (10 + k) (by omega), if_neg (by omega), show p + 1 = 10 + k by omega]
  · rw [if_neg q, h p hp]
    by_cases z : 10 ≤ p ∧ p + 1 < 10 + k
    · rw [if_pos z, if_pos (show 10 ≤ p ∧ p + 1 < 10 + (k + 1) by omega)]
    · rw [if_neg z, if_neg (show ¬ (10 ≤ p ∧ p + 1 < 10 + (k + 1)) by omega)]
/-- the page is remembered: what the acts do -/
def REMS (ud uz : Nat) (PG PG' : Nat → AM) : Prop := REM ud uz PG PG' ∧ (∀ p, p < 10 → PG' p = PG p) ∧ ∀ p, p < 18 → ∃ q, q < 18 ∧ PG' p = PG q
theorem rem_8 {ud uz q k : Nat} {PG PG1 PG2 : Nat → AM} (h : SHP PG PG1 k) (hk : k = 8) (hu : ud = 8) (hz : uz = 8) (hq : q = 17) (e : ∀ p, p < 18 → PG2 p = if p = q then PG1 0 else PG1 p) : REMS ud uz PG PG2 := by
  subst hk; subst hu; subst hz; subst hq
  refine ⟨⟨by omega, fun p h1 h2 => ?_⟩, fun p hp => ?_, fun p hp => ?_⟩
  · rw [e p (by omega)]
    by_cases z : p = 17
    · rw [if_pos z, if_pos (by omega), h 0 (by omega), if_neg (by omega)]
    · rw [if_neg z, if_neg (show ¬ p + 1 = 10 + 8 by omega), if_pos rfl, h p (by omega), if_pos (by omega)]
  · rw [e p (by omega), if_neg (by omega), h p (by omega), if_neg (by omega)]
  · rw [e p hp]
    by_cases z : p = 17
    · rw [if_pos z, h 0 (by omega), if_neg (by omega)]; exact ⟨0, by omega, rfl⟩
    · rw [if_neg z, h p hp]
      by_cases y : 10 ≤ p ∧ p + 1 < 10 + 8
      · rw [if_pos y]; exact ⟨p + 1, by omega, rfl⟩
      · rw [if_neg y]; exact ⟨p, hp, rfl⟩
theorem rem_n {ud uz q : Nat} {PG PG2 : Nat → AM} (hu : ud < 8) (hz : uz = ud + 1) (hq : q = 10 + ud) (e : ∀ p, p < 18 → PG2 p = if p = q then PG 0 else PG p) : REMS ud uz PG PG2 := by
  subst hz; subst hq
  refine ⟨⟨by omega, fun p h1 h2 => ?_⟩, fun p hp => ?_, fun p hp => ?_⟩
  · rw [e p (by omega)]
    by_cases z : p = 10 + ud
    · rw [if_pos z, if_pos (by omega)]
    · rw [if_neg z, if_neg (by omega), if_neg (by omega)]
  · rw [e p (by omega), if_neg (by omega)]
  · rw [e p hp]
    by_cases z : p = 10 + ud
    · rw [if_pos z]; exact ⟨0, by omega, rfl⟩
    · rw [if_neg z]; exact ⟨p, hp, rfl⟩
theorem REMS.wf {ud uz : Nat} {PG PG' : Nat → AM} (h : REMS ud uz PG PG') (hw : WFP PG) : WFP PG' := fun p hp => by
  obtain ⟨q, h1, h2⟩ := h.2.2 p hp
  rw [h2]; exact hw q h1
theorem REMS.p0 {ud uz : Nat} {PG PG' : Nat → AM} (h : REMS ud uz PG PG') : PG' 0 = PG 0 := h.2.1 0 (by omega)
/-- the kept pages stay -/
def KP6 (PG PG' : Nat → AM) : Prop := ∀ p, 6 ≤ p → p < 10 → PG' p = PG p
theorem KP6.rf {PG : Nat → AM} : KP6 PG PG := fun _ _ _ => rfl
theorem KP6.rem {ud uz : Nat} {PG PG1 PG2 : Nat → AM} (h : REMS ud uz PG PG1) (ho : ∀ p, 6 ≤ p → p < 18 → PG2 p = PG1 p) : KP6 PG PG2 := fun p a b => (ho p a (by omega)).trans (h.2.1 p b)
/-- the end of a call that acts -/
theorem rm_end {ud uz : Nat} {PG PG1 PG2 : Nat → AM} {m : AM} (hu : ud ≤ 8) (h : REMS ud uz PG PG1) (ho : ∀ p, 6 ≤ p → p < 18 → PG2 p = PG1 p) (e : PG2 0 = m) : asM uz PG2 = aRem (asM ud PG) m :=
  (asM_rem hu h.1 (fun p a b => ho p (by omega) b)).trans (congrArg (aRem (asM ud PG)) e)
theorem OTH.hi {q : Nat} {PG PG' : Nat → AM} (h : OTH q PG PG') (hq : q < 6) : ∀ p, 6 ≤ p → p < 18 → PG' p = PG p := fun p a b => h p b (by omega)
/-! one world more -/
theorem RZ.extR {n i : Nat} {g g1 g2 : Nat → Int32} (h : RZ n i g g1) (hn : n < 24) (e : upd g1 (24 * i + n) 0 = g2) : RZ n (i + 1) g g2 := RZ.ext h hn (by rw [Nat.mul_comm i 24]; exact e)
theorem pg_add {fm fr ff fp fm' fr' ff' fp' : Nat → Int32} {x : Int32} (hn : cN fm 0 < 24) (h1 : upd fm 0 (nI (cN fm 0 + 1)) = fm') (h2 : cN fr' 0 = cN fr 0) (h3 : upd ff (cN fm 0) x = ff') (h4 : RZ (cN fm 0) 4 fp fp') : pgs fm' fr' ff' fp' 0 = aAdd (pgs fm fr ff fp 0) x := by
  rw [pgs_0, pgs_0, cN_s (by omega) h1, h2]; exact am_add hn h3 h4
/-! a knower sees, or not -/
theorem pg_see {fm fr ff fp fp' : Nat → Int32} {k u v : Nat} {is : Int32} (hb : NB 18 24 fm) (hk : k < 4) (hu : u < cN fm 0) (hv : v < cN fm 0) (e : upd fp (24 * k + u) (hbt (fp (24 * k + u)) (nI v) is) = fp') : pgs fm fr ff fp' 0 = aSee (pgs fm fr ff fp 0) k u v (decide (is.toInt ≠ 0)) ∧ OTH 0 (pgs fm fr ff fp) (pgs fm fr ff fp') := by
  have hn := (hb 0 (by omega)).2
  refine ⟨?_, pgs_oth hb OFF.rf OFF.rf OFF.rf (OFF.put OFF.rf (by omega) (by omega) e)⟩
  rw [pgs_0, pgs_0]
  exact am_see hn hk hu hv (by rw [Nat.mul_comm k 24]; exact e)
theorem pg_real {fm fr ff fp fr' : Nat → Int32} {w : Nat} (hb : NB 18 24 fm) (hw : w < 2 ^ 31) (e : upd fr 0 (nI w) = fr') : pgs fm fr' ff fp 0 = aReal (pgs fm fr ff fp 0) w ∧ OTH 0 (pgs fm fr ff fp) (pgs fm fr' ff fp) :=
  ⟨by unfold pgs; rw [cN_s hw e]; rfl, pgs_oth hb OFF.rf (OFF.put OFF.rf (by omega) (by omega) e) OFF.rf OFF.rf⟩
/-! all that a knower can not tell apart -/
def RWx (f : Nat → Int32) (o : Int32) (k u v : Nat) (g0 g : Nat → Int32) : Prop := BS (g (24 * k + u)) (fun i => if i < v then alk f o u i else bt (g0 (24 * k + u)) i) ∧ ∀ j, j ≠ 24 * k + u → g j = g0 j
theorem RWx.nil {f : Nat → Int32} {o : Int32} {k u : Nat} {g : Nat → Int32} : RWx f o k u 0 g g := ⟨fun i hi => by
  show bt (g (24 * k + u)) i = if i < 0 then alk f o u i else bt (g (24 * k + u)) i
  rw [if_neg (Nat.not_lt_zero i)], fun _ _ => rfl⟩
theorem RWx.ext {f : Nat → Int32} {o is : Int32} {k u v : Nat} {g0 g g' : Nat → Int32} (h : RWx f o k u v g0 g) (hv : v ≤ 30) (hb : decide (is.toInt ≠ 0) = alk f o u v) (e : upd g (24 * k + u) (hbt (g (24 * k + u)) (nI v) is) = g') : RWx f o k u (v + 1) g0 g' := ⟨fun i hi => by
  have h1 : bt (g (24 * k + u)) i = if i < v then alk f o u i else bt (g0 (24 * k + u)) i := h.1 i hi
  rw [← e, pk_us, hbt_b hv hi]
  show _ = if i < v + 1 then alk f o u i else bt (g0 (24 * k + u)) i
  by_cases q : i = v
  · rw [if_pos q, if_pos (show i < v + 1 by omega), hb, q]
  · rw [if_neg q, h1]
    by_cases z : i < v
    · rw [if_pos z, if_pos (show i < v + 1 by omega)]
    · rw [if_neg z, if_neg (show ¬ i < v + 1 by omega)], fun j hj => by rw [← e, pk_un hj]; exact h.2 j hj⟩
def BLQ (n : Nat) (f : Nat → Int32) (x : Int32) (k u : Nat) (g0 g : Nat → Int32) : Prop := BLR n f x k u g ∧ ∀ k' w, k' < 4 → w < n → (k < k' ∨ k' = k ∧ u ≤ w) → g (k' * 24 + w) = g0 (k' * 24 + w)
theorem BLQ.nil {n : Nat} {f g : Nat → Int32} {x : Int32} : BLQ n f x 0 0 g g := ⟨BLR.nil, fun _ _ _ _ _ => rfl⟩
theorem BLQ.up {n k i : Nat} {f g0 g : Nat → Int32} {x : Int32} (h : BLQ n f x k i g0 g) (e : i = n) : BLQ n f x (k + 1) 0 g0 g := ⟨BLR.up h.1 e, fun k' w a b c => h.2 k' w a b (by omega)⟩
theorem rw_bs {n k u : Nat} {f g0 g g' : Nat → Int32} {x : Int32} (h : BLQ n f x k u g0 g) (h24 : n ≤ 24) (hu : u < n) (hk : k < 4) (hr : RWx f (ow x k) k u n g g') (h0 : ∀ i, n ≤ i → i < 32 → bt (g0 (k * 24 + u)) i = false) : BS (g' (24 * k + u)) (fun i => decide (i < n) && alk f (ow x k) u i) := fun i hi => by
  have h1 : bt (g' (24 * k + u)) i = if i < n then alk f (ow x k) u i else bt (g (24 * k + u)) i := hr.1 i hi
  rw [h1]
  show _ = (decide (i < n) && alk f (ow x k) u i)
  by_cases z : i < n
  · rw [if_pos z, decide_eq_true z, Bool.true_and]
  · rw [if_neg z, decide_eq_false z, Bool.false_and, Nat.mul_comm 24 k, h.2 k u hk hu (Or.inr ⟨rfl, Nat.le_refl _⟩)]
    exact h0 i (by omega) hi
theorem BLQ.ext {n k u : Nat} {f g0 g g' : Nat → Int32} {x : Int32} (h : BLQ n f x k u g0 g) (h24 : n ≤ 24) (hu : u < n) (hk : k < 4) (hr : RWx f (ow x k) k u n g g') (h0 : ∀ i, n ≤ i → i < 32 → bt (g0 (k * 24 + u)) i = false) : BLQ n f x k (u + 1) g0 g' := by
  refine ⟨fun k' w a b c => ?_, fun k' w a b c => ?_⟩
  · by_cases q : k' * 24 + w = k * 24 + u
    · have e1 : k' = k := by omega
      have e2 : w = u := by omega
      rw [e1, e2, Nat.mul_comm k 24]
      exact rw_bs h h24 hu hk hr h0
    · rw [hr.2 _ (by omega)]
      exact h.1 k' w a b (by omega)
  · rw [hr.2 _ (by omega)]
    exact h.2 k' w a b (by omega)
theorem cb24 {x : Int32} {P : Nat → Bool} (h : BS x P) (h0 : ∀ v, 24 ≤ v → P v = false) : cb (bt x) 24 = cb P 32 := by
  rw [← cb_BS h]
  exact (cb_flat (by omega) (fun p a b => by rw [h p b]; exact h0 p a)).symm
theorem wf_hi {n r : Nat} {f g : Nat → Int32} (h : WFm (am n r f g)) {k u : Nat} (hk : k < 4) (hu : u < n) : ∀ i, n ≤ i → i < 32 → bt (g (k * 24 + u)) i = false := fun i a b => by
  cases hb : bt (g (k * 24 + u)) i with
  | false => rfl
  | true =>
    have h1 : i < n := h k u i (by rw [am_S hk hu]; exact hb)
    omega
theorem wfp_hi {fm fr ff fp : Nat → Int32} (h : WFP (pgs fm fr ff fp)) {k u : Nat} (hk : k < 4) (hu : u < cN fm 0) : ∀ i, cN fm 0 ≤ i → i < 32 → bt (fp (k * 24 + u)) i = false :=
  wf_hi (by have h1 := h 0 (by omega); rw [pgs_0] at h1; exact h1) hk hu
theorem pg_blind {fm fr ff fp fp' : Nat → Int32} {x : Int32} {k : Nat} (hb : NB 18 24 fm) (h : BLQ (cN fm 0) ff x k 0 fp fp') (hk : k = 4) : pgs fm fr ff fp' 0 = aBlind (pgs fm fr ff fp 0) x := by
  rw [pgs_0, pgs_0]; exact am_blind (hb 0 (by omega)).2 h.1 hk
/-! what is reached -/
theorem or0 {x z : Int32} (e : x ||| (0 : Int32) = z) : z = x := by rw [← e]; apply b_ext; intro i hi; rw [b_or, b_0, Bool.or_false]
theorem NXr.z {gr x z : Int32} {g : Nat → Int32} {w i : Nat} (h : NXr gr g w i x) (hb : bt gr i = false) (e : x ||| (0 : Int32) = z) : NXr gr g w (i + 1) z := by rw [or0 e]; exact NXr.f h hb
def RCs (m : AM) (gr : Int32) (w : Nat) (x : Int32) : Prop := (∀ v, nx m gr w v = true → bt x v = true) ∧ ∀ v, v < 32 → bt x v = true → Rc m gr w v = true
def RCc (m : AM) (gr so : Int32) (i : Nat) (x : Int32) : Prop := ∀ u, u < i → bt so u = true → ∀ v, nx m gr u v = true → bt x v = true
def RCk (m : AM) (gr : Int32) (u i : Nat) (x : Int32) : Prop := ∀ v, anyN (fun k => bt gr k && m.2.2.2 k u v) i = true → bt x v = true
theorem RCs.st {m : AM} {gr x : Int32} {w : Nat} (hw : WFm m) (hn : m.1 ≤ 24) (h : BS x (nx m gr w)) : RCs m gr w x :=
  ⟨fun v hv => by rw [h v (by have := nx_lt hw hv; omega)]; exact hv, fun v hv hb => Rc_nx (by rw [← h v hv]; exact hb)⟩
theorem RCc.z {m : AM} {gr x : Int32} {i : Nat} : RCc m gr 0 i x := fun u _ h => by rw [b_0] at h; cases h
theorem RCc.nil {m : AM} {gr so x : Int32} : RCc m gr so 0 x := fun u h => absurd h (Nat.not_lt_zero _)
theorem RCc.or {m : AM} {gr so x y z : Int32} {i : Nat} (h : RCc m gr so i x) (e : x ||| y = z) : RCc m gr so i z := fun u a b v c => by rw [← e, b_or, h u a b v c]; rfl
theorem RCc.ext {m : AM} {gr so x : Int32} {i : Nat} (h : RCc m gr so i x) (hk : bt so i = true → RCk m gr i 4 x) : RCc m gr so (i + 1) x := fun u a b v c => by
  by_cases q : u = i
  · subst q; exact hk b v c
  · exact h u (by omega) b v c
theorem RCk.nil {m : AM} {gr x : Int32} {u : Nat} : RCk m gr u 0 x := fun v h => by cases h
theorem RCk.t {m : AM} {gr x y z : Int32} {u i : Nat} (h : RCk m gr u i x) (hy : ∀ v, m.2.2.2 i u v = true → bt y v = true) (e : x ||| y = z) : RCk m gr u (i + 1) z := fun v hv => by
  have h1 : (anyN (fun k => bt gr k && m.2.2.2 k u v) i || (bt gr i && m.2.2.2 i u v)) = true := hv
  rw [Bool.or_eq_true, Bool.and_eq_true] at h1
  rw [← e, b_or]
  rcases h1 with h1 | h1
  · rw [h v h1]; rfl
  · rw [hy v h1.2, Bool.or_true]
theorem RCk.f {m : AM} {gr x z : Int32} {u i : Nat} (h : RCk m gr u i x) (hb : bt gr i = false) (e : x ||| (0 : Int32) = z) : RCk m gr u (i + 1) z := fun v hv => by
  have h1 : (anyN (fun k => bt gr k && m.2.2.2 k u v) i || (bt gr i && m.2.2.2 i u v)) = true := hv
  rw [hb, Bool.false_and, Bool.or_false] at h1
  rw [or0 e]; exact h v h1
theorem RCs.or {m : AM} {gr x y z : Int32} {w u i : Nat} (h : RCs m gr w x) (hw : WFm m) (hu : u < m.1) (hR : Rc m gr w u = true) (hb : bt gr i = true) (hi : i < 4) (hy : ∀ v, v < 32 → bt y v = true → m.2.2.2 i u v = true) (e : x ||| y = z) : RCs m gr w z :=
  ⟨fun v hv => by rw [← e, b_or, h.1 v hv]; rfl, fun v hv hz => by
    rw [← e, b_or, Bool.or_eq_true] at hz
    rcases hz with hz | hz
    · exact h.2 v hv hz
    · exact Rc_cl hw hu hR (anyN_iff.mpr ⟨i, hi, by rw [hb, hy v hv hz]; rfl⟩)⟩
theorem RCs.z {m : AM} {gr x z : Int32} {w : Nat} (h : RCs m gr w x) (e : x ||| (0 : Int32) = z) : RCs m gr w z := by rw [or0 e]; exact h
theorem RCc.z' {m : AM} {gr so x z : Int32} {i : Nat} (h : RCc m gr so i x) (e : x ||| (0 : Int32) = z) : RCc m gr so i z := h.or e
theorem Rc_end {m : AM} {gr so x : Int32} {w : Nat} (hs : RCs m gr w x) (hc : RCc m gr so m.1 x) (e : x = so) : BS so (Rc m gr w) := fun v hv => by
  subst e
  apply bool_iff
  exact ⟨fun h => hs.2 v hv h, fun h => Rc_in (Q := fun v => bt x v = true) hs.1 (fun u v a b c => hc u a b v c) _ v h⟩
theorem nx_pg {fm fr ff fp : Nat → Int32} {p w : Nat} {gr x : Int32} (hw : w < cN fm p) (h : NXr gr (sh (96 * p) fp) w 4 x) : BS x (nx (pgs fm fr ff fp p) gr w) := nx_am hw h
theorem alk_1 {f : Nat → Int32} {o oj a b c d e : Int32} {u v : Nat} (how : oj = o) (e1 : f u = a) (e2 : f v = b) (e3 : a ^^^ b = c) (e4 : oj ^^^ (-1 : Int32) = d) (e5 : c &&& d = e) (hz : e.toInt = 0) : decide ((1 : Int32).toInt ≠ 0) = alk f o u v := by
  subst how; subst e1; subst e2; subst e3; subst e4; subst e5
  exact (decide_eq_true (by decide)).trans (decide_eq_true (i_z hz)).symm
theorem alk_0 {f : Nat → Int32} {o oj a b c d e : Int32} {u v : Nat} (how : oj = o) (e1 : f u = a) (e2 : f v = b) (e3 : a ^^^ b = c) (e4 : oj ^^^ (-1 : Int32) = d) (e5 : c &&& d = e) (hz : e.toInt ≠ 0) : decide ((0 : Int32).toInt ≠ 0) = alk f o u v := by
  subst how; subst e1; subst e2; subst e3; subst e4; subst e5
  exact (decide_eq_false (by decide)).trans (decide_eq_false (i_nz hz)).symm
end
section
theorem dX12_in_0 : decode cX12_in 0 = .ok (.lload_n 0, 1) := dl_30 (by decide +kernel)
theorem dX12_in_1 : decode cX12_in 1 = .ok (.lload_n 2, 1) := dl_32 (by decide +kernel)
theorem dX12_in_2 : decode cX12_in 2 = .ok (.lcmp, 1) := dl_148 (by decide +kernel)
theorem dX12_in_3 : decode cX12_in 3 = .ok (.ifCond .lt 14, 3) := dl_155 (by decide +kernel)
theorem dX12_in_17 : decode cX12_in 17 = .ok (.iconst 0, 1) := dl_3 (by decide +kernel)
theorem dX12_in_18 : decode cX12_in 18 = .ok (.ireturn, 1) := dl_172 (by decide +kernel)
theorem dX12_in_6 : decode cX12_in 6 = .ok (.lload_n 0, 1) := dl_30 (by decide +kernel)
theorem dX12_in_7 : decode cX12_in 7 = .ok (.lload 4, 2) := dl_22 (by decide +kernel)
theorem dX12_in_9 : decode cX12_in 9 = .ok (.lcmp, 1) := dl_148 (by decide +kernel)
theorem dX12_in_10 : decode cX12_in 10 = .ok (.ifCond .gt 7, 3) := dl_157 (by decide +kernel)
theorem dX12_in_13 : decode cX12_in 13 = .ok (.iconst 1, 1) := dl_4 (by decide +kernel)
theorem dX12_in_14 : decode cX12_in 14 = .ok (.goto 4, 3) := dl_167 (by decide +kernel)
set_option maxRecDepth 100000 in
set_option maxHeartbeats 4000000 in
theorem r_in (l : Launch) (E : EV) (ro : va_W) (v : Int64) (lo : Int64) (hi : Int64) (zv : Int) (zl : Int) (zh : Int) (hz_zv : v.toInt = zv) (hz_zl : lo.toInt = zl) (hz_zh : hi.toInt = zh) : CT l yX12_in (Cond.code yX12_in cX12_in 6 (some .boolean) :: TB) ({ frames := 0, cells := 0, slots := 0, locals := 0 }) E ro [.long v, .long lo, .long hi] [] (Qi E (fun (rz : Int32) uz => (rz = 1 ∧ uz = [] ∧ (zl ≤ zv) ∧ (zv ≤ zh)) ∨ (rz = 0 ∧ uz = [] ∧ (zv < zl ∨ zh < zv)))) 0 0 := by
  refine ct_of rfl rfl ?_
  intro X C hT hin hro
  show WW X 6 E 0 [(0, .long v), (2, .long lo), (4, .long hi)] [] [] 0 0
  refine ww_lload_n C dX12_in_0 0 rfl rfl ?_
  refine ww_lload_n C dX12_in_1 1 rfl rfl ?_
  refine ww_lcmp (v := lg_cmp v lo) C dX12_in_2 rfl ?_
  refine ww_if_lt (tgt := 17) C dX12_in_3 (by decide) (fun c_2 => ?_) (fun c_2 => ?_)
  · have zc_2 : v.toInt < lo.toInt := lc_lt_t rfl rfl c_2
    refine ww_iconst (v := 0) C dX12_in_17 rfl ?_
    exact ww_zret (u := []) C hT [] rfl rfl rfl rfl rfl dX12_in_18 (Or.inr ⟨rfl, rfl, (by first | assumption | omega | decide)⟩)
  · have zc_2 : v.toInt ≥ lo.toInt := lc_lt_f rfl rfl c_2
    refine ww_lload_n C dX12_in_6 0 rfl rfl ?_
    refine ww_lload C dX12_in_7 2 rfl ?_
    refine ww_lcmp (v := lg_cmp v hi) C dX12_in_9 rfl ?_
    refine ww_if_gt (tgt := 17) C dX12_in_10 (by decide) (fun c_4 => ?_) (fun c_4 => ?_)
    · have zc_4 : v.toInt > hi.toInt := lc_gt_t rfl rfl c_4
      refine ww_iconst (v := 0) C dX12_in_17 rfl ?_
      exact ww_zret (u := []) C hT [] rfl rfl rfl rfl rfl dX12_in_18 (Or.inr ⟨rfl, rfl, (by first | assumption | omega | decide)⟩)
    · have zc_4 : v.toInt ≤ hi.toInt := lc_gt_f rfl rfl c_4
      refine ww_iconst (v := 1) C dX12_in_13 rfl ?_
      refine ww_goto (tgt := 18) C dX12_in_14 (by decide) ?_
      exact ww_zret (u := []) C hT [] rfl rfl rfl rfl rfl dX12_in_18 (Or.inl ⟨rfl, rfl, (by first | assumption | omega | decide), (by first | assumption | omega | decide)⟩)
theorem dX12_copy_0 : decode cX12_copy 0 = .ok (.aload_n 0, 1) := dl_42 (by decide +kernel)
theorem dX12_copy_1 : decode cX12_copy 1 = .ok (.getfield 7, 3) := dl_180 (by decide +kernel)
theorem uw_X12 : ∀ w ∈ u_ws RX12 TX12 45, w ∈ TB := uw_of [1083, 1085, 1087, 1089, 1091, 1093, 1095, 1097, 1099, 1101, 1103, 1105, 1107, 1109, 1111, 1113, 1115, 1117, 1119, 1121, 1123, 1125, 1127, 1129, 1131, 1133, 1135, 1137, 1139, 1141, 1143, 1145, 1147, 1149, 1151, 1153, 1155, 1157, 1159, 1161, 1163, 1165, 1167, 1169, 1171] (by decide +kernel) (by decide +kernel)
theorem wf_X12_7 : Cond.fieldLink RX12 7 RX12 "manys" "[I" ∈ TB := tbm (tq5 (List.mem_of_getElem? (i := 78) (by decide +kernel))) (by decide +kernel)
theorem fg_X12_7 : FG RX12 7 12 0 := ⟨RX12, TX12, 45, uw_X12, wf_X12_7, rfl, by decide, rfl⟩
theorem dX12_copy_4 : decode cX12_copy 4 = .ok (.iload_n 2, 1) := dl_28 (by decide +kernel)
theorem dX12_copy_5 : decode cX12_copy 5 = .ok (.aload_n 0, 1) := dl_42 (by decide +kernel)
theorem dX12_copy_6 : decode cX12_copy 6 = .ok (.getfield 7, 3) := dl_180 (by decide +kernel)
theorem dX12_copy_9 : decode cX12_copy 9 = .ok (.iload_n 1, 1) := dl_27 (by decide +kernel)
theorem dX12_copy_10 : decode cX12_copy 10 = .ok (.iaload, 1) := dl_46 (by decide +kernel)
theorem dX12_copy_11 : decode cX12_copy 11 = .ok (.iastore, 1) := dl_79 (by decide +kernel)
theorem dX12_copy_12 : decode cX12_copy 12 = .ok (.aload_n 0, 1) := dl_42 (by decide +kernel)
theorem dX12_copy_13 : decode cX12_copy 13 = .ok (.getfield 13, 3) := dl_180 (by decide +kernel)
theorem wf_X12_13 : Cond.fieldLink RX12 13 RX12 "reals" "[I" ∈ TB := tbm (tq5 (List.mem_of_getElem? (i := 79) (by decide +kernel))) (by decide +kernel)
theorem fg_X12_13 : FG RX12 13 12 1 := ⟨RX12, TX12, 45, uw_X12, wf_X12_13, rfl, by decide, rfl⟩
theorem dX12_copy_16 : decode cX12_copy 16 = .ok (.iload_n 2, 1) := dl_28 (by decide +kernel)
theorem dX12_copy_17 : decode cX12_copy 17 = .ok (.aload_n 0, 1) := dl_42 (by decide +kernel)
theorem dX12_copy_18 : decode cX12_copy 18 = .ok (.getfield 13, 3) := dl_180 (by decide +kernel)
theorem dX12_copy_21 : decode cX12_copy 21 = .ok (.iload_n 1, 1) := dl_27 (by decide +kernel)
theorem dX12_copy_22 : decode cX12_copy 22 = .ok (.iaload, 1) := dl_46 (by decide +kernel)
theorem dX12_copy_23 : decode cX12_copy 23 = .ok (.iastore, 1) := dl_79 (by decide +kernel)
theorem dX12_copy_24 : decode cX12_copy 24 = .ok (.iconst 0, 1) := dl_3 (by decide +kernel)
theorem dX12_copy_25 : decode cX12_copy 25 = .ok (.istore_n 3, 1) := dl_62 (by decide +kernel)
theorem dX12_copy_26 : decode cX12_copy 26 = .ok (.iload_n 3, 1) := dl_29 (by decide +kernel)
theorem dX12_copy_27 : decode cX12_copy 27 = .ok (.bipush 24, 2) := dl_16 (by decide +kernel)
theorem dX12_copy_29 : decode cX12_copy 29 = .ok (.if_icmp .ge 31, 3) := dl_162 (by decide +kernel)
theorem dX12_copy_60 : decode cX12_copy 60 = .ok (.iconst 0, 1) := dl_3 (by decide +kernel)
theorem dX12_copy_61 : decode cX12_copy 61 = .ok (.istore_n 3, 1) := dl_62 (by decide +kernel)
theorem dX12_copy_62 : decode cX12_copy 62 = .ok (.iload_n 3, 1) := dl_29 (by decide +kernel)
theorem dX12_copy_63 : decode cX12_copy 63 = .ok (.bipush 96, 2) := dl_16 (by decide +kernel)
theorem dX12_copy_65 : decode cX12_copy 65 = .ok (.if_icmp .ge 31, 3) := dl_162 (by decide +kernel)
theorem dX12_copy_96 : decode cX12_copy 96 = .ok (.return_, 1) := dl_177 (by decide +kernel)
theorem dX12_copy_68 : decode cX12_copy 68 = .ok (.aload_n 0, 1) := dl_42 (by decide +kernel)
theorem dX12_copy_69 : decode cX12_copy 69 = .ok (.getfield 19, 3) := dl_180 (by decide +kernel)
theorem wf_X12_19 : Cond.fieldLink RX12 19 RX12 "possible" "[I" ∈ TB := tbm (tq5 (List.mem_of_getElem? (i := 81) (by decide +kernel))) (by decide +kernel)
theorem fg_X12_19 : FG RX12 19 12 3 := ⟨RX12, TX12, 45, uw_X12, wf_X12_19, rfl, by decide, rfl⟩
theorem dX12_copy_72 : decode cX12_copy 72 = .ok (.bipush 96, 2) := dl_16 (by decide +kernel)
theorem dX12_copy_74 : decode cX12_copy 74 = .ok (.iload_n 2, 1) := dl_28 (by decide +kernel)
theorem dX12_copy_75 : decode cX12_copy 75 = .ok (.imul, 1) := dl_104 (by decide +kernel)
theorem dX12_copy_76 : decode cX12_copy 76 = .ok (.iload_n 3, 1) := dl_29 (by decide +kernel)
theorem dX12_copy_77 : decode cX12_copy 77 = .ok (.iadd, 1) := dl_96 (by decide +kernel)
theorem dX12_copy_78 : decode cX12_copy 78 = .ok (.aload_n 0, 1) := dl_42 (by decide +kernel)
theorem dX12_copy_79 : decode cX12_copy 79 = .ok (.getfield 19, 3) := dl_180 (by decide +kernel)
theorem dX12_copy_82 : decode cX12_copy 82 = .ok (.bipush 96, 2) := dl_16 (by decide +kernel)
theorem dX12_copy_84 : decode cX12_copy 84 = .ok (.iload_n 1, 1) := dl_27 (by decide +kernel)
theorem dX12_copy_85 : decode cX12_copy 85 = .ok (.imul, 1) := dl_104 (by decide +kernel)
theorem dX12_copy_86 : decode cX12_copy 86 = .ok (.iload_n 3, 1) := dl_29 (by decide +kernel)
theorem dX12_copy_87 : decode cX12_copy 87 = .ok (.iadd, 1) := dl_96 (by decide +kernel)
theorem dX12_copy_88 : decode cX12_copy 88 = .ok (.iaload, 1) := dl_46 (by decide +kernel)
theorem dX12_copy_89 : decode cX12_copy 89 = .ok (.iastore, 1) := dl_79 (by decide +kernel)
theorem dX12_copy_90 : decode cX12_copy 90 = .ok (.iinc 3 1, 3) := dl_132 (by decide +kernel)
theorem dX12_copy_93 : decode cX12_copy 93 = .ok (.goto (-31), 3) := dl_167 (by decide +kernel)
theorem dX12_copy_32 : decode cX12_copy 32 = .ok (.aload_n 0, 1) := dl_42 (by decide +kernel)
theorem dX12_copy_33 : decode cX12_copy 33 = .ok (.getfield 16, 3) := dl_180 (by decide +kernel)
theorem wf_X12_16 : Cond.fieldLink RX12 16 RX12 "factsOf" "[I" ∈ TB := tbm (tq5 (List.mem_of_getElem? (i := 80) (by decide +kernel))) (by decide +kernel)
theorem fg_X12_16 : FG RX12 16 12 2 := ⟨RX12, TX12, 45, uw_X12, wf_X12_16, rfl, by decide, rfl⟩
theorem dX12_copy_36 : decode cX12_copy 36 = .ok (.bipush 24, 2) := dl_16 (by decide +kernel)
theorem dX12_copy_38 : decode cX12_copy 38 = .ok (.iload_n 2, 1) := dl_28 (by decide +kernel)
theorem dX12_copy_39 : decode cX12_copy 39 = .ok (.imul, 1) := dl_104 (by decide +kernel)
theorem dX12_copy_40 : decode cX12_copy 40 = .ok (.iload_n 3, 1) := dl_29 (by decide +kernel)
theorem dX12_copy_41 : decode cX12_copy 41 = .ok (.iadd, 1) := dl_96 (by decide +kernel)
theorem dX12_copy_42 : decode cX12_copy 42 = .ok (.aload_n 0, 1) := dl_42 (by decide +kernel)
theorem dX12_copy_43 : decode cX12_copy 43 = .ok (.getfield 16, 3) := dl_180 (by decide +kernel)
theorem dX12_copy_46 : decode cX12_copy 46 = .ok (.bipush 24, 2) := dl_16 (by decide +kernel)
theorem dX12_copy_48 : decode cX12_copy 48 = .ok (.iload_n 1, 1) := dl_27 (by decide +kernel)
theorem dX12_copy_49 : decode cX12_copy 49 = .ok (.imul, 1) := dl_104 (by decide +kernel)
theorem dX12_copy_50 : decode cX12_copy 50 = .ok (.iload_n 3, 1) := dl_29 (by decide +kernel)
theorem dX12_copy_51 : decode cX12_copy 51 = .ok (.iadd, 1) := dl_96 (by decide +kernel)
theorem dX12_copy_52 : decode cX12_copy 52 = .ok (.iaload, 1) := dl_46 (by decide +kernel)
theorem dX12_copy_53 : decode cX12_copy 53 = .ok (.iastore, 1) := dl_79 (by decide +kernel)
theorem dX12_copy_54 : decode cX12_copy 54 = .ok (.iinc 3 1, 3) := dl_132 (by decide +kernel)
theorem dX12_copy_57 : decode cX12_copy 57 = .ok (.goto (-31), 3) := dl_167 (by decide +kernel)
set_option maxRecDepth 100000 in
set_option maxHeartbeats 4000000 in
theorem r_copy (l : Launch) (E : EV) (ro : va_W) (hm : Nat) (p : Nat) (q : Nat) (m_manys : Nat) (m_reals : Nat) (m_factsOf : Nat) (m_possible : Nat) (q_undos : Nat) (q_models : Nat) (m_tape : Nat) (q_taped : Nat) (q_fault : Int32) (q_wrong : Int32) (q_wrongAt : Int32) (q_spot : Int32) (q_place : Int32) (q_token : Int32) (q_value : Int32) (m_ends : Nat) (m_letters : Nat) (m_actOf : Nat) (m_whom : Nat) (m_actMany : Nat) (m_tokens : Nat) (m_afters : Nat) (m_afterOf : Nat) (q_counted : Int32) (m_pile : Nat) (m_caseMany : Nat) (m_happen : Nat) (m_hasIf : Nat) (m_becomes : Nat) (m_goneOf : Nat) (m_heard : Nat) (m_pairs : Nat) (m_heaps : Nat) (q_rounds : Int32) (q_heapMany : Int32) (m_led : Nat) (m_newAt : Nat) (m_knowing : Nat) (m_firsts : Nat) (q_people : Nat) (m_secrets : Nat) (m_tried : Nat) (m_lanes : Nat) (m_lengths : Nat) (m_cells : Nat) (f_manys : Nat → Int32) (f_reals : Nat → Int32) (f_factsOf : Nat → Int32) (f_possible : Nat → Int32) (hb_manys : NB 18 24 f_manys) (hb_reals : NB 18 23 f_reals) (hpg : PG f_manys f_reals) (hwf : WFP (pgs f_manys f_reals f_factsOf f_possible)) (hp : p < 18) (hq : q < 18) : CT l yX12_copy (Cond.code yX12_copy cX12_copy 4 none :: TB) ({ frames := 0, cells := 0, slots := 0, locals := 0 }) E ro [.ref hm, .int (nI p), .int (nI q)] [(hm, .inr (12, [.ref m_manys, .ref m_reals, .ref m_factsOf, .ref m_possible, .int (nI q_undos), .int (nI q_models), .ref m_tape, .int (nI q_taped), .int q_fault, .int q_wrong, .int q_wrongAt, .int q_spot, .int q_place, .int q_token, .int q_value, .ref m_ends, .ref m_letters, .ref m_actOf, .ref m_whom, .ref m_actMany, .ref m_tokens, .ref m_afters, .ref m_afterOf, .int q_counted, .ref m_pile, .ref m_caseMany, .ref m_happen, .ref m_hasIf, .ref m_becomes, .ref m_goneOf, .ref m_heard, .ref m_pairs, .ref m_heaps, .int q_rounds, .int q_heapMany, .ref m_led, .ref m_newAt, .ref m_knowing, .ref m_firsts, .int (nI q_people), .ref m_secrets, .ref m_tried, .ref m_lanes, .ref m_lengths, .ref m_cells])), (m_manys, .inl (E.2.1 1, 18, .inl f_manys)), (m_reals, .inl (E.2.1 1, 18, .inl f_reals)), (m_factsOf, .inl (E.2.1 1, 432, .inl f_factsOf)), (m_possible, .inl (E.2.1 1, 1728, .inl f_possible))] (Qv E (fun uz => (∃ (f_manysz : Nat → Int32) (f_realsz : Nat → Int32) (f_factsOfz : Nat → Int32) (f_possiblez : Nat → Int32), uz = [(hm, .inr (12, [.ref m_manys, .ref m_reals, .ref m_factsOf, .ref m_possible, .int (nI q_undos), .int (nI q_models), .ref m_tape, .int (nI q_taped), .int q_fault, .int q_wrong, .int q_wrongAt, .int q_spot, .int q_place, .int q_token, .int q_value, .ref m_ends, .ref m_letters, .ref m_actOf, .ref m_whom, .ref m_actMany, .ref m_tokens, .ref m_afters, .ref m_afterOf, .int q_counted, .ref m_pile, .ref m_caseMany, .ref m_happen, .ref m_hasIf, .ref m_becomes, .ref m_goneOf, .ref m_heard, .ref m_pairs, .ref m_heaps, .int q_rounds, .int q_heapMany, .ref m_led, .ref m_newAt, .ref m_knowing, .ref m_firsts, .int (nI q_people), .ref m_secrets, .ref m_tried, .ref m_lanes, .ref m_lengths, .ref m_cells])), (m_manys, .inl (E.2.1 1, 18, .inl f_manysz)), (m_reals, .inl (E.2.1 1, 18, .inl f_realsz)), (m_factsOf, .inl (E.2.1 1, 432, .inl f_factsOfz)), (m_possible, .inl (E.2.1 1, 1728, .inl f_possiblez))] ∧ (NB 18 24 f_manysz) ∧ (NB 18 23 f_realsz) ∧ (PG f_manysz f_realsz) ∧ (WFP (pgs f_manysz f_realsz f_factsOfz f_possiblez)) ∧ (upd f_manys q (nI (cN f_manys p)) = f_manysz) ∧ (upd f_reals q (nI (cN f_reals p)) = f_realsz) ∧ (CPG 24 p q 24 f_factsOf f_factsOfz) ∧ (CPG 96 p q 96 f_possible f_possiblez) ∧ (∀ j, j < 18 → pgs f_manysz f_realsz f_factsOfz f_possiblez j = if j = q then pgs f_manys f_reals f_factsOf f_possible p else pgs f_manys f_reals f_factsOf f_possible j)))) 0 0 := by
  refine ct_of rfl rfl ?_
  intro X C hT hin hro
  show WW X 4 E 0 [(0, .ref hm), (1, .int (nI p)), (2, .int (nI q))] [] [(hm, .inr (12, [.ref m_manys, .ref m_reals, .ref m_factsOf, .ref m_possible, .int (nI q_undos), .int (nI q_models), .ref m_tape, .int (nI q_taped), .int q_fault, .int q_wrong, .int q_wrongAt, .int q_spot, .int q_place, .int q_token, .int q_value, .ref m_ends, .ref m_letters, .ref m_actOf, .ref m_whom, .ref m_actMany, .ref m_tokens, .ref m_afters, .ref m_afterOf, .int q_counted, .ref m_pile, .ref m_caseMany, .ref m_happen, .ref m_hasIf, .ref m_becomes, .ref m_goneOf, .ref m_heard, .ref m_pairs, .ref m_heaps, .int q_rounds, .int q_heapMany, .ref m_led, .ref m_newAt, .ref m_knowing, .ref m_firsts, .int (nI q_people), .ref m_secrets, .ref m_tried, .ref m_lanes, .ref m_lengths, .ref m_cells])), (m_manys, .inl (E.2.1 1, 18, .inl f_manys)), (m_reals, .inl (E.2.1 1, 18, .inl f_reals)), (m_factsOf, .inl (E.2.1 1, 432, .inl f_factsOf)), (m_possible, .inl (E.2.1 1, 1728, .inl f_possible))] 0 0
  have hmn0 := (hb_manys 0 (by omega)).2
  refine ww_aload_n C dX12_copy_0 0 rfl rfl ?_
  refine ww_get C fg_X12_7 0 rfl rfl dX12_copy_1 ?_
  refine ww_iload_n C dX12_copy_4 2 rfl rfl ?_
  refine ww_aload_n C dX12_copy_5 0 rfl rfl ?_
  refine ww_get C fg_X12_7 0 rfl rfl dX12_copy_6 ?_
  refine ww_iload_n C dX12_copy_9 1 rfl rfl ?_
  have hbx_1 := (hb_manys p (by omega)).2
  refine ww_iald (v := (nI (cN f_manys p))) C 1 rfl (vp_in_nI (by omega) (by omega)) (ldn (by omega) (hb_manys p (by omega)).1) dX12_copy_10 ?_
  obtain ⟨f_2, ef_2⟩ : ∃ z : Nat → Int32, upd f_manys q (nI (cN f_manys p)) = z := ⟨_, rfl⟩
  refine ww_iast (ws' := [(hm, .inr (12, [.ref m_manys, .ref m_reals, .ref m_factsOf, .ref m_possible, .int (nI q_undos), .int (nI q_models), .ref m_tape, .int (nI q_taped), .int q_fault, .int q_wrong, .int q_wrongAt, .int q_spot, .int q_place, .int q_token, .int q_value, .ref m_ends, .ref m_letters, .ref m_actOf, .ref m_whom, .ref m_actMany, .ref m_tokens, .ref m_afters, .ref m_afterOf, .int q_counted, .ref m_pile, .ref m_caseMany, .ref m_happen, .ref m_hasIf, .ref m_becomes, .ref m_goneOf, .ref m_heard, .ref m_pairs, .ref m_heaps, .int q_rounds, .int q_heapMany, .ref m_led, .ref m_newAt, .ref m_knowing, .ref m_firsts, .int (nI q_people), .ref m_secrets, .ref m_tried, .ref m_lanes, .ref m_lengths, .ref m_cells])), (m_manys, .inl (E.2.1 1, 18, .inl f_2)), (m_reals, .inl (E.2.1 1, 18, .inl f_reals)), (m_factsOf, .inl (E.2.1 1, 432, .inl f_factsOf)), (m_possible, .inl (E.2.1 1, 1728, .inl f_possible))]) C 1 rfl (vp_in_nI (by omega) (by omega)) (ldn2 (by omega) ef_2) rfl dX12_copy_11 ?_
  refine ww_aload_n C dX12_copy_12 0 rfl rfl ?_
  refine ww_get C fg_X12_13 0 rfl rfl dX12_copy_13 ?_
  refine ww_iload_n C dX12_copy_16 2 rfl rfl ?_
  refine ww_aload_n C dX12_copy_17 0 rfl rfl ?_
  refine ww_get C fg_X12_13 0 rfl rfl dX12_copy_18 ?_
  refine ww_iload_n C dX12_copy_21 1 rfl rfl ?_
  have hbx_3 := (hb_reals p (by omega)).2
  refine ww_iald (v := (nI (cN f_reals p))) C 2 rfl (vp_in_nI (by omega) (by omega)) (ldn (by omega) (hb_reals p (by omega)).1) dX12_copy_22 ?_
  obtain ⟨f_4, ef_4⟩ : ∃ z : Nat → Int32, upd f_reals q (nI (cN f_reals p)) = z := ⟨_, rfl⟩
  refine ww_iast (ws' := [(hm, .inr (12, [.ref m_manys, .ref m_reals, .ref m_factsOf, .ref m_possible, .int (nI q_undos), .int (nI q_models), .ref m_tape, .int (nI q_taped), .int q_fault, .int q_wrong, .int q_wrongAt, .int q_spot, .int q_place, .int q_token, .int q_value, .ref m_ends, .ref m_letters, .ref m_actOf, .ref m_whom, .ref m_actMany, .ref m_tokens, .ref m_afters, .ref m_afterOf, .int q_counted, .ref m_pile, .ref m_caseMany, .ref m_happen, .ref m_hasIf, .ref m_becomes, .ref m_goneOf, .ref m_heard, .ref m_pairs, .ref m_heaps, .int q_rounds, .int q_heapMany, .ref m_led, .ref m_newAt, .ref m_knowing, .ref m_firsts, .int (nI q_people), .ref m_secrets, .ref m_tried, .ref m_lanes, .ref m_lengths, .ref m_cells])), (m_manys, .inl (E.2.1 1, 18, .inl f_2)), (m_reals, .inl (E.2.1 1, 18, .inl f_4)), (m_factsOf, .inl (E.2.1 1, 432, .inl f_factsOf)), (m_possible, .inl (E.2.1 1, 1728, .inl f_possible))]) C 2 rfl (vp_in_nI (by omega) (by omega)) (ldn2 (by omega) ef_4) rfl dX12_copy_23 ?_
  refine ww_iconst (v := 0) C dX12_copy_24 rfl ?_
  refine ww_istore_n (lv' := [(3, .int 0), (0, .ref hm), (1, .int (nI p)), (2, .int (nI q))]) C dX12_copy_25 rfl rfl rfl ?_
  have loop_26 : ∀ (fu : Nat) (i1 : Nat) (g1 : Nat → Int32), (i1 ≤ 24) → (CPG 24 p q i1 f_factsOf g1) → 24 - i1 < fu → WW X 4 E 26 [(3, .int (nI i1)), (0, .ref hm), (1, .int (nI p)), (2, .int (nI q))] [] [(hm, .inr (12, [.ref m_manys, .ref m_reals, .ref m_factsOf, .ref m_possible, .int (nI q_undos), .int (nI q_models), .ref m_tape, .int (nI q_taped), .int q_fault, .int q_wrong, .int q_wrongAt, .int q_spot, .int q_place, .int q_token, .int q_value, .ref m_ends, .ref m_letters, .ref m_actOf, .ref m_whom, .ref m_actMany, .ref m_tokens, .ref m_afters, .ref m_afterOf, .int q_counted, .ref m_pile, .ref m_caseMany, .ref m_happen, .ref m_hasIf, .ref m_becomes, .ref m_goneOf, .ref m_heard, .ref m_pairs, .ref m_heaps, .int q_rounds, .int q_heapMany, .ref m_led, .ref m_newAt, .ref m_knowing, .ref m_firsts, .int (nI q_people), .ref m_secrets, .ref m_tried, .ref m_lanes, .ref m_lengths, .ref m_cells])), (m_manys, .inl (E.2.1 1, 18, .inl f_2)), (m_reals, .inl (E.2.1 1, 18, .inl f_4)), (m_factsOf, .inl (E.2.1 1, 432, .inl g1)), (m_possible, .inl (E.2.1 1, 1728, .inl f_possible))] 0 0 := by
    intro fu
    induction fu with
    | zero => intro i1 g1 hi1 hc_g1 hmeas; exact absurd hmeas (Nat.not_lt_zero _)
    | succ fu ih_26 =>
      intro i1 g1 hi1 hc_g1 hmeas
      refine ww_iload_n C dX12_copy_26 0 rfl rfl ?_
      refine ww_bipush (v := 24) C dX12_copy_27 rfl ?_
      refine ww_icmp_ge (tgt := 60) C dX12_copy_29 (by decide) (fun c_5 => ?_) (fun c_5 => ?_)
      · have zc_5 : ((i1 : Nat) : Int) ≥ 24 := i_le rfl (nI_toInt (n := i1) (by omega)) c_5
        refine ww_iconst (v := 0) C dX12_copy_60 rfl ?_
        refine ww_istore_n (lv' := [(3, .int 0), (0, .ref hm), (1, .int (nI p)), (2, .int (nI q))]) C dX12_copy_61 rfl rfl rfl ?_
        have loop_62 : ∀ (fu : Nat) (i2 : Nat) (g2 : Nat → Int32), (i2 ≤ 96) → (CPG 96 p q i2 f_possible g2) → 96 - i2 < fu → WW X 4 E 62 [(3, .int (nI i2)), (0, .ref hm), (1, .int (nI p)), (2, .int (nI q))] [] [(hm, .inr (12, [.ref m_manys, .ref m_reals, .ref m_factsOf, .ref m_possible, .int (nI q_undos), .int (nI q_models), .ref m_tape, .int (nI q_taped), .int q_fault, .int q_wrong, .int q_wrongAt, .int q_spot, .int q_place, .int q_token, .int q_value, .ref m_ends, .ref m_letters, .ref m_actOf, .ref m_whom, .ref m_actMany, .ref m_tokens, .ref m_afters, .ref m_afterOf, .int q_counted, .ref m_pile, .ref m_caseMany, .ref m_happen, .ref m_hasIf, .ref m_becomes, .ref m_goneOf, .ref m_heard, .ref m_pairs, .ref m_heaps, .int q_rounds, .int q_heapMany, .ref m_led, .ref m_newAt, .ref m_knowing, .ref m_firsts, .int (nI q_people), .ref m_secrets, .ref m_tried, .ref m_lanes, .ref m_lengths, .ref m_cells])), (m_manys, .inl (E.2.1 1, 18, .inl f_2)), (m_reals, .inl (E.2.1 1, 18, .inl f_4)), (m_factsOf, .inl (E.2.1 1, 432, .inl g1)), (m_possible, .inl (E.2.1 1, 1728, .inl g2))] 0 0 := by
          intro fu
          induction fu with
          | zero => intro i2 g2 hi2 hc_g2 hmeas; exact absurd hmeas (Nat.not_lt_zero _)
          | succ fu ih_62 =>
            intro i2 g2 hi2 hc_g2 hmeas
            refine ww_iload_n C dX12_copy_62 0 rfl rfl ?_
            refine ww_bipush (v := 96) C dX12_copy_63 rfl ?_
            refine ww_icmp_ge (tgt := 96) C dX12_copy_65 (by decide) (fun c_6 => ?_) (fun c_6 => ?_)
            · have zc_6 : ((i2 : Nat) : Int) ≥ 96 := i_le rfl (nI_toInt (n := i2) (by omega)) c_6
              exact ww_vret (u := [(hm, .inr (12, [.ref m_manys, .ref m_reals, .ref m_factsOf, .ref m_possible, .int (nI q_undos), .int (nI q_models), .ref m_tape, .int (nI q_taped), .int q_fault, .int q_wrong, .int q_wrongAt, .int q_spot, .int q_place, .int q_token, .int q_value, .ref m_ends, .ref m_letters, .ref m_actOf, .ref m_whom, .ref m_actMany, .ref m_tokens, .ref m_afters, .ref m_afterOf, .int q_counted, .ref m_pile, .ref m_caseMany, .ref m_happen, .ref m_hasIf, .ref m_becomes, .ref m_goneOf, .ref m_heard, .ref m_pairs, .ref m_heaps, .int q_rounds, .int q_heapMany, .ref m_led, .ref m_newAt, .ref m_knowing, .ref m_firsts, .int (nI q_people), .ref m_secrets, .ref m_tried, .ref m_lanes, .ref m_lengths, .ref m_cells])), (m_manys, .inl (E.2.1 1, 18, .inl f_2)), (m_reals, .inl (E.2.1 1, 18, .inl f_4)), (m_factsOf, .inl (E.2.1 1, 432, .inl g1)), (m_possible, .inl (E.2.1 1, 1728, .inl g2))]) C hT [0, 1, 2, 3, 4] rfl rfl rfl rfl dX12_copy_96 (⟨f_2, f_4, g1, g2, rfl, (NB.put hb_manys (t := cN f_manys p) (by omega) (by decide) ef_2), (NB.put hb_reals (t := cN f_reals p) (by omega) (by decide) ef_4), (PG.put hpg ef_2 ef_4 (by omega) (by omega) (hpg p hp)), (WFP.copy hwf hp (pgs_copy hb_manys hb_reals hp ef_2 ef_4 (by have h9 : i1 = 24 := (by omega); rw [h9] at hc_g1; exact hc_g1) (by have h9 : i2 = 96 := (by omega); rw [h9] at hc_g2; exact hc_g2))), ef_2, ef_4, (by have h9 : i1 = 24 := (by omega); rw [h9] at hc_g1; exact hc_g1), (by have h9 : i2 = 96 := (by omega); rw [h9] at hc_g2; exact hc_g2), (pgs_copy hb_manys hb_reals hp ef_2 ef_4 (by have h9 : i1 = 24 := (by omega); rw [h9] at hc_g1; exact hc_g1) (by have h9 : i2 = 96 := (by omega); rw [h9] at hc_g2; exact hc_g2))⟩)
            · have zc_6 : ((i2 : Nat) : Int) < 96 := i_nle rfl (nI_toInt (n := i2) (by omega)) c_6
              refine ww_aload_n C dX12_copy_68 1 rfl rfl ?_
              refine ww_get C fg_X12_19 0 rfl rfl dX12_copy_69 ?_
              refine ww_bipush (v := 96) C dX12_copy_72 rfl ?_
              refine ww_iload_n C dX12_copy_74 3 rfl rfl ?_
              refine ww_imul (v := (nI (96 * q))) C dX12_copy_75 (pk_mul 96 q) ?_
              refine ww_iload_n C dX12_copy_76 0 rfl rfl ?_
              refine ww_iadd (v := (nI ((96 * q) + i2))) C dX12_copy_77 (nI_add (96 * q) i2) ?_
              refine ww_aload_n C dX12_copy_78 1 rfl rfl ?_
              refine ww_get C fg_X12_19 0 rfl rfl dX12_copy_79 ?_
              refine ww_bipush (v := 96) C dX12_copy_82 rfl ?_
              refine ww_iload_n C dX12_copy_84 2 rfl rfl ?_
              refine ww_imul (v := (nI (96 * p))) C dX12_copy_85 (pk_mul 96 p) ?_
              refine ww_iload_n C dX12_copy_86 0 rfl rfl ?_
              refine ww_iadd (v := (nI ((96 * p) + i2))) C dX12_copy_87 (nI_add (96 * p) i2) ?_
              obtain ⟨x_7, ex_7⟩ : ∃ z : Int32, g2 ((96 * p) + i2) = z := ⟨_, rfl⟩
              refine ww_iald (v := x_7) C 4 rfl (vp_in_nI (by omega) (by omega)) (ldn (by omega) ex_7) dX12_copy_88 ?_
              obtain ⟨f_8, ef_8⟩ : ∃ z : Nat → Int32, upd g2 ((96 * q) + i2) x_7 = z := ⟨_, rfl⟩
              refine ww_iast (ws' := [(hm, .inr (12, [.ref m_manys, .ref m_reals, .ref m_factsOf, .ref m_possible, .int (nI q_undos), .int (nI q_models), .ref m_tape, .int (nI q_taped), .int q_fault, .int q_wrong, .int q_wrongAt, .int q_spot, .int q_place, .int q_token, .int q_value, .ref m_ends, .ref m_letters, .ref m_actOf, .ref m_whom, .ref m_actMany, .ref m_tokens, .ref m_afters, .ref m_afterOf, .int q_counted, .ref m_pile, .ref m_caseMany, .ref m_happen, .ref m_hasIf, .ref m_becomes, .ref m_goneOf, .ref m_heard, .ref m_pairs, .ref m_heaps, .int q_rounds, .int q_heapMany, .ref m_led, .ref m_newAt, .ref m_knowing, .ref m_firsts, .int (nI q_people), .ref m_secrets, .ref m_tried, .ref m_lanes, .ref m_lengths, .ref m_cells])), (m_manys, .inl (E.2.1 1, 18, .inl f_2)), (m_reals, .inl (E.2.1 1, 18, .inl f_4)), (m_factsOf, .inl (E.2.1 1, 432, .inl g1)), (m_possible, .inl (E.2.1 1, 1728, .inl f_8))]) C 4 rfl (vp_in_nI (by omega) (by omega)) (ldn2 (by omega) ef_8) rfl dX12_copy_89 ?_
              refine ww_iinc (j := 0) (v := (nI (i2 + 1))) (lv' := [(3, .int (nI (i2 + 1))), (0, .ref hm), (1, .int (nI p)), (2, .int (nI q))]) C dX12_copy_90 rfl (nI_add i2 1) rfl rfl ?_
              refine ww_goto (tgt := 62) C dX12_copy_93 (by decide) ?_
              exact ww_lv [0, 1, 2, 3] rfl (ww_sub [0, 1, 2, 3, 4] rfl rfl (ih_62 (i2 + 1) f_8 (by omega) (CPG.ext hc_g2 (by omega) (by assumption) ef_8) (by omega)))
        exact ww_lv [0, 1, 2, 3] rfl (ww_sub [0, 1, 2, 3, 4] rfl rfl (loop_62 _ 0 f_possible (by omega) CPG.nil (Nat.lt_succ_self _)))
      · have zc_5 : ((i1 : Nat) : Int) < 24 := i_nle rfl (nI_toInt (n := i1) (by omega)) c_5
        refine ww_aload_n C dX12_copy_32 1 rfl rfl ?_
        refine ww_get C fg_X12_16 0 rfl rfl dX12_copy_33 ?_
        refine ww_bipush (v := 24) C dX12_copy_36 rfl ?_
        refine ww_iload_n C dX12_copy_38 3 rfl rfl ?_
        refine ww_imul (v := (nI (24 * q))) C dX12_copy_39 (pk_mul 24 q) ?_
        refine ww_iload_n C dX12_copy_40 0 rfl rfl ?_
        refine ww_iadd (v := (nI ((24 * q) + i1))) C dX12_copy_41 (nI_add (24 * q) i1) ?_
        refine ww_aload_n C dX12_copy_42 1 rfl rfl ?_
        refine ww_get C fg_X12_16 0 rfl rfl dX12_copy_43 ?_
        refine ww_bipush (v := 24) C dX12_copy_46 rfl ?_
        refine ww_iload_n C dX12_copy_48 2 rfl rfl ?_
        refine ww_imul (v := (nI (24 * p))) C dX12_copy_49 (pk_mul 24 p) ?_
        refine ww_iload_n C dX12_copy_50 0 rfl rfl ?_
        refine ww_iadd (v := (nI ((24 * p) + i1))) C dX12_copy_51 (nI_add (24 * p) i1) ?_
        obtain ⟨x_9, ex_9⟩ : ∃ z : Int32, g1 ((24 * p) + i1) = z := ⟨_, rfl⟩
        refine ww_iald (v := x_9) C 3 rfl (vp_in_nI (by omega) (by omega)) (ldn (by omega) ex_9) dX12_copy_52 ?_
        obtain ⟨f_10, ef_10⟩ : ∃ z : Nat → Int32, upd g1 ((24 * q) + i1) x_9 = z := ⟨_, rfl⟩
        refine ww_iast (ws' := [(hm, .inr (12, [.ref m_manys, .ref m_reals, .ref m_factsOf, .ref m_possible, .int (nI q_undos), .int (nI q_models), .ref m_tape, .int (nI q_taped), .int q_fault, .int q_wrong, .int q_wrongAt, .int q_spot, .int q_place, .int q_token, .int q_value, .ref m_ends, .ref m_letters, .ref m_actOf, .ref m_whom, .ref m_actMany, .ref m_tokens, .ref m_afters, .ref m_afterOf, .int q_counted, .ref m_pile, .ref m_caseMany, .ref m_happen, .ref m_hasIf, .ref m_becomes, .ref m_goneOf, .ref m_heard, .ref m_pairs, .ref m_heaps, .int q_rounds, .int q_heapMany, .ref m_led, .ref m_newAt, .ref m_knowing, .ref m_firsts, .int (nI q_people), .ref m_secrets, .ref m_tried, .ref m_lanes, .ref m_lengths, .ref m_cells])), (m_manys, .inl (E.2.1 1, 18, .inl f_2)), (m_reals, .inl (E.2.1 1, 18, .inl f_4)), (m_factsOf, .inl (E.2.1 1, 432, .inl f_10)), (m_possible, .inl (E.2.1 1, 1728, .inl f_possible))]) C 3 rfl (vp_in_nI (by omega) (by omega)) (ldn2 (by omega) ef_10) rfl dX12_copy_53 ?_
        refine ww_iinc (j := 0) (v := (nI (i1 + 1))) (lv' := [(3, .int (nI (i1 + 1))), (0, .ref hm), (1, .int (nI p)), (2, .int (nI q))]) C dX12_copy_54 rfl (nI_add i1 1) rfl rfl ?_
        refine ww_goto (tgt := 26) C dX12_copy_57 (by decide) ?_
        exact ww_lv [0, 1, 2, 3] rfl (ww_sub [0, 1, 2, 3, 4] rfl rfl (ih_26 (i1 + 1) f_10 (by omega) (CPG.ext hc_g1 (by omega) (by assumption) ef_10) (by omega)))
  exact ww_lv [0, 1, 2, 3] rfl (ww_sub [0, 1, 2, 3, 4] rfl rfl (loop_26 _ 0 f_factsOf (by omega) CPG.nil (Nat.lt_succ_self _)))
theorem dX12_seen_0 : decode cX12_seen 0 = .ok (.aload_n 0, 1) := dl_42 (by decide +kernel)
theorem dX12_seen_1 : decode cX12_seen 1 = .ok (.getfield 19, 3) := dl_180 (by decide +kernel)
theorem dX12_seen_4 : decode cX12_seen 4 = .ok (.bipush 96, 2) := dl_16 (by decide +kernel)
theorem dX12_seen_6 : decode cX12_seen 6 = .ok (.iload_n 1, 1) := dl_27 (by decide +kernel)
theorem dX12_seen_7 : decode cX12_seen 7 = .ok (.imul, 1) := dl_104 (by decide +kernel)
theorem dX12_seen_8 : decode cX12_seen 8 = .ok (.bipush 24, 2) := dl_16 (by decide +kernel)
theorem dX12_seen_10 : decode cX12_seen 10 = .ok (.iload_n 2, 1) := dl_28 (by decide +kernel)
theorem dX12_seen_11 : decode cX12_seen 11 = .ok (.imul, 1) := dl_104 (by decide +kernel)
theorem dX12_seen_12 : decode cX12_seen 12 = .ok (.iadd, 1) := dl_96 (by decide +kernel)
theorem dX12_seen_13 : decode cX12_seen 13 = .ok (.iload_n 3, 1) := dl_29 (by decide +kernel)
theorem dX12_seen_14 : decode cX12_seen 14 = .ok (.iadd, 1) := dl_96 (by decide +kernel)
theorem dX12_seen_15 : decode cX12_seen 15 = .ok (.iaload, 1) := dl_46 (by decide +kernel)
theorem dX12_seen_16 : decode cX12_seen 16 = .ok (.ireturn, 1) := dl_172 (by decide +kernel)
set_option maxRecDepth 100000 in
set_option maxHeartbeats 4000000 in
theorem r_seen (l : Launch) (E : EV) (ro : va_W) (hm : Nat) (pg : Nat) (k : Nat) (w : Nat) (m_manys : Nat) (m_reals : Nat) (m_factsOf : Nat) (m_possible : Nat) (q_undos : Nat) (q_models : Nat) (m_tape : Nat) (q_taped : Nat) (q_fault : Int32) (q_wrong : Int32) (q_wrongAt : Int32) (q_spot : Int32) (q_place : Int32) (q_token : Int32) (q_value : Int32) (m_ends : Nat) (m_letters : Nat) (m_actOf : Nat) (m_whom : Nat) (m_actMany : Nat) (m_tokens : Nat) (m_afters : Nat) (m_afterOf : Nat) (q_counted : Int32) (m_pile : Nat) (m_caseMany : Nat) (m_happen : Nat) (m_hasIf : Nat) (m_becomes : Nat) (m_goneOf : Nat) (m_heard : Nat) (m_pairs : Nat) (m_heaps : Nat) (q_rounds : Int32) (q_heapMany : Int32) (m_led : Nat) (m_newAt : Nat) (m_knowing : Nat) (m_firsts : Nat) (q_people : Nat) (m_secrets : Nat) (m_tried : Nat) (m_lanes : Nat) (m_lengths : Nat) (m_cells : Nat) (f_possible : Nat → Int32) (hpg : pg < 18) (hk : k < 4) (hw : w < 24) : CT l yX12_seen (Cond.code yX12_seen cX12_seen 4 (some .int) :: TB) ({ frames := 0, cells := 0, slots := 0, locals := 0 }) E ro [.ref hm, .int (nI pg), .int (nI k), .int (nI w)] [(hm, .inr (12, [.ref m_manys, .ref m_reals, .ref m_factsOf, .ref m_possible, .int (nI q_undos), .int (nI q_models), .ref m_tape, .int (nI q_taped), .int q_fault, .int q_wrong, .int q_wrongAt, .int q_spot, .int q_place, .int q_token, .int q_value, .ref m_ends, .ref m_letters, .ref m_actOf, .ref m_whom, .ref m_actMany, .ref m_tokens, .ref m_afters, .ref m_afterOf, .int q_counted, .ref m_pile, .ref m_caseMany, .ref m_happen, .ref m_hasIf, .ref m_becomes, .ref m_goneOf, .ref m_heard, .ref m_pairs, .ref m_heaps, .int q_rounds, .int q_heapMany, .ref m_led, .ref m_newAt, .ref m_knowing, .ref m_firsts, .int (nI q_people), .ref m_secrets, .ref m_tried, .ref m_lanes, .ref m_lengths, .ref m_cells])), (m_possible, .inl (E.2.1 1, 1728, .inl f_possible))] (Qi E (fun (rz : Int32) uz => (rz = (f_possible (96 * pg + 24 * k + w)) ∧ uz = [(hm, .inr (12, [.ref m_manys, .ref m_reals, .ref m_factsOf, .ref m_possible, .int (nI q_undos), .int (nI q_models), .ref m_tape, .int (nI q_taped), .int q_fault, .int q_wrong, .int q_wrongAt, .int q_spot, .int q_place, .int q_token, .int q_value, .ref m_ends, .ref m_letters, .ref m_actOf, .ref m_whom, .ref m_actMany, .ref m_tokens, .ref m_afters, .ref m_afterOf, .int q_counted, .ref m_pile, .ref m_caseMany, .ref m_happen, .ref m_hasIf, .ref m_becomes, .ref m_goneOf, .ref m_heard, .ref m_pairs, .ref m_heaps, .int q_rounds, .int q_heapMany, .ref m_led, .ref m_newAt, .ref m_knowing, .ref m_firsts, .int (nI q_people), .ref m_secrets, .ref m_tried, .ref m_lanes, .ref m_lengths, .ref m_cells])), (m_possible, .inl (E.2.1 1, 1728, .inl f_possible))]))) 0 0 := by
  refine ct_of rfl rfl ?_
  intro X C hT hin hro
  show WW X 4 E 0 [(0, .ref hm), (1, .int (nI pg)), (2, .int (nI k)), (3, .int (nI w))] [] [(hm, .inr (12, [.ref m_manys, .ref m_reals, .ref m_factsOf, .ref m_possible, .int (nI q_undos), .int (nI q_models), .ref m_tape, .int (nI q_taped), .int q_fault, .int q_wrong, .int q_wrongAt, .int q_spot, .int q_place, .int q_token, .int q_value, .ref m_ends, .ref m_letters, .ref m_actOf, .ref m_whom, .ref m_actMany, .ref m_tokens, .ref m_afters, .ref m_afterOf, .int q_counted, .ref m_pile, .ref m_caseMany, .ref m_happen, .ref m_hasIf, .ref m_becomes, .ref m_goneOf, .ref m_heard, .ref m_pairs, .ref m_heaps, .int q_rounds, .int q_heapMany, .ref m_led, .ref m_newAt, .ref m_knowing, .ref m_firsts, .int (nI q_people), .ref m_secrets, .ref m_tried, .ref m_lanes, .ref m_lengths, .ref m_cells])), (m_possible, .inl (E.2.1 1, 1728, .inl f_possible))] 0 0
  refine ww_aload_n C dX12_seen_0 0 rfl rfl ?_
  refine ww_get C fg_X12_19 0 rfl rfl dX12_seen_1 ?_
  refine ww_bipush (v := 96) C dX12_seen_4 rfl ?_
  refine ww_iload_n C dX12_seen_6 1 rfl rfl ?_
  refine ww_imul (v := (nI (96 * pg))) C dX12_seen_7 (pk_mul 96 pg) ?_
  refine ww_bipush (v := 24) C dX12_seen_8 rfl ?_
  refine ww_iload_n C dX12_seen_10 2 rfl rfl ?_
  refine ww_imul (v := (nI (24 * k))) C dX12_seen_11 (pk_mul 24 k) ?_
  refine ww_iadd (v := (nI ((96 * pg) + (24 * k)))) C dX12_seen_12 (nI_add (96 * pg) (24 * k)) ?_
  refine ww_iload_n C dX12_seen_13 3 rfl rfl ?_
  refine ww_iadd (v := (nI (((96 * pg) + (24 * k)) + w))) C dX12_seen_14 (nI_add ((96 * pg) + (24 * k)) w) ?_
  obtain ⟨x_1, ex_1⟩ : ∃ z : Int32, f_possible (((96 * pg) + (24 * k)) + w) = z := ⟨_, rfl⟩
  refine ww_iald (v := x_1) C 1 rfl (vp_in_nI (by omega) (by omega)) (ldn (by omega) ex_1) dX12_seen_15 ?_
  exact ww_iret (u := [(hm, .inr (12, [.ref m_manys, .ref m_reals, .ref m_factsOf, .ref m_possible, .int (nI q_undos), .int (nI q_models), .ref m_tape, .int (nI q_taped), .int q_fault, .int q_wrong, .int q_wrongAt, .int q_spot, .int q_place, .int q_token, .int q_value, .ref m_ends, .ref m_letters, .ref m_actOf, .ref m_whom, .ref m_actMany, .ref m_tokens, .ref m_afters, .ref m_afterOf, .int q_counted, .ref m_pile, .ref m_caseMany, .ref m_happen, .ref m_hasIf, .ref m_becomes, .ref m_goneOf, .ref m_heard, .ref m_pairs, .ref m_heaps, .int q_rounds, .int q_heapMany, .ref m_led, .ref m_newAt, .ref m_knowing, .ref m_firsts, .int (nI q_people), .ref m_secrets, .ref m_tried, .ref m_lanes, .ref m_lengths, .ref m_cells])), (m_possible, .inl (E.2.1 1, 1728, .inl f_possible))]) C hT [0, 1] rfl rfl rfl rfl dX12_seen_16 (⟨(by subst_vars; rfl), rfl⟩)
theorem dX12_acts_0 : decode cX12_acts 0 = .ok (.aload_n 0, 1) := dl_42 (by decide +kernel)
theorem dX12_acts_1 : decode cX12_acts 1 = .ok (.getfield 105, 3) := dl_180 (by decide +kernel)
theorem wf_X12_105 : Cond.fieldLink RX12 105 RX12 "undos" "I" ∈ TB := tbm (tq5 (List.mem_of_getElem? (i := 82) (by decide +kernel))) (by decide +kernel)
theorem fg_X12_105 : FG RX12 105 12 4 := ⟨RX12, TX12, 45, uw_X12, wf_X12_105, rfl, by decide, rfl⟩
theorem dX12_acts_4 : decode cX12_acts 4 = .ok (.bipush 8, 2) := dl_16 (by decide +kernel)
theorem dX12_acts_6 : decode cX12_acts 6 = .ok (.if_icmp .ne 41, 3) := dl_160 (by decide +kernel)
theorem dX12_acts_47 : decode cX12_acts 47 = .ok (.aload_n 0, 1) := dl_42 (by decide +kernel)
theorem dX12_acts_48 : decode cX12_acts 48 = .ok (.iconst 0, 1) := dl_3 (by decide +kernel)
theorem dX12_acts_49 : decode cX12_acts 49 = .ok (.bipush 10, 2) := dl_16 (by decide +kernel)
theorem dX12_acts_51 : decode cX12_acts 51 = .ok (.aload_n 0, 1) := dl_42 (by decide +kernel)
theorem dX12_acts_52 : decode cX12_acts 52 = .ok (.getfield 105, 3) := dl_180 (by decide +kernel)
theorem dX12_acts_55 : decode cX12_acts 55 = .ok (.iadd, 1) := dl_96 (by decide +kernel)
theorem dX12_acts_56 : decode cX12_acts 56 = .ok (.invokevirtual 109, 3) := dl_182 (by decide +kernel)
theorem wl_X12_109 : Cond.methodLink RX12 109 yX12_copy ∈ TB := tbm (tq5 (List.mem_of_getElem? (i := 227) (by decide +kernel))) (by decide +kernel)
theorem wc_X12_copy : Cond.code yX12_copy cX12_copy 4 none ∈ TB := tbm (tq5 (List.mem_of_getElem? (i := 230) (rfl))) (by decide +kernel)
theorem wn_X12 : Cond.initialized RX12 ∈ TB := tbm (tq1 (List.mem_of_getElem? (i := 12) (by decide +kernel))) (by decide +kernel)
theorem wi_X12_copy : Cond.instanceMethod yX12_copy ∈ TB := tbm (tq5 (List.mem_of_getElem? (i := 229) (by decide +kernel))) (by decide +kernel)
theorem ws_X12_copy : Cond.selects RX12 yX12_copy yX12_copy ∈ TB := tbm (tq0 (List.mem_of_getElem? (i := 37) (by decide +kernel))) (by decide +kernel)
theorem mi_X12_copy : MI yX12_copy cX12_copy 4 none 2 := ⟨wc_X12_copy, wn_X12, ⟨by decide +kernel, by decide +kernel, by decide +kernel⟩, wi_X12_copy, ws_X12_copy⟩
theorem dX12_acts_59 : decode cX12_acts 59 = .ok (.aload_n 0, 1) := dl_42 (by decide +kernel)
theorem dX12_acts_60 : decode cX12_acts 60 = .ok (.dup, 1) := dl_89 (by decide +kernel)
theorem dX12_acts_61 : decode cX12_acts 61 = .ok (.getfield 105, 3) := dl_180 (by decide +kernel)
theorem dX12_acts_64 : decode cX12_acts 64 = .ok (.iconst 1, 1) := dl_4 (by decide +kernel)
theorem dX12_acts_65 : decode cX12_acts 65 = .ok (.iadd, 1) := dl_96 (by decide +kernel)
theorem dX12_acts_66 : decode cX12_acts 66 = .ok (.putfield 105, 3) := dl_181 (by decide +kernel)
theorem fp_X12_105 : FP RX12 105 12 4 .int false := ⟨RX12, TX12, 45, tyX12, uw_X12, wf_X12_105, rfl, by decide, rfl, tyX12_ok, nmX12, rfl, by decide +kernel⟩
theorem dX12_acts_69 : decode cX12_acts 69 = .ok (.return_, 1) := dl_177 (by decide +kernel)
theorem dX12_acts_9 : decode cX12_acts 9 = .ok (.iconst 1, 1) := dl_4 (by decide +kernel)
theorem dX12_acts_10 : decode cX12_acts 10 = .ok (.istore_n 1, 1) := dl_60 (by decide +kernel)
theorem dX12_acts_11 : decode cX12_acts 11 = .ok (.iload_n 1, 1) := dl_27 (by decide +kernel)
theorem dX12_acts_12 : decode cX12_acts 12 = .ok (.bipush 8, 2) := dl_16 (by decide +kernel)
theorem dX12_acts_14 : decode cX12_acts 14 = .ok (.if_icmp .ge 23, 3) := dl_162 (by decide +kernel)
theorem dX12_acts_37 : decode cX12_acts 37 = .ok (.aload_n 0, 1) := dl_42 (by decide +kernel)
theorem dX12_acts_38 : decode cX12_acts 38 = .ok (.dup, 1) := dl_89 (by decide +kernel)
theorem dX12_acts_39 : decode cX12_acts 39 = .ok (.getfield 105, 3) := dl_180 (by decide +kernel)
theorem dX12_acts_42 : decode cX12_acts 42 = .ok (.iconst 1, 1) := dl_4 (by decide +kernel)
theorem dX12_acts_43 : decode cX12_acts 43 = .ok (.isub, 1) := dl_100 (by decide +kernel)
theorem dX12_acts_44 : decode cX12_acts 44 = .ok (.putfield 105, 3) := dl_181 (by decide +kernel)
theorem dX12_acts_17 : decode cX12_acts 17 = .ok (.aload_n 0, 1) := dl_42 (by decide +kernel)
theorem dX12_acts_18 : decode cX12_acts 18 = .ok (.bipush 10, 2) := dl_16 (by decide +kernel)
theorem dX12_acts_20 : decode cX12_acts 20 = .ok (.iload_n 1, 1) := dl_27 (by decide +kernel)
theorem dX12_acts_21 : decode cX12_acts 21 = .ok (.iadd, 1) := dl_96 (by decide +kernel)
theorem dX12_acts_22 : decode cX12_acts 22 = .ok (.bipush 10, 2) := dl_16 (by decide +kernel)
theorem dX12_acts_24 : decode cX12_acts 24 = .ok (.iload_n 1, 1) := dl_27 (by decide +kernel)
theorem dX12_acts_25 : decode cX12_acts 25 = .ok (.iadd, 1) := dl_96 (by decide +kernel)
theorem dX12_acts_26 : decode cX12_acts 26 = .ok (.iconst 1, 1) := dl_4 (by decide +kernel)
theorem dX12_acts_27 : decode cX12_acts 27 = .ok (.isub, 1) := dl_100 (by decide +kernel)
theorem dX12_acts_28 : decode cX12_acts 28 = .ok (.invokevirtual 109, 3) := dl_182 (by decide +kernel)
theorem dX12_acts_31 : decode cX12_acts 31 = .ok (.iinc 1 1, 3) := dl_132 (by decide +kernel)
theorem dX12_acts_34 : decode cX12_acts 34 = .ok (.goto (-23), 3) := dl_167 (by decide +kernel)
set_option maxRecDepth 100000 in
set_option maxHeartbeats 4000000 in
theorem r_acts (l : Launch) (E : EV) (ro : va_W) (hm : Nat) (m_manys : Nat) (m_reals : Nat) (m_factsOf : Nat) (m_possible : Nat) (q_undos : Nat) (q_models : Nat) (m_tape : Nat) (q_taped : Nat) (q_fault : Int32) (q_wrong : Int32) (q_wrongAt : Int32) (q_spot : Int32) (q_place : Int32) (q_token : Int32) (q_value : Int32) (m_ends : Nat) (m_letters : Nat) (m_actOf : Nat) (m_whom : Nat) (m_actMany : Nat) (m_tokens : Nat) (m_afters : Nat) (m_afterOf : Nat) (q_counted : Int32) (m_pile : Nat) (m_caseMany : Nat) (m_happen : Nat) (m_hasIf : Nat) (m_becomes : Nat) (m_goneOf : Nat) (m_heard : Nat) (m_pairs : Nat) (m_heaps : Nat) (q_rounds : Int32) (q_heapMany : Int32) (m_led : Nat) (m_newAt : Nat) (m_knowing : Nat) (m_firsts : Nat) (q_people : Nat) (m_secrets : Nat) (m_tried : Nat) (m_lanes : Nat) (m_lengths : Nat) (m_cells : Nat) (f_manys : Nat → Int32) (f_reals : Nat → Int32) (f_factsOf : Nat → Int32) (f_possible : Nat → Int32) (hb_manys : NB 18 24 f_manys) (hb_reals : NB 18 23 f_reals) (hpg : PG f_manys f_reals) (hwf : WFP (pgs f_manys f_reals f_factsOf f_possible)) (hq_undos : q_undos ≤ 8) : CT l yX12_acts (Cond.code yX12_acts cX12_acts 2 none :: TB) ({ frames := 1, cells := 0, slots := 0, locals := 23 }) E ro [.ref hm] [(hm, .inr (12, [.ref m_manys, .ref m_reals, .ref m_factsOf, .ref m_possible, .int (nI q_undos), .int (nI q_models), .ref m_tape, .int (nI q_taped), .int q_fault, .int q_wrong, .int q_wrongAt, .int q_spot, .int q_place, .int q_token, .int q_value, .ref m_ends, .ref m_letters, .ref m_actOf, .ref m_whom, .ref m_actMany, .ref m_tokens, .ref m_afters, .ref m_afterOf, .int q_counted, .ref m_pile, .ref m_caseMany, .ref m_happen, .ref m_hasIf, .ref m_becomes, .ref m_goneOf, .ref m_heard, .ref m_pairs, .ref m_heaps, .int q_rounds, .int q_heapMany, .ref m_led, .ref m_newAt, .ref m_knowing, .ref m_firsts, .int (nI q_people), .ref m_secrets, .ref m_tried, .ref m_lanes, .ref m_lengths, .ref m_cells])), (m_manys, .inl (E.2.1 1, 18, .inl f_manys)), (m_reals, .inl (E.2.1 1, 18, .inl f_reals)), (m_factsOf, .inl (E.2.1 1, 432, .inl f_factsOf)), (m_possible, .inl (E.2.1 1, 1728, .inl f_possible))] (Qv E (fun uz => (∃ (uz_ : Nat) (f_manysz : Nat → Int32) (f_realsz : Nat → Int32) (f_factsOfz : Nat → Int32) (f_possiblez : Nat → Int32), uz = [(hm, .inr (12, [.ref m_manys, .ref m_reals, .ref m_factsOf, .ref m_possible, .int (nI uz_), .int (nI q_models), .ref m_tape, .int (nI q_taped), .int q_fault, .int q_wrong, .int q_wrongAt, .int q_spot, .int q_place, .int q_token, .int q_value, .ref m_ends, .ref m_letters, .ref m_actOf, .ref m_whom, .ref m_actMany, .ref m_tokens, .ref m_afters, .ref m_afterOf, .int q_counted, .ref m_pile, .ref m_caseMany, .ref m_happen, .ref m_hasIf, .ref m_becomes, .ref m_goneOf, .ref m_heard, .ref m_pairs, .ref m_heaps, .int q_rounds, .int q_heapMany, .ref m_led, .ref m_newAt, .ref m_knowing, .ref m_firsts, .int (nI q_people), .ref m_secrets, .ref m_tried, .ref m_lanes, .ref m_lengths, .ref m_cells])), (m_manys, .inl (E.2.1 1, 18, .inl f_manysz)), (m_reals, .inl (E.2.1 1, 18, .inl f_realsz)), (m_factsOf, .inl (E.2.1 1, 432, .inl f_factsOfz)), (m_possible, .inl (E.2.1 1, 1728, .inl f_possiblez))] ∧ (NB 18 24 f_manysz) ∧ (NB 18 23 f_realsz) ∧ (PG f_manysz f_realsz) ∧ (WFP (pgs f_manysz f_realsz f_factsOfz f_possiblez)) ∧ (uz_ = min (q_undos + 1) 8) ∧ (KP 10 f_manys f_manysz) ∧ (KP 10 f_reals f_realsz) ∧ (KP 240 f_factsOf f_factsOfz) ∧ (KP 960 f_possible f_possiblez) ∧ (REMS q_undos uz_ (pgs f_manys f_reals f_factsOf f_possible) (pgs f_manysz f_realsz f_factsOfz f_possiblez))))) 0 0 := by
  refine ct_of rfl rfl ?_
  intro X C hT hin hro
  show WW X 2 E 0 [(0, .ref hm)] [] [(hm, .inr (12, [.ref m_manys, .ref m_reals, .ref m_factsOf, .ref m_possible, .int (nI q_undos), .int (nI q_models), .ref m_tape, .int (nI q_taped), .int q_fault, .int q_wrong, .int q_wrongAt, .int q_spot, .int q_place, .int q_token, .int q_value, .ref m_ends, .ref m_letters, .ref m_actOf, .ref m_whom, .ref m_actMany, .ref m_tokens, .ref m_afters, .ref m_afterOf, .int q_counted, .ref m_pile, .ref m_caseMany, .ref m_happen, .ref m_hasIf, .ref m_becomes, .ref m_goneOf, .ref m_heard, .ref m_pairs, .ref m_heaps, .int q_rounds, .int q_heapMany, .ref m_led, .ref m_newAt, .ref m_knowing, .ref m_firsts, .int (nI q_people), .ref m_secrets, .ref m_tried, .ref m_lanes, .ref m_lengths, .ref m_cells])), (m_manys, .inl (E.2.1 1, 18, .inl f_manys)), (m_reals, .inl (E.2.1 1, 18, .inl f_reals)), (m_factsOf, .inl (E.2.1 1, 432, .inl f_factsOf)), (m_possible, .inl (E.2.1 1, 1728, .inl f_possible))] 0 0
  have hmn0 := (hb_manys 0 (by omega)).2
  refine ww_aload_n C dX12_acts_0 0 rfl rfl ?_
  refine ww_get C fg_X12_105 0 rfl rfl dX12_acts_1 ?_
  refine ww_bipush (v := 8) C dX12_acts_4 rfl ?_
  refine ww_icmp_ne (tgt := 47) C dX12_acts_6 (by decide) (fun c_1 => ?_) (fun c_1 => ?_)
  · have zc_1 : ((q_undos : Nat) : Int) ≠ 8 := i_ne (nI_toInt (n := q_undos) (by omega)) rfl c_1
    refine ww_aload_n C dX12_acts_47 0 rfl rfl ?_
    refine ww_iconst (v := 0) C dX12_acts_48 rfl ?_
    refine ww_bipush (v := 10) C dX12_acts_49 rfl ?_
    refine ww_aload_n C dX12_acts_51 0 rfl rfl ?_
    refine ww_get C fg_X12_105 0 rfl rfl dX12_acts_52 ?_
    refine ww_iadd (v := (nI (10 + q_undos))) C dX12_acts_55 (nI_add 10 q_undos) ?_
    refine ww_cv (wr := []) (k' := 0) (n' := 0) C (run_V (As := [.int 0, .int (nI (10 + q_undos))]) (rest := []) C (r_copy X.2.1 E ro hm 0 (10 + q_undos) m_manys m_reals m_factsOf m_possible q_undos q_models m_tape q_taped q_fault q_wrong q_wrongAt q_spot q_place q_token q_value m_ends m_letters m_actOf m_whom m_actMany m_tokens m_afters m_afterOf q_counted m_pile m_caseMany m_happen m_hasIf m_becomes m_goneOf m_heard m_pairs m_heaps q_rounds q_heapMany m_led m_newAt m_knowing m_firsts q_people m_secrets m_tried m_lanes m_lengths m_cells f_manys f_reals f_factsOf f_possible hb_manys hb_reals hpg hwf (by omega) (by omega)) mi_X12_copy wl_X12_109 rfl 0 12 rfl rfl rfl rfl rfl dX12_acts_56) (roK hro) [0, 1, 2, 3, 4] [] rfl rfl rfl rfl (fun uz hw => ?_)
    refine ex4 hw ?_
    clear hw
    intro f_manysz_3 f_realsz_4 f_factsOfz_5 f_possiblez_6 hw
    refine an8 hw ?_
    clear hw
    intro he_16 h_7 h_8 h_9 h_10 h_11 h_12 h_13 hw
    refine an1 hw ?_
    clear hw
    intro h_14 hw
    have h_15 := hw
    clear hw
    subst he_16
    refine ww_eq (ws' := [(hm, .inr (12, [.ref m_manys, .ref m_reals, .ref m_factsOf, .ref m_possible, .int (nI q_undos), .int (nI q_models), .ref m_tape, .int (nI q_taped), .int q_fault, .int q_wrong, .int q_wrongAt, .int q_spot, .int q_place, .int q_token, .int q_value, .ref m_ends, .ref m_letters, .ref m_actOf, .ref m_whom, .ref m_actMany, .ref m_tokens, .ref m_afters, .ref m_afterOf, .int q_counted, .ref m_pile, .ref m_caseMany, .ref m_happen, .ref m_hasIf, .ref m_becomes, .ref m_goneOf, .ref m_heard, .ref m_pairs, .ref m_heaps, .int q_rounds, .int q_heapMany, .ref m_led, .ref m_newAt, .ref m_knowing, .ref m_firsts, .int (nI q_people), .ref m_secrets, .ref m_tried, .ref m_lanes, .ref m_lengths, .ref m_cells])), (m_manys, .inl (E.2.1 1, 18, .inl f_manysz_3)), (m_reals, .inl (E.2.1 1, 18, .inl f_realsz_4)), (m_factsOf, .inl (E.2.1 1, 432, .inl f_factsOfz_5)), (m_possible, .inl (E.2.1 1, 1728, .inl f_possiblez_6))]) ?_ rfl rfl rfl
    refine ww_aload_n C dX12_acts_59 0 rfl rfl ?_
    refine ww_dup C dX12_acts_60 rfl ?_
    refine ww_get C fg_X12_105 0 rfl rfl dX12_acts_61 ?_
    refine ww_iconst (v := 1) C dX12_acts_64 rfl ?_
    refine ww_iadd (v := (nI (q_undos + 1))) C dX12_acts_65 (nI_add q_undos 1) ?_
    refine ww_put (ws' := [(hm, .inr (12, [.ref m_manys, .ref m_reals, .ref m_factsOf, .ref m_possible, .int (nI (q_undos + 1)), .int (nI q_models), .ref m_tape, .int (nI q_taped), .int q_fault, .int q_wrong, .int q_wrongAt, .int q_spot, .int q_place, .int q_token, .int q_value, .ref m_ends, .ref m_letters, .ref m_actOf, .ref m_whom, .ref m_actMany, .ref m_tokens, .ref m_afters, .ref m_afterOf, .int q_counted, .ref m_pile, .ref m_caseMany, .ref m_happen, .ref m_hasIf, .ref m_becomes, .ref m_goneOf, .ref m_heard, .ref m_pairs, .ref m_heaps, .int q_rounds, .int q_heapMany, .ref m_led, .ref m_newAt, .ref m_knowing, .ref m_firsts, .int (nI q_people), .ref m_secrets, .ref m_tried, .ref m_lanes, .ref m_lengths, .ref m_cells])), (m_manys, .inl (E.2.1 1, 18, .inl f_manysz_3)), (m_reals, .inl (E.2.1 1, 18, .inl f_realsz_4)), (m_factsOf, .inl (E.2.1 1, 432, .inl f_factsOfz_5)), (m_possible, .inl (E.2.1 1, 1728, .inl f_possiblez_6))]) C fp_X12_105 0 rfl rfl rfl rfl rfl dX12_acts_66 ?_
    exact ww_vret (u := [(hm, .inr (12, [.ref m_manys, .ref m_reals, .ref m_factsOf, .ref m_possible, .int (nI (q_undos + 1)), .int (nI q_models), .ref m_tape, .int (nI q_taped), .int q_fault, .int q_wrong, .int q_wrongAt, .int q_spot, .int q_place, .int q_token, .int q_value, .ref m_ends, .ref m_letters, .ref m_actOf, .ref m_whom, .ref m_actMany, .ref m_tokens, .ref m_afters, .ref m_afterOf, .int q_counted, .ref m_pile, .ref m_caseMany, .ref m_happen, .ref m_hasIf, .ref m_becomes, .ref m_goneOf, .ref m_heard, .ref m_pairs, .ref m_heaps, .int q_rounds, .int q_heapMany, .ref m_led, .ref m_newAt, .ref m_knowing, .ref m_firsts, .int (nI q_people), .ref m_secrets, .ref m_tried, .ref m_lanes, .ref m_lengths, .ref m_cells])), (m_manys, .inl (E.2.1 1, 18, .inl f_manysz_3)), (m_reals, .inl (E.2.1 1, 18, .inl f_realsz_4)), (m_factsOf, .inl (E.2.1 1, 432, .inl f_factsOfz_5)), (m_possible, .inl (E.2.1 1, 1728, .inl f_possiblez_6))]) C hT [0, 1, 2, 3, 4] rfl rfl rfl rfl dX12_acts_69 (⟨(q_undos + 1), f_manysz_3, f_realsz_4, f_factsOfz_5, f_possiblez_6, rfl, h_7, h_8, h_9, h_10, (by omega), (KP.put KP.rf (by omega) h_11), (KP.put KP.rf (by omega) h_12), (KP.tr KP.rf (CPG.kp h_13 (by omega))), (KP.tr KP.rf (CPG.kp h_14 (by omega))), (rem_n (by omega) (by omega) (by omega) h_15)⟩)
  · have zc_1 : ((q_undos : Nat) : Int) = 8 := i_eq (nI_toInt (n := q_undos) (by omega)) rfl c_1
    refine ww_iconst (v := 1) C dX12_acts_9 rfl ?_
    refine ww_istore_n (lv' := [(1, .int 1), (0, .ref hm)]) C dX12_acts_10 rfl rfl rfl ?_
    have loop_11 : ∀ (fu : Nat) (k1 : Nat) (g_manys : Nat → Int32) (g_reals : Nat → Int32) (g_factsOf : Nat → Int32) (g_possible : Nat → Int32), (1 ≤ k1 ∧ k1 ≤ 8) → (SHP (pgs f_manys f_reals f_factsOf f_possible) (pgs g_manys g_reals g_factsOf g_possible) k1) → (KP 10 f_manys g_manys) → (KP 10 f_reals g_reals) → (KP 240 f_factsOf g_factsOf) → (KP 960 f_possible g_possible) → (NB 18 24 g_manys) → (NB 18 23 g_reals) → (PG g_manys g_reals) → (WFP (pgs g_manys g_reals g_factsOf g_possible)) → 8 - k1 < fu → WW X 2 E 11 [(1, .int (nI k1)), (0, .ref hm)] [] [(hm, .inr (12, [.ref m_manys, .ref m_reals, .ref m_factsOf, .ref m_possible, .int (nI q_undos), .int (nI q_models), .ref m_tape, .int (nI q_taped), .int q_fault, .int q_wrong, .int q_wrongAt, .int q_spot, .int q_place, .int q_token, .int q_value, .ref m_ends, .ref m_letters, .ref m_actOf, .ref m_whom, .ref m_actMany, .ref m_tokens, .ref m_afters, .ref m_afterOf, .int q_counted, .ref m_pile, .ref m_caseMany, .ref m_happen, .ref m_hasIf, .ref m_becomes, .ref m_goneOf, .ref m_heard, .ref m_pairs, .ref m_heaps, .int q_rounds, .int q_heapMany, .ref m_led, .ref m_newAt, .ref m_knowing, .ref m_firsts, .int (nI q_people), .ref m_secrets, .ref m_tried, .ref m_lanes, .ref m_lengths, .ref m_cells])), (m_manys, .inl (E.2.1 1, 18, .inl g_manys)), (m_reals, .inl (E.2.1 1, 18, .inl g_reals)), (m_factsOf, .inl (E.2.1 1, 432, .inl g_factsOf)), (m_possible, .inl (E.2.1 1, 1728, .inl g_possible))] 0 0 := by
      intro fu
      induction fu with
      | zero => intro k1 g_manys g_reals g_factsOf g_possible hk1 hsh hk_manys hk_reals hk_factsOf hk_possible hnb_m_manys_11 hnb_m_reals_11 hpg_11 hwf_11 hmeas; exact absurd hmeas (Nat.not_lt_zero _)
      | succ fu ih_11 =>
        intro k1 g_manys g_reals g_factsOf g_possible hk1 hsh hk_manys hk_reals hk_factsOf hk_possible hnb_m_manys_11 hnb_m_reals_11 hpg_11 hwf_11 hmeas
        refine ww_iload_n C dX12_acts_11 0 rfl rfl ?_
        refine ww_bipush (v := 8) C dX12_acts_12 rfl ?_
        refine ww_icmp_ge (tgt := 37) C dX12_acts_14 (by decide) (fun c_17 => ?_) (fun c_17 => ?_)
        · have zc_17 : ((k1 : Nat) : Int) ≥ 8 := i_le rfl (nI_toInt (n := k1) (by omega)) c_17
          refine ww_aload_n C dX12_acts_37 1 rfl rfl ?_
          refine ww_dup C dX12_acts_38 rfl ?_
          refine ww_get C fg_X12_105 0 rfl rfl dX12_acts_39 ?_
          refine ww_iconst (v := 1) C dX12_acts_42 rfl ?_
          refine ww_isub (v := (nI (q_undos - 1))) C dX12_acts_43 (pk_sub (a := q_undos) (b := 1) (by omega)) ?_
          refine ww_put (ws' := [(hm, .inr (12, [.ref m_manys, .ref m_reals, .ref m_factsOf, .ref m_possible, .int (nI (q_undos - 1)), .int (nI q_models), .ref m_tape, .int (nI q_taped), .int q_fault, .int q_wrong, .int q_wrongAt, .int q_spot, .int q_place, .int q_token, .int q_value, .ref m_ends, .ref m_letters, .ref m_actOf, .ref m_whom, .ref m_actMany, .ref m_tokens, .ref m_afters, .ref m_afterOf, .int q_counted, .ref m_pile, .ref m_caseMany, .ref m_happen, .ref m_hasIf, .ref m_becomes, .ref m_goneOf, .ref m_heard, .ref m_pairs, .ref m_heaps, .int q_rounds, .int q_heapMany, .ref m_led, .ref m_newAt, .ref m_knowing, .ref m_firsts, .int (nI q_people), .ref m_secrets, .ref m_tried, .ref m_lanes, .ref m_lengths, .ref m_cells])), (m_manys, .inl (E.2.1 1, 18, .inl g_manys)), (m_reals, .inl (E.2.1 1, 18, .inl g_reals)), (m_factsOf, .inl (E.2.1 1, 432, .inl g_factsOf)), (m_possible, .inl (E.2.1 1, 1728, .inl g_possible))]) C fp_X12_105 0 rfl rfl rfl rfl rfl dX12_acts_44 ?_
          refine ww_aload_n C dX12_acts_47 1 rfl rfl ?_
          refine ww_iconst (v := 0) C dX12_acts_48 rfl ?_
          refine ww_bipush (v := 10) C dX12_acts_49 rfl ?_
          refine ww_aload_n C dX12_acts_51 1 rfl rfl ?_
          refine ww_get C fg_X12_105 0 rfl rfl dX12_acts_52 ?_
          refine ww_iadd (v := (nI (10 + (q_undos - 1)))) C dX12_acts_55 (nI_add 10 (q_undos - 1)) ?_
          refine ww_cv (wr := []) (k' := 0) (n' := 0) C (run_V (As := [.int 0, .int (nI (10 + (q_undos - 1)))]) (rest := []) C (r_copy X.2.1 E ro hm 0 (10 + (q_undos - 1)) m_manys m_reals m_factsOf m_possible (q_undos - 1) q_models m_tape q_taped q_fault q_wrong q_wrongAt q_spot q_place q_token q_value m_ends m_letters m_actOf m_whom m_actMany m_tokens m_afters m_afterOf q_counted m_pile m_caseMany m_happen m_hasIf m_becomes m_goneOf m_heard m_pairs m_heaps q_rounds q_heapMany m_led m_newAt m_knowing m_firsts q_people m_secrets m_tried m_lanes m_lengths m_cells g_manys g_reals g_factsOf g_possible hnb_m_manys_11 hnb_m_reals_11 hpg_11 hwf_11 (by omega) (by omega)) mi_X12_copy wl_X12_109 rfl 0 12 rfl rfl rfl rfl rfl dX12_acts_56) (roK hro) [0, 1, 2, 3, 4] [] rfl rfl rfl rfl (fun uz hw => ?_)
          refine ex4 hw ?_
          clear hw
          intro f_manysz_19 f_realsz_20 f_factsOfz_21 f_possiblez_22 hw
          refine an8 hw ?_
          clear hw
          intro he_32 h_23 h_24 h_25 h_26 h_27 h_28 h_29 hw
          refine an1 hw ?_
          clear hw
          intro h_30 hw
          have h_31 := hw
          clear hw
          subst he_32
          refine ww_eq (ws' := [(hm, .inr (12, [.ref m_manys, .ref m_reals, .ref m_factsOf, .ref m_possible, .int (nI (q_undos - 1)), .int (nI q_models), .ref m_tape, .int (nI q_taped), .int q_fault, .int q_wrong, .int q_wrongAt, .int q_spot, .int q_place, .int q_token, .int q_value, .ref m_ends, .ref m_letters, .ref m_actOf, .ref m_whom, .ref m_actMany, .ref m_tokens, .ref m_afters, .ref m_afterOf, .int q_counted, .ref m_pile, .ref m_caseMany, .ref m_happen, .ref m_hasIf, .ref m_becomes, .ref m_goneOf, .ref m_heard, .ref m_pairs, .ref m_heaps, .int q_rounds, .int q_heapMany, .ref m_led, .ref m_newAt, .ref m_knowing, .ref m_firsts, .int (nI q_people), .ref m_secrets, .ref m_tried, .ref m_lanes, .ref m_lengths, .ref m_cells])), (m_manys, .inl (E.2.1 1, 18, .inl f_manysz_19)), (m_reals, .inl (E.2.1 1, 18, .inl f_realsz_20)), (m_factsOf, .inl (E.2.1 1, 432, .inl f_factsOfz_21)), (m_possible, .inl (E.2.1 1, 1728, .inl f_possiblez_22))]) ?_ rfl rfl rfl
          refine ww_aload_n C dX12_acts_59 1 rfl rfl ?_
          refine ww_dup C dX12_acts_60 rfl ?_
          refine ww_get C fg_X12_105 0 rfl rfl dX12_acts_61 ?_
          refine ww_iconst (v := 1) C dX12_acts_64 rfl ?_
          refine ww_iadd (v := (nI ((q_undos - 1) + 1))) C dX12_acts_65 (nI_add (q_undos - 1) 1) ?_
          refine ww_put (ws' := [(hm, .inr (12, [.ref m_manys, .ref m_reals, .ref m_factsOf, .ref m_possible, .int (nI ((q_undos - 1) + 1)), .int (nI q_models), .ref m_tape, .int (nI q_taped), .int q_fault, .int q_wrong, .int q_wrongAt, .int q_spot, .int q_place, .int q_token, .int q_value, .ref m_ends, .ref m_letters, .ref m_actOf, .ref m_whom, .ref m_actMany, .ref m_tokens, .ref m_afters, .ref m_afterOf, .int q_counted, .ref m_pile, .ref m_caseMany, .ref m_happen, .ref m_hasIf, .ref m_becomes, .ref m_goneOf, .ref m_heard, .ref m_pairs, .ref m_heaps, .int q_rounds, .int q_heapMany, .ref m_led, .ref m_newAt, .ref m_knowing, .ref m_firsts, .int (nI q_people), .ref m_secrets, .ref m_tried, .ref m_lanes, .ref m_lengths, .ref m_cells])), (m_manys, .inl (E.2.1 1, 18, .inl f_manysz_19)), (m_reals, .inl (E.2.1 1, 18, .inl f_realsz_20)), (m_factsOf, .inl (E.2.1 1, 432, .inl f_factsOfz_21)), (m_possible, .inl (E.2.1 1, 1728, .inl f_possiblez_22))]) C fp_X12_105 0 rfl rfl rfl rfl rfl dX12_acts_66 ?_
          exact ww_vret (u := [(hm, .inr (12, [.ref m_manys, .ref m_reals, .ref m_factsOf, .ref m_possible, .int (nI ((q_undos - 1) + 1)), .int (nI q_models), .ref m_tape, .int (nI q_taped), .int q_fault, .int q_wrong, .int q_wrongAt, .int q_spot, .int q_place, .int q_token, .int q_value, .ref m_ends, .ref m_letters, .ref m_actOf, .ref m_whom, .ref m_actMany, .ref m_tokens, .ref m_afters, .ref m_afterOf, .int q_counted, .ref m_pile, .ref m_caseMany, .ref m_happen, .ref m_hasIf, .ref m_becomes, .ref m_goneOf, .ref m_heard, .ref m_pairs, .ref m_heaps, .int q_rounds, .int q_heapMany, .ref m_led, .ref m_newAt, .ref m_knowing, .ref m_firsts, .int (nI q_people), .ref m_secrets, .ref m_tried, .ref m_lanes, .ref m_lengths, .ref m_cells])), (m_manys, .inl (E.2.1 1, 18, .inl f_manysz_19)), (m_reals, .inl (E.2.1 1, 18, .inl f_realsz_20)), (m_factsOf, .inl (E.2.1 1, 432, .inl f_factsOfz_21)), (m_possible, .inl (E.2.1 1, 1728, .inl f_possiblez_22))]) C hT [0, 1, 2, 3, 4] rfl rfl rfl rfl dX12_acts_69 (⟨((q_undos - 1) + 1), f_manysz_19, f_realsz_20, f_factsOfz_21, f_possiblez_22, rfl, h_23, h_24, h_25, h_26, (by omega), (KP.put hk_manys (by omega) h_27), (KP.put hk_reals (by omega) h_28), (KP.tr hk_factsOf (CPG.kp h_29 (by omega))), (KP.tr hk_possible (CPG.kp h_30 (by omega))), (rem_8 hsh (by omega) (by omega) (by omega) (by omega) h_31)⟩)
        · have zc_17 : ((k1 : Nat) : Int) < 8 := i_nle rfl (nI_toInt (n := k1) (by omega)) c_17
          refine ww_aload_n C dX12_acts_17 1 rfl rfl ?_
          refine ww_bipush (v := 10) C dX12_acts_18 rfl ?_
          refine ww_iload_n C dX12_acts_20 0 rfl rfl ?_
          refine ww_iadd (v := (nI (10 + k1))) C dX12_acts_21 (nI_add 10 k1) ?_
          refine ww_bipush (v := 10) C dX12_acts_22 rfl ?_
          refine ww_iload_n C dX12_acts_24 0 rfl rfl ?_
          refine ww_iadd (v := (nI (10 + k1))) C dX12_acts_25 (nI_add 10 k1) ?_
          refine ww_iconst (v := 1) C dX12_acts_26 rfl ?_
          refine ww_isub (v := (nI ((10 + k1) - 1))) C dX12_acts_27 (pk_sub (a := (10 + k1)) (b := 1) (by omega)) ?_
          refine ww_cv (wr := []) (k' := 0) (n' := 0) C (run_V (As := [.int (nI (10 + k1)), .int (nI ((10 + k1) - 1))]) (rest := []) C (r_copy X.2.1 E ro hm (10 + k1) ((10 + k1) - 1) m_manys m_reals m_factsOf m_possible q_undos q_models m_tape q_taped q_fault q_wrong q_wrongAt q_spot q_place q_token q_value m_ends m_letters m_actOf m_whom m_actMany m_tokens m_afters m_afterOf q_counted m_pile m_caseMany m_happen m_hasIf m_becomes m_goneOf m_heard m_pairs m_heaps q_rounds q_heapMany m_led m_newAt m_knowing m_firsts q_people m_secrets m_tried m_lanes m_lengths m_cells g_manys g_reals g_factsOf g_possible hnb_m_manys_11 hnb_m_reals_11 hpg_11 hwf_11 (by omega) (by omega)) mi_X12_copy wl_X12_109 rfl 0 12 rfl rfl rfl rfl rfl dX12_acts_28) (roK hro) [0, 1, 2, 3, 4] [] rfl rfl rfl rfl (fun uz hw => ?_)
          refine ex4 hw ?_
          clear hw
          intro f_manysz_34 f_realsz_35 f_factsOfz_36 f_possiblez_37 hw
          refine an8 hw ?_
          clear hw
          intro he_47 h_38 h_39 h_40 h_41 h_42 h_43 h_44 hw
          refine an1 hw ?_
          clear hw
          intro h_45 hw
          have h_46 := hw
          clear hw
          subst he_47
          refine ww_eq (ws' := [(hm, .inr (12, [.ref m_manys, .ref m_reals, .ref m_factsOf, .ref m_possible, .int (nI q_undos), .int (nI q_models), .ref m_tape, .int (nI q_taped), .int q_fault, .int q_wrong, .int q_wrongAt, .int q_spot, .int q_place, .int q_token, .int q_value, .ref m_ends, .ref m_letters, .ref m_actOf, .ref m_whom, .ref m_actMany, .ref m_tokens, .ref m_afters, .ref m_afterOf, .int q_counted, .ref m_pile, .ref m_caseMany, .ref m_happen, .ref m_hasIf, .ref m_becomes, .ref m_goneOf, .ref m_heard, .ref m_pairs, .ref m_heaps, .int q_rounds, .int q_heapMany, .ref m_led, .ref m_newAt, .ref m_knowing, .ref m_firsts, .int (nI q_people), .ref m_secrets, .ref m_tried, .ref m_lanes, .ref m_lengths, .ref m_cells])), (m_manys, .inl (E.2.1 1, 18, .inl f_manysz_34)), (m_reals, .inl (E.2.1 1, 18, .inl f_realsz_35)), (m_factsOf, .inl (E.2.1 1, 432, .inl f_factsOfz_36)), (m_possible, .inl (E.2.1 1, 1728, .inl f_possiblez_37))]) ?_ rfl rfl rfl
          refine ww_iinc (j := 0) (v := (nI (k1 + 1))) (lv' := [(1, .int (nI (k1 + 1))), (0, .ref hm)]) C dX12_acts_31 rfl (nI_add k1 1) rfl rfl ?_
          refine ww_goto (tgt := 11) C dX12_acts_34 (by decide) ?_
          exact ww_lv [0, 1] rfl (ww_sub [0, 1, 2, 3, 4] rfl rfl (ih_11 (k1 + 1) f_manysz_34 f_realsz_35 f_factsOfz_36 f_possiblez_37 (by omega) (SHP.ext hsh (by omega) (by omega) (by omega) (by omega) h_46) (KP.put hk_manys (by omega) h_42) (KP.put hk_reals (by omega) h_43) (KP.tr hk_factsOf (CPG.kp h_44 (by omega))) (KP.tr hk_possible (CPG.kp h_45 (by omega))) h_38 h_39 h_40 h_41 (by omega)))
    exact ww_lv [0, 1] rfl (ww_sub [0, 1, 2, 3, 4] rfl rfl (loop_11 _ 1 f_manys f_reals f_factsOf f_possible (by omega) SHP.nil KP.rf KP.rf KP.rf KP.rf hb_manys hb_reals hpg hwf (Nat.lt_succ_self _)))
theorem dX12_isKnower_0 : decode cX12_isKnower 0 = .ok (.iload_n 0, 1) := dl_26 (by decide +kernel)
theorem dX12_isKnower_1 : decode cX12_isKnower 1 = .ok (.i2l, 1) := dl_133 (by decide +kernel)
theorem dX12_isKnower_2 : decode cX12_isKnower 2 = .ok (.lconst 0, 1) := dl_9 (by decide +kernel)
theorem dX12_isKnower_3 : decode cX12_isKnower 3 = .ok (.ldc2_w 113, 3) := dl_20 (by decide +kernel)
theorem wv_X12_113 : Cond.constantLong RX12 113 3 ∈ TB := tbm (tq6 (List.mem_of_getElem? (i := 2) (by decide +kernel))) (by decide +kernel)
theorem dX12_isKnower_6 : decode cX12_isKnower 6 = .ok (.invokestatic 115, 3) := dl_184 (by decide +kernel)
theorem wl_X12_115 : Cond.methodLink RX12 115 yX12_in ∈ TB := tbm (tq5 (List.mem_of_getElem? (i := 220) (by decide +kernel))) (by decide +kernel)
theorem wc_X12_in : Cond.code yX12_in cX12_in 6 (some .boolean) ∈ TB := tbm (tq5 (List.mem_of_getElem? (i := 222) (rfl))) (by decide +kernel)
theorem wt_X12_in : Cond.static yX12_in ∈ TB := tbm (tq5 (List.mem_of_getElem? (i := 221) (by decide +kernel))) (by decide +kernel)
theorem ms_X12_in : MS yX12_in cX12_in 6 (some .boolean) 3 := ⟨wc_X12_in, wn_X12, ⟨by decide +kernel, by decide +kernel, by decide +kernel⟩, wt_X12_in⟩
theorem dX12_isKnower_9 : decode cX12_isKnower 9 = .ok (.ireturn, 1) := dl_172 (by decide +kernel)
set_option maxRecDepth 100000 in
set_option maxHeartbeats 4000000 in
theorem r_isKnower (l : Launch) (E : EV) (ro : va_W) (k : Int32)  : CT l yX12_isKnower (Cond.code yX12_isKnower cX12_isKnower 1 (some .boolean) :: TB) ({ frames := 1, cells := 0, slots := 0, locals := 25 }) E ro [.int k] [] (Qi E (fun (rz : Int32) uz => (rz = 1 ∧ uz = [] ∧ (0 ≤ k.toInt) ∧ (k.toInt ≤ 3)) ∨ (rz = 0 ∧ uz = [] ∧ (k.toInt < 0 ∨ 3 < k.toInt)))) 0 0 := by
  refine ct_of rfl rfl ?_
  intro X C hT hin hro
  show WW X 1 E 0 [(0, .int k)] [] [] 0 0
  refine ww_iload_n C dX12_isKnower_0 0 rfl rfl ?_
  refine ww_i2l (v := k.toInt64) C dX12_isKnower_1 rfl ?_
  refine ww_lconst (v := 0) C dX12_isKnower_2 rfl ?_
  refine ww_ldc2 C wv_X12_113 dX12_isKnower_3 ?_
  refine ww_ci (wr := []) (k' := 0) (n' := 0) C (run_S (As := [.long k.toInt64, .long 0, .long 3]) (rest := []) C (r_in X.2.1 E ro k.toInt64 0 3 k.toInt 0 3 (Int32.toInt_toInt64 _) rfl rfl) ms_X12_in wl_X12_115 rfl rfl rfl rfl dX12_isKnower_6) (roK hro) [] [] rfl rfl rfl rfl (fun r_1 uz hw => ?_)
  rcases hw with hw | hw
  · refine an3 hw ?_
    clear hw
    intro he_4 he_5 h_2 hw
    have h_3 := hw
    clear hw
    have he_4 := he_4.symm
    subst he_4
    subst he_5
    refine ww_eq (ws' := []) ?_ rfl rfl rfl
    exact ww_zret (u := []) C hT [] rfl rfl rfl rfl rfl dX12_isKnower_9 (Or.inl ⟨rfl, rfl, (by first | assumption | omega | decide), (by first | assumption | omega | decide)⟩)
  · refine an2 hw ?_
    clear hw
    intro he_7 he_8 hw
    have h_6 := hw
    clear hw
    have he_7 := he_7.symm
    subst he_7
    subst he_8
    refine ww_eq (ws' := []) ?_ rfl rfl rfl
    exact ww_zret (u := []) C hT [] rfl rfl rfl rfl rfl dX12_isKnower_9 (Or.inr ⟨rfl, rfl, (by first | assumption | omega | decide)⟩)
theorem dX12_isWorld_0 : decode cX12_isWorld 0 = .ok (.iload_n 1, 1) := dl_27 (by decide +kernel)
theorem dX12_isWorld_1 : decode cX12_isWorld 1 = .ok (.i2l, 1) := dl_133 (by decide +kernel)
theorem dX12_isWorld_2 : decode cX12_isWorld 2 = .ok (.lconst 0, 1) := dl_9 (by decide +kernel)
theorem dX12_isWorld_3 : decode cX12_isWorld 3 = .ok (.aload_n 0, 1) := dl_42 (by decide +kernel)
theorem dX12_isWorld_4 : decode cX12_isWorld 4 = .ok (.getfield 7, 3) := dl_180 (by decide +kernel)
theorem dX12_isWorld_7 : decode cX12_isWorld 7 = .ok (.iconst 0, 1) := dl_3 (by decide +kernel)
theorem dX12_isWorld_8 : decode cX12_isWorld 8 = .ok (.iaload, 1) := dl_46 (by decide +kernel)
theorem dX12_isWorld_9 : decode cX12_isWorld 9 = .ok (.iconst 1, 1) := dl_4 (by decide +kernel)
theorem dX12_isWorld_10 : decode cX12_isWorld 10 = .ok (.isub, 1) := dl_100 (by decide +kernel)
theorem dX12_isWorld_11 : decode cX12_isWorld 11 = .ok (.i2l, 1) := dl_133 (by decide +kernel)
theorem dX12_isWorld_12 : decode cX12_isWorld 12 = .ok (.invokestatic 115, 3) := dl_184 (by decide +kernel)
theorem dX12_isWorld_15 : decode cX12_isWorld 15 = .ok (.ireturn, 1) := dl_172 (by decide +kernel)
set_option maxRecDepth 100000 in
set_option maxHeartbeats 4000000 in
theorem r_isWorld (l : Launch) (E : EV) (ro : va_W) (hm : Nat) (k : Int32) (m_manys : Nat) (m_reals : Nat) (m_factsOf : Nat) (m_possible : Nat) (q_undos : Nat) (q_models : Nat) (m_tape : Nat) (q_taped : Nat) (q_fault : Int32) (q_wrong : Int32) (q_wrongAt : Int32) (q_spot : Int32) (q_place : Int32) (q_token : Int32) (q_value : Int32) (m_ends : Nat) (m_letters : Nat) (m_actOf : Nat) (m_whom : Nat) (m_actMany : Nat) (m_tokens : Nat) (m_afters : Nat) (m_afterOf : Nat) (q_counted : Int32) (m_pile : Nat) (m_caseMany : Nat) (m_happen : Nat) (m_hasIf : Nat) (m_becomes : Nat) (m_goneOf : Nat) (m_heard : Nat) (m_pairs : Nat) (m_heaps : Nat) (q_rounds : Int32) (q_heapMany : Int32) (m_led : Nat) (m_newAt : Nat) (m_knowing : Nat) (m_firsts : Nat) (q_people : Nat) (m_secrets : Nat) (m_tried : Nat) (m_lanes : Nat) (m_lengths : Nat) (m_cells : Nat) (f_manys : Nat → Int32) (hb_manys : NB 18 24 f_manys) : CT l yX12_isWorld (Cond.code yX12_isWorld cX12_isWorld 2 (some .boolean) :: TB) ({ frames := 1, cells := 0, slots := 0, locals := 25 }) E ro [.ref hm, .int k] [(hm, .inr (12, [.ref m_manys, .ref m_reals, .ref m_factsOf, .ref m_possible, .int (nI q_undos), .int (nI q_models), .ref m_tape, .int (nI q_taped), .int q_fault, .int q_wrong, .int q_wrongAt, .int q_spot, .int q_place, .int q_token, .int q_value, .ref m_ends, .ref m_letters, .ref m_actOf, .ref m_whom, .ref m_actMany, .ref m_tokens, .ref m_afters, .ref m_afterOf, .int q_counted, .ref m_pile, .ref m_caseMany, .ref m_happen, .ref m_hasIf, .ref m_becomes, .ref m_goneOf, .ref m_heard, .ref m_pairs, .ref m_heaps, .int q_rounds, .int q_heapMany, .ref m_led, .ref m_newAt, .ref m_knowing, .ref m_firsts, .int (nI q_people), .ref m_secrets, .ref m_tried, .ref m_lanes, .ref m_lengths, .ref m_cells])), (m_manys, .inl (E.2.1 1, 18, .inl f_manys))] (Qi E (fun (rz : Int32) uz => (rz = 1 ∧ uz = [(hm, .inr (12, [.ref m_manys, .ref m_reals, .ref m_factsOf, .ref m_possible, .int (nI q_undos), .int (nI q_models), .ref m_tape, .int (nI q_taped), .int q_fault, .int q_wrong, .int q_wrongAt, .int q_spot, .int q_place, .int q_token, .int q_value, .ref m_ends, .ref m_letters, .ref m_actOf, .ref m_whom, .ref m_actMany, .ref m_tokens, .ref m_afters, .ref m_afterOf, .int q_counted, .ref m_pile, .ref m_caseMany, .ref m_happen, .ref m_hasIf, .ref m_becomes, .ref m_goneOf, .ref m_heard, .ref m_pairs, .ref m_heaps, .int q_rounds, .int q_heapMany, .ref m_led, .ref m_newAt, .ref m_knowing, .ref m_firsts, .int (nI q_people), .ref m_secrets, .ref m_tried, .ref m_lanes, .ref m_lengths, .ref m_cells])), (m_manys, .inl (E.2.1 1, 18, .inl f_manys))] ∧ (0 ≤ k.toInt) ∧ (k.toInt < cN f_manys 0)) ∨ (rz = 0 ∧ uz = [(hm, .inr (12, [.ref m_manys, .ref m_reals, .ref m_factsOf, .ref m_possible, .int (nI q_undos), .int (nI q_models), .ref m_tape, .int (nI q_taped), .int q_fault, .int q_wrong, .int q_wrongAt, .int q_spot, .int q_place, .int q_token, .int q_value, .ref m_ends, .ref m_letters, .ref m_actOf, .ref m_whom, .ref m_actMany, .ref m_tokens, .ref m_afters, .ref m_afterOf, .int q_counted, .ref m_pile, .ref m_caseMany, .ref m_happen, .ref m_hasIf, .ref m_becomes, .ref m_goneOf, .ref m_heard, .ref m_pairs, .ref m_heaps, .int q_rounds, .int q_heapMany, .ref m_led, .ref m_newAt, .ref m_knowing, .ref m_firsts, .int (nI q_people), .ref m_secrets, .ref m_tried, .ref m_lanes, .ref m_lengths, .ref m_cells])), (m_manys, .inl (E.2.1 1, 18, .inl f_manys))] ∧ (k.toInt < 0 ∨ ((cN f_manys 0 : Nat) : Int) ≤ k.toInt)))) 0 0 := by
  refine ct_of rfl rfl ?_
  intro X C hT hin hro
  show WW X 2 E 0 [(0, .ref hm), (1, .int k)] [] [(hm, .inr (12, [.ref m_manys, .ref m_reals, .ref m_factsOf, .ref m_possible, .int (nI q_undos), .int (nI q_models), .ref m_tape, .int (nI q_taped), .int q_fault, .int q_wrong, .int q_wrongAt, .int q_spot, .int q_place, .int q_token, .int q_value, .ref m_ends, .ref m_letters, .ref m_actOf, .ref m_whom, .ref m_actMany, .ref m_tokens, .ref m_afters, .ref m_afterOf, .int q_counted, .ref m_pile, .ref m_caseMany, .ref m_happen, .ref m_hasIf, .ref m_becomes, .ref m_goneOf, .ref m_heard, .ref m_pairs, .ref m_heaps, .int q_rounds, .int q_heapMany, .ref m_led, .ref m_newAt, .ref m_knowing, .ref m_firsts, .int (nI q_people), .ref m_secrets, .ref m_tried, .ref m_lanes, .ref m_lengths, .ref m_cells])), (m_manys, .inl (E.2.1 1, 18, .inl f_manys))] 0 0
  have hmn0 := (hb_manys 0 (by omega)).2
  refine ww_iload_n C dX12_isWorld_0 1 rfl rfl ?_
  refine ww_i2l (v := k.toInt64) C dX12_isWorld_1 rfl ?_
  refine ww_lconst (v := 0) C dX12_isWorld_2 rfl ?_
  refine ww_aload_n C dX12_isWorld_3 0 rfl rfl ?_
  refine ww_get C fg_X12_7 0 rfl rfl dX12_isWorld_4 ?_
  refine ww_iconst (v := 0) C dX12_isWorld_7 rfl ?_
  have hbx_1 := (hb_manys 0 (by omega)).2
  refine ww_iald (v := (nI (cN f_manys 0))) C 1 rfl (vin rfl) (hb_manys 0 (by omega)).1 dX12_isWorld_8 ?_
  refine ww_iconst (v := 1) C dX12_isWorld_9 rfl ?_
  obtain ⟨x_2, ex_2⟩ : ∃ z : Int32, (nI (cN f_manys 0)) - (1 : Int32) = z := ⟨_, rfl⟩
  have zx_2 : x_2.toInt = ((cN f_manys 0 : Nat) : Int) - 1 := by rw [← ex_2]; exact i_sub (nI_toInt (n := cN f_manys 0) (by omega)) rfl (by omega) (by omega)
  refine ww_isub (v := x_2) C dX12_isWorld_10 ex_2 ?_
  refine ww_i2l (v := x_2.toInt64) C dX12_isWorld_11 rfl ?_
  refine ww_ci (wr := [(hm, .inr (12, [.ref m_manys, .ref m_reals, .ref m_factsOf, .ref m_possible, .int (nI q_undos), .int (nI q_models), .ref m_tape, .int (nI q_taped), .int q_fault, .int q_wrong, .int q_wrongAt, .int q_spot, .int q_place, .int q_token, .int q_value, .ref m_ends, .ref m_letters, .ref m_actOf, .ref m_whom, .ref m_actMany, .ref m_tokens, .ref m_afters, .ref m_afterOf, .int q_counted, .ref m_pile, .ref m_caseMany, .ref m_happen, .ref m_hasIf, .ref m_becomes, .ref m_goneOf, .ref m_heard, .ref m_pairs, .ref m_heaps, .int q_rounds, .int q_heapMany, .ref m_led, .ref m_newAt, .ref m_knowing, .ref m_firsts, .int (nI q_people), .ref m_secrets, .ref m_tried, .ref m_lanes, .ref m_lengths, .ref m_cells])), (m_manys, .inl (E.2.1 1, 18, .inl f_manys))]) (k' := 0) (n' := 0) C (run_S (As := [.long k.toInt64, .long 0, .long x_2.toInt64]) (rest := []) C (r_in X.2.1 E ro k.toInt64 0 x_2.toInt64 k.toInt 0 (((cN f_manys 0 : Nat) : Int) - 1) (Int32.toInt_toInt64 _) rfl ((Int32.toInt_toInt64 _).trans zx_2)) ms_X12_in wl_X12_115 rfl rfl rfl rfl dX12_isWorld_12) (roK hro) [] [0, 1] rfl rfl rfl rfl (fun r_3 uz hw => ?_)
  rcases hw with hw | hw
  · refine an3 hw ?_
    clear hw
    intro he_6 he_7 h_4 hw
    have h_5 := hw
    clear hw
    have he_6 := he_6.symm
    subst he_6
    subst he_7
    refine ww_eq (ws' := [(hm, .inr (12, [.ref m_manys, .ref m_reals, .ref m_factsOf, .ref m_possible, .int (nI q_undos), .int (nI q_models), .ref m_tape, .int (nI q_taped), .int q_fault, .int q_wrong, .int q_wrongAt, .int q_spot, .int q_place, .int q_token, .int q_value, .ref m_ends, .ref m_letters, .ref m_actOf, .ref m_whom, .ref m_actMany, .ref m_tokens, .ref m_afters, .ref m_afterOf, .int q_counted, .ref m_pile, .ref m_caseMany, .ref m_happen, .ref m_hasIf, .ref m_becomes, .ref m_goneOf, .ref m_heard, .ref m_pairs, .ref m_heaps, .int q_rounds, .int q_heapMany, .ref m_led, .ref m_newAt, .ref m_knowing, .ref m_firsts, .int (nI q_people), .ref m_secrets, .ref m_tried, .ref m_lanes, .ref m_lengths, .ref m_cells])), (m_manys, .inl (E.2.1 1, 18, .inl f_manys))]) ?_ rfl rfl rfl
    exact ww_zret (u := [(hm, .inr (12, [.ref m_manys, .ref m_reals, .ref m_factsOf, .ref m_possible, .int (nI q_undos), .int (nI q_models), .ref m_tape, .int (nI q_taped), .int q_fault, .int q_wrong, .int q_wrongAt, .int q_spot, .int q_place, .int q_token, .int q_value, .ref m_ends, .ref m_letters, .ref m_actOf, .ref m_whom, .ref m_actMany, .ref m_tokens, .ref m_afters, .ref m_afterOf, .int q_counted, .ref m_pile, .ref m_caseMany, .ref m_happen, .ref m_hasIf, .ref m_becomes, .ref m_goneOf, .ref m_heard, .ref m_pairs, .ref m_heaps, .int q_rounds, .int q_heapMany, .ref m_led, .ref m_newAt, .ref m_knowing, .ref m_firsts, .int (nI q_people), .ref m_secrets, .ref m_tried, .ref m_lanes, .ref m_lengths, .ref m_cells])), (m_manys, .inl (E.2.1 1, 18, .inl f_manys))]) C hT [0, 1] rfl rfl rfl rfl rfl dX12_isWorld_15 (Or.inl ⟨rfl, rfl, (by first | assumption | omega | decide), (by first | assumption | omega | decide)⟩)
  · refine an2 hw ?_
    clear hw
    intro he_9 he_10 hw
    have h_8 := hw
    clear hw
    have he_9 := he_9.symm
    subst he_9
    subst he_10
    refine ww_eq (ws' := [(hm, .inr (12, [.ref m_manys, .ref m_reals, .ref m_factsOf, .ref m_possible, .int (nI q_undos), .int (nI q_models), .ref m_tape, .int (nI q_taped), .int q_fault, .int q_wrong, .int q_wrongAt, .int q_spot, .int q_place, .int q_token, .int q_value, .ref m_ends, .ref m_letters, .ref m_actOf, .ref m_whom, .ref m_actMany, .ref m_tokens, .ref m_afters, .ref m_afterOf, .int q_counted, .ref m_pile, .ref m_caseMany, .ref m_happen, .ref m_hasIf, .ref m_becomes, .ref m_goneOf, .ref m_heard, .ref m_pairs, .ref m_heaps, .int q_rounds, .int q_heapMany, .ref m_led, .ref m_newAt, .ref m_knowing, .ref m_firsts, .int (nI q_people), .ref m_secrets, .ref m_tried, .ref m_lanes, .ref m_lengths, .ref m_cells])), (m_manys, .inl (E.2.1 1, 18, .inl f_manys))]) ?_ rfl rfl rfl
    exact ww_zret (u := [(hm, .inr (12, [.ref m_manys, .ref m_reals, .ref m_factsOf, .ref m_possible, .int (nI q_undos), .int (nI q_models), .ref m_tape, .int (nI q_taped), .int q_fault, .int q_wrong, .int q_wrongAt, .int q_spot, .int q_place, .int q_token, .int q_value, .ref m_ends, .ref m_letters, .ref m_actOf, .ref m_whom, .ref m_actMany, .ref m_tokens, .ref m_afters, .ref m_afterOf, .int q_counted, .ref m_pile, .ref m_caseMany, .ref m_happen, .ref m_hasIf, .ref m_becomes, .ref m_goneOf, .ref m_heard, .ref m_pairs, .ref m_heaps, .int q_rounds, .int q_heapMany, .ref m_led, .ref m_newAt, .ref m_knowing, .ref m_firsts, .int (nI q_people), .ref m_secrets, .ref m_tried, .ref m_lanes, .ref m_lengths, .ref m_cells])), (m_manys, .inl (E.2.1 1, 18, .inl f_manys))]) C hT [0, 1] rfl rfl rfl rfl rfl dX12_isWorld_15 (Or.inr ⟨rfl, rfl, (by first | assumption | omega | decide)⟩)
theorem dX12_all_0 : decode cX12_all 0 = .ok (.iconst 1, 1) := dl_4 (by decide +kernel)
theorem dX12_all_1 : decode cX12_all 1 = .ok (.iload_n 0, 1) := dl_26 (by decide +kernel)
theorem dX12_all_2 : decode cX12_all 2 = .ok (.ishl, 1) := dl_120 (by decide +kernel)
theorem dX12_all_3 : decode cX12_all 3 = .ok (.iconst 1, 1) := dl_4 (by decide +kernel)
theorem dX12_all_4 : decode cX12_all 4 = .ok (.isub, 1) := dl_100 (by decide +kernel)
theorem dX12_all_5 : decode cX12_all 5 = .ok (.ireturn, 1) := dl_172 (by decide +kernel)
set_option maxRecDepth 100000 in
set_option maxHeartbeats 4000000 in
theorem r_all (l : Launch) (E : EV) (ro : va_W) (n : Nat) (hn : n ≤ 24) : CT l yX12_all (Cond.code yX12_all cX12_all 1 (some .int) :: TB) ({ frames := 0, cells := 0, slots := 0, locals := 0 }) E ro [.int (nI n)] [] (Qi E (fun (rz : Int32) uz => (uz = [] ∧ (∀ i, i < 32 → bt rz i = decide (i < n))))) 0 0 := by
  refine ct_of rfl rfl ?_
  intro X C hT hin hro
  show WW X 1 E 0 [(0, .int (nI n))] [] [] 0 0
  refine ww_iconst (v := 1) C dX12_all_0 rfl ?_
  refine ww_iload_n C dX12_all_1 0 rfl rfl ?_
  obtain ⟨x_1, ex_1⟩ : ∃ z : Int32, (1 : Int32) <<< ((nI n) &&& 31) = z := ⟨_, rfl⟩
  refine ww_ishl (v := x_1) C dX12_all_2 ex_1 ?_
  refine ww_iconst (v := 1) C dX12_all_3 rfl ?_
  obtain ⟨x_2, ex_2⟩ : ∃ z : Int32, x_1 - (1 : Int32) = z := ⟨_, rfl⟩
  refine ww_isub (v := x_2) C dX12_all_4 ex_2 ?_
  exact ww_iret (u := []) C hT [] rfl rfl rfl rfl dX12_all_5 (⟨rfl, (all_b hn (by assumption) (by assumption))⟩)
theorem dX12_size_0 : decode cX12_size 0 = .ok (.iconst 0, 1) := dl_3 (by decide +kernel)
theorem dX12_size_1 : decode cX12_size 1 = .ok (.istore_n 1, 1) := dl_60 (by decide +kernel)
theorem dX12_size_2 : decode cX12_size 2 = .ok (.iconst 0, 1) := dl_3 (by decide +kernel)
theorem dX12_size_3 : decode cX12_size 3 = .ok (.istore_n 2, 1) := dl_61 (by decide +kernel)
theorem dX12_size_4 : decode cX12_size 4 = .ok (.iload_n 2, 1) := dl_28 (by decide +kernel)
theorem dX12_size_5 : decode cX12_size 5 = .ok (.bipush 24, 2) := dl_16 (by decide +kernel)
theorem dX12_size_7 : decode cX12_size 7 = .ok (.if_icmp .ge 17, 3) := dl_162 (by decide +kernel)
theorem dX12_size_24 : decode cX12_size 24 = .ok (.iload_n 1, 1) := dl_27 (by decide +kernel)
theorem dX12_size_25 : decode cX12_size 25 = .ok (.ireturn, 1) := dl_172 (by decide +kernel)
theorem dX12_size_10 : decode cX12_size 10 = .ok (.iload_n 1, 1) := dl_27 (by decide +kernel)
theorem dX12_size_11 : decode cX12_size 11 = .ok (.iload_n 0, 1) := dl_26 (by decide +kernel)
theorem dX12_size_12 : decode cX12_size 12 = .ok (.iload_n 2, 1) := dl_28 (by decide +kernel)
theorem dX12_size_13 : decode cX12_size 13 = .ok (.ishr, 1) := dl_122 (by decide +kernel)
theorem dX12_size_14 : decode cX12_size 14 = .ok (.iconst 1, 1) := dl_4 (by decide +kernel)
theorem dX12_size_15 : decode cX12_size 15 = .ok (.iand, 1) := dl_126 (by decide +kernel)
theorem dX12_size_16 : decode cX12_size 16 = .ok (.iadd, 1) := dl_96 (by decide +kernel)
theorem dX12_size_17 : decode cX12_size 17 = .ok (.istore_n 1, 1) := dl_60 (by decide +kernel)
theorem dX12_size_18 : decode cX12_size 18 = .ok (.iinc 2 1, 3) := dl_132 (by decide +kernel)
theorem dX12_size_21 : decode cX12_size 21 = .ok (.goto (-17), 3) := dl_167 (by decide +kernel)
set_option maxRecDepth 100000 in
set_option maxHeartbeats 4000000 in
theorem r_size (l : Launch) (E : EV) (ro : va_W) (x : Int32)  : CT l yX12_size (Cond.code yX12_size cX12_size 3 (some .int) :: TB) ({ frames := 0, cells := 0, slots := 0, locals := 0 }) E ro [.int x] [] (Qi E (fun (rz : Int32) uz => (rz = (nI (cb (bt x) 24)) ∧ uz = [] ∧ (cb (bt x) 24 ≤ 24)))) 0 0 := by
  refine ct_of rfl rfl ?_
  intro X C hT hin hro
  show WW X 3 E 0 [(0, .int x)] [] [] 0 0
  refine ww_iconst (v := 0) C dX12_size_0 rfl ?_
  refine ww_istore_n (lv' := [(1, .int 0), (0, .int x)]) C dX12_size_1 rfl rfl rfl ?_
  refine ww_iconst (v := 0) C dX12_size_2 rfl ?_
  refine ww_istore_n (lv' := [(2, .int 0), (1, .int 0), (0, .int x)]) C dX12_size_3 rfl rfl rfl ?_
  have loop_4 : ∀ (fu : Nat) (i1 : Nat) (c1 : Nat), (i1 ≤ 24) → (c1 = cb (bt x) i1) → 24 - i1 < fu → WW X 3 E 4 [(2, .int (nI i1)), (1, .int (nI c1)), (0, .int x)] [] [] 0 0 := by
    intro fu
    induction fu with
    | zero => intro i1 c1 hi1 hc1 hmeas; exact absurd hmeas (Nat.not_lt_zero _)
    | succ fu ih_4 =>
      intro i1 c1 hi1 hc1 hmeas
      refine ww_iload_n C dX12_size_4 0 rfl rfl ?_
      refine ww_bipush (v := 24) C dX12_size_5 rfl ?_
      refine ww_icmp_ge (tgt := 24) C dX12_size_7 (by decide) (fun c_1 => ?_) (fun c_1 => ?_)
      · have zc_1 : ((i1 : Nat) : Int) ≥ 24 := i_le rfl (nI_toInt (n := i1) (by omega)) c_1
        refine ww_iload_n C dX12_size_24 1 rfl rfl ?_
        exact ww_iret (u := []) C hT [] rfl rfl rfl rfl dX12_size_25 (⟨(by rw [hc1, show i1 = 24 by omega]), rfl, (cb_le _ _)⟩)
      · have zc_1 : ((i1 : Nat) : Int) < 24 := i_nle rfl (nI_toInt (n := i1) (by omega)) c_1
        refine ww_iload_n C dX12_size_10 1 rfl rfl ?_
        refine ww_iload_n C dX12_size_11 2 rfl rfl ?_
        refine ww_iload_n C dX12_size_12 0 rfl rfl ?_
        obtain ⟨x_2, ex_2⟩ : ∃ z : Int32, x >>> ((nI i1) &&& 31) = z := ⟨_, rfl⟩
        refine ww_ishr (v := x_2) C dX12_size_13 ex_2 ?_
        refine ww_iconst (v := 1) C dX12_size_14 rfl ?_
        obtain ⟨j_3, hj_3, ej_3⟩ := pk_andE x_2 (m := 1) 1 rfl
        refine ww_iand (v := (nI j_3)) C dX12_size_15 ej_3 ?_
        refine ww_iadd (v := (nI (c1 + j_3))) C dX12_size_16 (nI_add c1 j_3) ?_
        refine ww_istore_n (lv' := [(1, .int (nI (c1 + j_3))), (2, .int (nI i1)), (0, .int x)]) C dX12_size_17 rfl rfl rfl ?_
        refine ww_iinc (j := 1) (v := (nI (i1 + 1))) (lv' := [(2, .int (nI (i1 + 1))), (1, .int (nI (c1 + j_3))), (0, .int x)]) C dX12_size_18 rfl (nI_add i1 1) rfl rfl ?_
        refine ww_goto (tgt := 4) C dX12_size_21 (by decide) ?_
        exact ww_lv [0, 1, 2] rfl (ww_sub [] rfl rfl (ih_4 (i1 + 1) (c1 + j_3) (by omega) (by rw [cb_bit (j := j_3) (by omega) (by omega) (by assumption) (by assumption)]; omega) (by omega)))
  exact ww_lv [0, 1, 2] rfl (ww_sub [] rfl rfl (loop_4 _ 0 0 (by omega) rfl (Nat.lt_succ_self _)))
end
