/-! the reference's rows: numbers below a bound -/
def NB (N B : Nat) (f : Nat → Int32) : Prop := ∀ p, p < N → f p = nI (cN f p) ∧ cN f p ≤ B
theorem NB.put {N B k t : Nat} {f g : Nat → Int32} (h : NB N B f) (ht : t ≤ B) (hB : B < 2 ^ 31) (e : upd f k (nI t) = g) : NB N B g := by
  intro p hp
  by_cases hk : p = k
  · have e1 := cN_s (by omega) e
    rw [hk, e1]
    refine ⟨?_, ht⟩
    rw [← e, pk_us]
  · rw [cN_n e hk]
    refine ⟨?_, (h p hp).2⟩
    rw [← e, pk_un hk]; exact (h p hp).1
theorem NB.zero {N B : Nat} : NB N B (fun _ => 0) := fun p _ => ⟨rfl, Nat.zero_le _⟩
/-- of every page: the real world is one of its worlds, or 0 -/
def PG (fm fr : Nat → Int32) : Prop := ∀ p, p < 18 → cN fr p < cN fm p ∨ cN fr p = 0
theorem PG.put {fm fr fm' fr' : Nat → Int32} {k a b : Nat} (h : PG fm fr) (e1 : upd fm k (nI a) = fm') (e2 : upd fr k (nI b) = fr') (ha : a < 2 ^ 31) (hb : b < 2 ^ 31) (hab : b < a ∨ b = 0) : PG fm' fr' := by
  intro p hp
  by_cases hk : p = k
  · rw [hk, cN_s ha e1, cN_s hb e2]; exact hab
  · rw [cN_n e1 hk, cN_n e2 hk]; exact h p hp
theorem PG.zero : PG (fun _ => 0) (fun _ => 0) := fun p _ => Or.inr rfl
/-- the first B places are as they were -/
def KP (B : Nat) (f g : Nat → Int32) : Prop := ∀ p, p < B → g p = f p
theorem KP.rf {B : Nat} {f : Nat → Int32} : KP B f f := fun _ _ => rfl
theorem KP.put {B k : Nat} {f g g' : Nat → Int32} {v : Int32} (h : KP B f g) (hk : B ≤ k) (e : upd g k v = g') : KP B f g' := fun p hp => by rw [← e, pk_un (by omega)]; exact h p hp
theorem KP.tr {B : Nat} {f g g' : Nat → Int32} (h : KP B f g) (h2 : KP B g g') : KP B f g' := fun p hp => (h2 p hp).trans (h p hp)
theorem KP.at {B p : Nat} {f g : Nat → Int32} (h : KP B f g) (hp : p < B) : cN g p = cN f p := by unfold cN; rw [h p hp]
theorem KP.up {B C : Nat} {f g : Nat → Int32} (h : KP B f g) (hc : C ≤ B) : KP C f g := fun p hp => h p (by omega)
/-- g is f with the first i of n places of page q taken from page p -/
def CPG (n p q i : Nat) (f g : Nat → Int32) : Prop := (∀ w, w < i → g (n * q + w) = f (n * p + w)) ∧ ∀ j, (j < n * q ∨ n * q + i ≤ j) → g j = f j
theorem CPG.nil {n p q : Nat} {f : Nat → Int32} : CPG n p q 0 f f := ⟨fun w h => absurd h (Nat.not_lt_zero _), fun _ _ => rfl⟩
theorem CPG.ext {n p q i : Nat} {f g g' : Nat → Int32} {x : Int32} (h : CPG n p q i f g) (hi : i < n) (ex : g (n * p + i) = x) (e : upd g (n * q + i) x = g') : CPG n p q (i + 1) f g' := by
  have hpq : n * p + i < n * q ∨ n * q + i ≤ n * p + i := by
    rcases Nat.lt_or_ge p q with c | c
    · left
      have := Nat.mul_le_mul_left n (show p + 1 ≤ q from c)
      rw [Nat.mul_add] at this; omega
    · right
      have := Nat.mul_le_mul_left n c
      omega
  have hx : x = f (n * p + i) := by rw [← ex]; exact h.2 _ hpq
  refine ⟨fun w hw => ?_, fun j hj => ?_⟩
  · by_cases hk : w = i
    · rw [hk, ← e, pk_us, hx]
    · rw [← e, pk_un (by omega)]; exact h.1 w (by omega)
  · rw [← e, pk_un (by omega)]; exact h.2 j (by omega)
theorem CPG.kp {n p q B : Nat} {f g : Nat → Int32} (h : CPG n p q n f g) (hB : B ≤ n * q) : KP B f g := fun j hj => h.2 j (Or.inl (by omega))
theorem cb_bit {x y : Int32} {k j : Nat} (hk : k < 32) (hj : j < 2) (e : x >>> (nI k &&& 31) = y) (ej : y &&& 1 = nI j) : cb (bt x) (k + 1) = cb (bt x) k + j := by
  rcases (show j = 0 ∨ j = 1 by omega) with rfl | rfl
  · rw [cb_f (hasb_0 hk e ej rfl)]; rfl
  · rw [cb_t (hasb_1 hk e ej rfl)]
/-- all of one row of bits are of the other -/
def SB (a b : Int32) : Prop := ∀ i, i < 32 → bt a i = true → bt b i = true
theorem SB.rf {a : Int32} : SB a a := fun _ _ h => h
theorem SB.zero {a : Int32} : SB 0 a := fun i _ h => by rw [b_0] at h; cases h
theorem SB.or {a b x c : Int32} (h : SB a b) (e : b ||| x = c) : SB a c := fun i hi hb => by rw [← e, b_or, h i hi hb]; rfl
theorem SB.lt {a b : Int32} (h : SB a b) (hne : ¬ a = b) : cb (bt a) 32 < cb (bt b) 32 := by
  refine cb_sub_lt 32 h ?_
  apply Classical.byContradiction
  intro hno
  apply hne
  apply b_ext
  intro i hi
  cases ha : bt a i with
  | true => rw [h i hi ha]
  | false =>
    cases hb : bt b i with
    | false => rfl
    | true => exact absurd ⟨i, hi, ha, hb⟩ hno
theorem SB.lt' {a b : Int32} (h : SB a b) (hne : b.toInt ≠ a.toInt) : cb (bt a) 32 < cb (bt b) 32 := h.lt (fun e => hne (by rw [e]))
/-- a byte of the tape -/
def byt (f : Nat → Int32) (t k : Nat) : Int32 := if k < t then f k else -4
theorem byt_1 {f : Nat → Int32} {t k : Nat} {x : Int32} (h : k < t) (e : f k = x) : x = byt f t k := by unfold byt; rw [if_pos h, e]
theorem byt_0 {f : Nat → Int32} {t k : Nat} (h : t ≤ k) : (-4 : Int32) = byt f t k := by unfold byt; rw [if_neg (by omega)]
theorem byt_lt {f : Nat → Int32} {t k : Nat} (h : (byt f t k).toInt ≠ -4) : k < t := by
  apply Classical.byContradiction
  intro hk
  apply h
  unfold byt
  rw [if_neg hk]; rfl
theorem dig {x : Int32} (h0 : 48 ≤ x.toInt) (h1 : x.toInt ≤ 57) : ∃ j : Nat, x - 48 = nI j ∧ j ≤ 9 ∧ (j : Int) = x.toInt - 48 := by
  have e := i_sub (x := x) (y := 48) rfl rfl (by have e48 : (48 : Int32).toInt = 48 := rfl; omega) (by have e48 : (48 : Int32).toInt = 48 := rfl; omega)
  have e48 : (48 : Int32).toInt = 48 := rfl
  obtain ⟨j, e1, e2⟩ := nI_ex (x := x - 48) (n := 9) (by omega) (by omega)
  refine ⟨j, e1, e2, ?_⟩
  rw [e1, nI_toInt (by omega)] at e
  omega
/-! the sayings of the reference -/
def wR (x : Int32) : Int := if x.toInt ≤ 4 then 0 else if x.toInt = 6 ∨ x.toInt = 7 then 2 else 1
def opr (o : Nat → Int32) : Nat → Int
  | 0 => 1
  | i + 1 => opr o i + wR (o i) - 1
theorem opr_s (o : Nat → Int32) (i : Nat) : opr o (i + 1) = opr o i + wR (o i) - 1 := rfl
theorem wR_in (x : Int32) : 0 ≤ wR x ∧ wR x ≤ 2 := by
  unfold wR; split
  · omega
  · split <;> omega
theorem wR_a0 {x : Int32} (h : x.toInt ≤ 4) : wR x = 0 := by unfold wR; rw [if_pos h]
theorem wR_a2 {x : Int32} (h : x.toInt = 6 ∨ x.toInt = 7) : wR x = 2 := by unfold wR; rw [if_neg (by omega), if_pos h]
theorem wR_a1 {x : Int32} (h : 4 < x.toInt ∧ x.toInt ≠ 6 ∧ x.toInt ≠ 7) : wR x = 1 := by unfold wR; rw [if_neg (by omega), if_neg (by omega)]
def OPR (n : Nat) (o : Nat → Int32) : Prop := (∀ i, i < n → 0 ≤ (o i).toInt ∧ (o i).toInt ≤ 12) ∧ ∀ i, i < n → 1 ≤ opr o i
def WR (n : Nat) (o : Nat → Int32) : Prop := n ≤ 32 ∧ OPR n o ∧ (n = 0 ∨ opr o n = 0)
theorem opr_le {n : Nat} {o : Nat → Int32} (h : WR n o) {i : Nat} (hi : i ≤ n) (hn : 0 < n) : opr o i ≤ (n : Int) - i := by
  obtain ⟨d, rfl⟩ : ∃ d, n = i + d := ⟨n - i, by omega⟩
  have key : ∀ d : Nat, opr o i ≤ opr o (i + d) + d := by
    intro d
    induction d with
    | zero => simp
    | succ d ih =>
      have h1 := opr_s o (i + d)
      have h2 := wR_in (o (i + d))
      show opr o i ≤ opr o (i + d + 1) + ((d + 1 : Nat) : Int)
      omega
  have h2 := key d
  have h3 := h.2.2
  omega
theorem OPR.nil {o : Nat → Int32} : OPR 0 o := ⟨fun i h => absurd h (by omega), fun i h => absurd h (by omega)⟩
theorem opr_congr {o p : Nat → Int32} : ∀ n : Nat, (∀ i, i < n → p i = o i) → opr p n = opr o n
  | 0, _ => rfl
  | n + 1, h => by rw [opr_s, opr_s, opr_congr n (fun i hi => h i (by omega)), h n (by omega)]
theorem OPR.congr {n : Nat} {o p : Nat → Int32} (h : OPR n o) (hp : ∀ i, i < n → p i = o i) : OPR n p := ⟨fun i hi => by rw [hp i hi]; exact h.1 i hi, fun i hi => by rw [opr_congr i (fun j hj => hp j (by omega))]; exact h.2 i hi⟩
theorem OPR.ext {n : Nat} {o p : Nat → Int32} {x : Int32} (h : OPR n o) (hp : ∀ i, i < n → p i = o i) (hn : p n = x) (h0 : 0 ≤ x.toInt) (h8 : x.toInt ≤ 12) (ho : 1 ≤ opr o n) : OPR (n + 1) p ∧ opr p (n + 1) = opr o n + wR x - 1 := by
  have hc : ∀ i, i ≤ n → opr p i = opr o i := fun i hi => opr_congr i (fun j hj => hp j (by omega))
  refine ⟨⟨fun i hi => ?_, fun i hi => ?_⟩, ?_⟩
  · by_cases q : i = n
    · rw [q, hn]; exact ⟨h0, h8⟩
    · rw [hp i (by omega)]; exact h.1 i (by omega)
  · rw [hc i (by omega)]
    by_cases q : i = n
    · rw [q]; exact ho
    · exact h.2 i (by omega)
  · rw [opr_s, hc n (by omega), hn]
theorem WR.congr {n : Nat} {o p : Nat → Int32} (h : WR n o) (hp : ∀ i, i < n → p i = o i) : WR n p := ⟨h.1, h.2.1.congr hp, by rw [opr_congr n hp]; exact h.2.2⟩
theorem WR.zero {o : Nat → Int32} : WR 0 o := ⟨by omega, OPR.nil, Or.inl rfl⟩
/-- the acts of slot s -/
def slot (fo : Nat → Int32) (s : Nat) : Nat → Int32 := fun i => fo (32 * s + i)
def SV (fo fm : Nat → Int32) : Prop := ∀ s, s < 24 → WR (cN fm s) (slot fo s)
theorem SV.zero {fo : Nat → Int32} : SV fo (fun _ => 0) := fun s _ => by
  have e : cN (fun _ => (0 : Int32)) s = 0 := rfl
  rw [e]; exact WR.zero
/-- slot 24 alone has changed -/
theorem SV.keep {fo fm fo' fm' : Nat → Int32} (h : SV fo fm) (h1 : KP 768 fo fo') (h2 : KP 24 fm fm') : SV fo' fm' := fun s hs => by
  rw [h2.at hs]
  have hw := h s hs
  exact hw.congr (fun i hi => by have := hw.1; exact h1 _ (by omega))
theorem SV.copy {fo fm fo' fm' : Nat → Int32} {p q : Nat} (h : SV fo fm) (hp : WR (cN fm p) (slot fo p)) (hb : cN fm p ≤ 32) (hc : CPG 32 p q 32 fo fo') (e : upd fm q (nI (cN fm p)) = fm') : SV fo' fm' := fun s hs => by
  by_cases hk : s = q
  · subst hk
    rw [cN_s (by omega) e]
    exact hp.congr (fun i hi => hc.1 i (by omega))
  · rw [cN_n e hk]
    have hw := h s hs
    refine hw.congr (fun i hi => ?_)
    have := hw.1
    exact hc.2 _ (by omega)
/-- the names' ends -/
def endsL : List Nat := [0, 1, 2, 3, 4, 7, 10, 13, 15, 19, 26, 31, 37, 45, 50]
def endsN (n : Nat) : Nat := endsL.getD n 0
def EN (f : Nat → Int32) : Prop := ∀ n, n < 15 → f n = nI (endsN n)
theorem ends_m : ∀ n, n < 14 → endsN n ≤ endsN (n + 1) ∧ endsN (n + 1) ≤ 50 := by decide +kernel
theorem ends_le : ∀ n, n < 15 → endsN n ≤ 50 := by decide +kernel
/-! the text, as the reference reads it -/
theorem byt_in {f : Nat → Int32} {t k : Nat} {lo hi : Int} (h0 : 0 ≤ lo) (h1 : hi ≤ 127) : (lo ≤ (byt f t k).toInt ∧ (byt f t k).toInt ≤ hi) ↔ (lo ≤ cz f t k ∧ cz f t k ≤ hi) := by
  by_cases q : k < t
  · rw [cz_in q h0 h1]; unfold byt; rw [if_pos q]
  · rw [cz_0 (by omega)]; unfold byt; rw [if_neg q]
    have e : (-4 : Int32).toInt = -4 := rfl
    omega
def RGY (c : Nat → Int) (fr j : Nat) (lo hi : Int) : Prop := ∀ k, fr ≤ k → k < j → lo ≤ c k ∧ c k ≤ hi
theorem RGY.nil {c : Nat → Int} {fr : Nat} {lo hi : Int} : RGY c fr fr lo hi := fun k a b => absurd a (by omega)
theorem RGY.ext {f : Nat → Int32} {t fr j : Nat} {lo hi : Int} (h : RGY (cz f t) fr j lo hi) (h0 : 0 ≤ lo) (h1 : hi ≤ 127) (hb : lo ≤ (byt f t j).toInt ∧ (byt f t j).toInt ≤ hi) : RGY (cz f t) fr (j + 1) lo hi := by
  intro k a b
  by_cases q : k = j
  · rw [q]; exact (byt_in h0 h1).mp hb
  · exact h k a (by omega)
theorem bh_y {f : Nat → Int32} {t fr j : Nat} {lo hi : Int} (h : RGY (cz f t) fr j lo hi) (a : fr ≤ j) (b : j ≤ 160) (h0 : 0 ≤ lo) (h1 : hi ≤ 127) (hs : ¬ (lo ≤ (byt f t j).toInt ∧ (byt f t j).toInt ≤ hi)) : bh (cz f t) lo hi fr = j := bh_u a b h (fun q => hs ((byt_in h0 h1).mpr q))
theorem cy_end {f : Nat → Int32} {t k : Nat} (hk : (byt f t k).toInt = -4) (hn : NB 160 255 f) (ht : t ≤ 160) : cz f t k < 0 := by
  by_cases q : k < t
  · unfold byt at hk
    rw [if_pos q, (hn k (by omega)).1, nI_toInt (by have := (hn k (by omega)).2; omega)] at hk
    omega
  · rw [cz_0 (by omega)]; decide
theorem cy_nn {f : Nat → Int32} {t k : Nat} (hk : (byt f t k).toInt ≠ -4) : 0 ≤ cz f t k := cz_nn (byt_lt hk)
theorem cy_eq {f : Nat → Int32} {t k : Nat} {lo hi : Int} (h0 : 0 ≤ lo) (h1 : hi ≤ 127) (hb : lo ≤ (byt f t k).toInt ∧ (byt f t k).toInt ≤ hi) : cz f t k = (byt f t k).toInt := by
  have h2 := (byt_in h0 h1).mp hb
  have h3 : k < t := cz_lt (f := f) (by omega)
  rw [cz_1 h3] at *
  rw [nz_eq h0 h1 h2]
  unfold byt; rw [if_pos h3]
/-! eight bytes come -/
def rexp (v : Int64) (i : Nat) : Int32 := (v >>> ((nI (56 - 8 * i)).toInt64 &&& 63)).toInt32 &&& 255
def RYW (f g : Nat → Int32) (t i : Nat) (v : Int64) : Prop := (∀ k, k < t → g k = f k) ∧ ∀ j, j < i → g (t + j) = rexp v j
theorem RYW.nil {f : Nat → Int32} {t : Nat} {v : Int64} : RYW f f t 0 v := ⟨fun _ _ => rfl, fun j h => absurd h (by omega)⟩
theorem RYW.ext {f g g' : Nat → Int32} {t i i' m tp b : Nat} {v l : Int64} {x : Int32} (h : RYW f g t i v) (e1 : v >>> ((nI m).toInt64 &&& 63) = l) (e2 : l.toInt32 = x) (e3 : x &&& 255 = nI b) (e : upd g tp (nI b) = g') (hm : m = 56 - 8 * i) (ht : tp = t + i) (hi : i' = i + 1) : RYW f g' t i' v := by
  subst hm; subst ht; subst hi; subst e1; subst e2
  refine ⟨fun k hk => ?_, fun j hj => ?_⟩
  · rw [← e, pk_un (by omega)]; exact h.1 k hk
  · by_cases q : j = i
    · rw [q, ← e, pk_us, ← e3]; rfl
    · rw [← e, pk_un (by omega)]; exact h.2 j (by omega)
/-! the names -/
theorem wd_ends : ∀ n, n < 14 → wdL n = endsN (n + 1) - endsN n ∧ wdL n ≤ 8 := by decide +kernel
theorem wd_r : ∀ n, n < 14 → ∀ k, k < wdL n → 97 ≤ wdB n k ∧ wdB n k ≤ 122 := by
  have h : ∀ n, n < 14 → ∀ k, k < 8 → k < wdL n → 97 ≤ wdB n k ∧ wdB n k ≤ 122 := by decide +kernel
  intro n hn k hk
  exact h n hn k (Nat.lt_of_lt_of_le hk (wd_ends n hn).2) hk
def LTR (fl : Nat → Int32) : Prop := ∀ n, n < 14 → ∀ k, k < wdL n → (fl (endsN n + k)).toInt = wdB n k
theorem nm_ext {f fl : Nat → Int32} {t pl n k : Nat} {x : Int32} (hl : LTR fl) (hm : ∀ j, j < k → cz f t (pl + j) = wdB n j) (hn : n < 14) (hk : k < wdL n) (ex : fl (endsN n + k) = x) (hz : (byt f t (pl + k)).toInt = x.toInt) : ∀ j, j < k + 1 → cz f t (pl + j) = wdB n j := by
  intro j hj
  by_cases q : j = k
  · subst q
    have h1 := hl n hn j hk
    have h2 := wd_r n hn j hk
    rw [ex] at h1
    rw [cy_eq (lo := 97) (hi := 122) (by decide) (by decide) (by omega)]
    omega
  · exact hm j (by omega)
theorem nm_no {f fl : Nat → Int32} {t pl tk sp n k : Nat} {x : Int32} (hl : LTR fl) (hn : n < 14) (hk : k < wdL n) (ex : fl (endsN n + k) = x) (hz : (byt f t (pl + k)).toInt ≠ x.toInt) : ¬ IN (cz f t) pl tk sp n := by
  intro h
  have h1 := hl n hn k hk
  have h2 := wd_r n hn k hk
  have h3 := h.2.2 k hk
  rw [ex] at h1
  have h4 := (byt_in (f := f) (t := t) (k := pl + k) (lo := 97) (hi := 122) (by decide) (by decide)).mpr (by omega)
  have h5 := cy_eq (f := f) (t := t) (k := pl + k) (lo := 97) (hi := 122) (by decide) (by decide) h4
  omega
theorem and4 : ∀ a, a < 16 → ∀ k, k < 4 → ((nI a &&& nI (2 ^ k)).toInt = 0 ↔ a.testBit k = false) := by decide +kernel
theorem sz4 : ∀ g, g < 16 → cb (bt (nI g)) 24 = cb g.testBit 32 := by decide +kernel
/-- of every event: the real case is one of its cases, or 0 -/
def HP (fc fh : Nat → Int32) : Prop := ∀ p, p < 4 → cN fh p < cN fc p ∨ cN fh p = 0
theorem HP.put {fm fr fm' fr' : Nat → Int32} {k a b : Nat} (h : HP fm fr) (e1 : upd fm k (nI a) = fm') (e2 : upd fr k (nI b) = fr') (ha : a < 2 ^ 31) (hb : b < 2 ^ 31) (hab : b < a ∨ b = 0) : HP fm' fr' := by
  intro p hp
  by_cases hk : p = k
  · rw [hk, cN_s ha e1, cN_s hb e2]; exact hab
  · rw [cN_n e1 hk, cN_n e2 hk]; exact h p hp
theorem HP.put2 {fm fr fr' : Nat → Int32} {k b : Nat} (h : HP fm fr) (e2 : upd fr k (nI b) = fr') (hb : b < 2 ^ 31) (hab : b < cN fm k ∨ b = 0) : HP fm fr' := by
  intro p hp
  by_cases hk : p = k
  · rw [hk, cN_s hb e2]; exact hab
  · rw [cN_n e2 hk]; exact h p hp
theorem HP.zero : HP (fun _ => 0) (fun _ => 0) := fun p _ => Or.inr rfl
theorem PG.put2 {fm fr fr' : Nat → Int32} {k b : Nat} (h : PG fm fr) (e2 : upd fr k (nI b) = fr') (hb : b < 2 ^ 31) (hab : b < cN fm k ∨ b = 0) : PG fm fr' := by
  intro p hp
  by_cases hk : p = k
  · rw [hk, cN_s hb e2]; exact hab
  · rw [cN_n e2 hk]; exact h p hp
theorem act_step {go gm go' gm' : Nat → Int32} {ac : Nat} {x : Int32} (h : OPR (cN gm 24) (slot go 24)) (ho : 1 ≤ opr (slot go 24) (cN gm 24)) (hm : cN gm 24 < 32) (em : upd gm 24 (nI (cN gm 24 + 1)) = gm') (ea : upd go (768 + cN gm 24) (nI ac) = go') (hac : ac ≤ 12) (ex : go' (768 + cN gm' 24 - 1) = x) : OPR (cN gm' 24) (slot go' 24) ∧ opr (slot go' 24) (cN gm' 24) = opr (slot go 24) (cN gm 24) + wR x - 1 ∧ cN gm' 24 = cN gm 24 + 1 ∧ x.toInt = (ac : Int) := by
  have e1 : cN gm' 24 = cN gm 24 + 1 := cN_s (by omega) em
  rw [e1] at ex
  have hx : x = nI ac := by rw [← ex, ← ea, show 768 + (cN gm 24 + 1) - 1 = 768 + cN gm 24 by omega, pk_us]
  have hi := nI_toInt (n := ac) (by omega)
  have key := OPR.ext (p := slot go' 24) (x := x) h (fun i hi => by unfold slot; rw [← ea, pk_un (by omega)]) (by unfold slot; rw [← ex]; congr 1) (by rw [hx, hi]; omega) (by rw [hx, hi]; omega) ho
  rw [e1]
  exact ⟨key.1, key.2, rfl, by rw [hx, hi]⟩
/-! pairs of worlds and cases -/
def OKP (pr : Nat → Int32) (pg w i many : Nat) : Prop := pr (96 * pg + 4 * w + i) = -4 ∨ ∃ j : Nat, (j < many ∨ j = 0) ∧ pr (96 * pg + 4 * w + i) = nI j
def PR0 (pr : Nat → Int32) (pg n i1 w1 : Nat) : Prop := ∀ w i, w < n → i < 4 → (i < i1 ∨ (i = i1 ∧ w < w1)) → OKP pr pg w i 0
theorem PR0.nil {pr : Nat → Int32} {pg n : Nat} : PR0 pr pg n 0 0 := fun w i _ _ h => absurd h (by omega)
theorem PR0.ext {pr pr' : Nat → Int32} {pg n i1 w1 : Nat} {x : Int32} (h : PR0 pr pg n i1 w1) (hi : i1 < 4) (hx : x = -4 ∨ x = 0) (e : upd pr (96 * pg + 4 * w1 + i1) x = pr') : PR0 pr' pg n i1 (w1 + 1) := by
  intro w i hw hi4 hc
  unfold OKP
  by_cases hk : w = w1 ∧ i = i1
  · obtain ⟨rfl, rfl⟩ := hk
    rw [← e, pk_us]
    rcases hx with rfl | rfl
    · exact Or.inl rfl
    · exact Or.inr ⟨0, Or.inr rfl, rfl⟩
  · rw [← e, pk_un (by omega)]
    exact h w i hw hi4 (by omega)
theorem PR0.up {pr : Nat → Int32} {pg n i1 : Nat} (h : PR0 pr pg n i1 n) : PR0 pr pg n (i1 + 1) 0 := fun w i hw hi hc => h w i hw hi (by omega)
def PRB (pr : Nat → Int32) (pg n c many : Nat) : Prop := ∀ w i, w < n → i < c → OKP pr pg w i many
theorem PR0.b {pr : Nat → Int32} {pg n c : Nat} (h : PR0 pr pg n c 0) (hc : c ≤ 4) : PRB pr pg n c 0 := fun w i hw hi => h w i hw (by omega) (Or.inl hi)
theorem PRB.put {pr pr' : Nat → Int32} {pg n c m w1 i1 : Nat} (h : PRB pr pg n c m) (hc : c ≤ 4) (hi1 : i1 < c) (e : upd pr (96 * pg + 4 * w1 + i1) (nI m) = pr') : PRB pr' pg n c (m + 1) := by
  intro w i hw hi
  unfold OKP
  by_cases hk : w = w1 ∧ i = i1
  · obtain ⟨rfl, rfl⟩ := hk
    rw [← e, pk_us]
    exact Or.inr ⟨m, Or.inl (by omega), rfl⟩
  · rw [← e, pk_un (by omega)]
    rcases h w i hw hi with q | ⟨j, hj, q⟩
    · exact Or.inl q
    · exact Or.inr ⟨j, by omega, q⟩
/-! the afters and the saying, as the reference reads them -/
theorem TK.self {c : Nat → Int} {p : Nat} : TK c p (sS c p) (sK c p) (sE c p) := ⟨rfl, rfl, rfl⟩
def AO (n : Nat) (g : Nat → Int32) (v w : Nat) : Prop := (0 < n → g 16 = nI v) ∧ (1 < n → g 17 = nI w)
theorem AO.nil {n : Nat} {g : Nat → Int32} {v w : Nat} (h : n = 0) : AO n g v w := ⟨fun q => absurd q (by omega), fun q => absurd q (by omega)⟩
theorem AO.ext {n n' x : Nat} {g g' : Nat → Int32} {v w : Nat} (h : AO n g v w) (hn : n < 2) (e : upd g (16 + n) (nI x) = g') (hn' : n' = n + 1) : AO n' g' (if n = 0 then x else v) (if n = 0 then w else x) := by
  subst hn'
  rcases (show n = 0 ∨ n = 1 by omega) with rfl | rfl
  · exact ⟨fun _ => by rw [if_pos rfl, ← e, pk_us], fun q => absurd q (by omega)⟩
  · refine ⟨fun _ => ?_, fun _ => ?_⟩
    · rw [if_neg (by decide), ← e, pk_un (by decide)]; exact h.1 (by decide)
    · rw [if_neg (by decide), ← e, pk_us]
section AH
variable {c : Nat → Int} {F n p v w s k e s1 k1 e1 s2 k2 e2 : Nat}
theorem ah_stop (hn : n ≤ 2) (h0 : TK c p s k e) (hi : aT c s k e ≠ 13) : afC c (3 - n) p n v w = .inr (p, n, v, w) := by
  rw [show 3 - n = 2 - n + 1 by omega]; exact af_no (by rw [aF_eq h0]; exact hi)
theorem ah_b1 (hn : n = 2) (h0 : TK c p s k e) (hi : aT c s k e = 13) : afC c (3 - n) p n v w = .inl s := by
  rw [show 3 - n = 2 - n + 1 by omega, af_full (by rw [aF_eq h0]; exact hi) (by omega), h0.1]
theorem ah_b2 (hn : n < 2) (h0 : TK c p s k e) (hi : aT c s k e = 13) (h1 : TK c e s1 k1 e1) (hk : k1 ≠ 2 ∨ 51 < c s1) : afC c (3 - n) p n v w = .inl s1 := by
  obtain ⟨a1, a2, a3⟩ := id h0
  obtain ⟨b1, b2, b3⟩ := h1
  rw [a3] at b1 b2
  rw [show 3 - n = 2 - n + 1 by omega, af_1 (by rw [aF_eq h0]; exact hi) hn (by rw [← b1, ← b2]; exact hk), b1]
theorem ah_b3 (hn : n < 2) (h0 : TK c p s k e) (hi : aT c s k e = 13) (h1 : TK c e s1 k1 e1) (hk : k1 = 2) (hc : c s1 ≤ 51) (h2 : sK c e1 = 3) : afC c (3 - n) p n v w = .inl (sS c e1) := by
  obtain ⟨a1, a2, a3⟩ := id h0
  obtain ⟨b1, b2, b3⟩ := h1
  rw [a3] at b1 b2 b3
  rw [show 3 - n = 2 - n + 1 by omega, af_2 (by rw [aF_eq h0]; exact hi) hn (by rw [← b2]; exact hk) (by rw [← b1]; exact hc) (by rw [← b3]; exact h2), b3]
theorem ah_go {n' x : Nat} (hn : n < 2) (hn' : n' = n + 1) (h0 : TK c p s k e) (hi : aT c s k e = 13) (h1 : TK c e s1 k1 e1) (hk : k1 = 2) (hx : (x : Int) = c s1 - 48) (hx3 : x ≤ 3) (h2 : TK c e1 s2 k2 e2) (hk2 : k2 ≠ 3) : afC c (3 - n) p n v w = afC c (3 - n') e1 n' (if n = 0 then x else v) (if n = 0 then w else x) := by
  obtain ⟨a1, a2, a3⟩ := id h0
  obtain ⟨b1, b2, b3⟩ := h1
  obtain ⟨d1, d2, d3⟩ := h2
  rw [a3] at b1 b2 b3
  have ex : (c s1 - 48).toNat = x := by omega
  rw [show 3 - n = 2 - n + 1 by omega, af_3 (by rw [aF_eq h0]; exact hi) hn (by rw [← b2]; exact hk) (by rw [← b1]; omega) (by rw [← b3, ← d2]; exact hk2), ← b3, ← b1, ex, hn', show 2 - n = 3 - (n + 1) by omega]
end AH
/-- the names read so far, in the reference's rows -/
def OPY (c : Nat → Int) (p n : Nat) (ga gw : Nat → Int32) : Prop := ∀ i, i < n → ga (768 + i) = nI (aI c p i) ∧ gw (768 + i) = nI (gI c p i) ∧ aI c p i < 13 ∧ gI c p i < 16
theorem OPY.nil {c : Nat → Int} {p n : Nat} {ga gw : Nat → Int32} (h : n = 0) : OPY c p n ga gw := fun i q => absurd q (by omega)
theorem OPY.ext {c : Nat → Int} {p n n' a x : Nat} {ga gw ga' gw' : Nat → Int32} (h : OPY c p n ga gw) (e1 : upd ga (768 + n) (nI a) = ga') (e2 : upd gw (768 + n) (nI x) = gw') (hn : n' = n + 1) (ha : aI c p n = a) (hg : gI c p n = x) (ha2 : a ≤ 12) (hg2 : x < 16) : OPY c p n' ga' gw' := by
  subst hn
  intro i hi
  by_cases q : i = n
  · rw [q, ← e1, ← e2, pk_us, pk_us, ha, hg]; exact ⟨rfl, rfl, by omega, hg2⟩
  · rw [← e1, ← e2, pk_un (by omega), pk_un (by omega)]; exact h i (by omega)
theorem gI_r {c : Nat → Int} {p i q n o s k e a x : Nat} (h : it c p i = .inr (q, n, o)) (h0 : TK c q s k e) (ha : aT c s k e = a) (hx : (a < 8 → x = 0) ∧ (8 ≤ a → x = gA a (gF c (sE c q))) ∧ x < 16) : gI c p i = x := by
  rw [gI_at h, aF_eq h0, ha]
  by_cases q9 : a < 8
  · rw [if_pos q9, hx.1 q9]
  · rw [if_neg q9, hx.2.1 (by omega)]
theorem wt_0 {a : Nat} (h : a ≤ 4) : wt a = 0 := by unfold wt; rw [if_pos h]
theorem wt_2 {a : Nat} (h : a = 6 ∨ a = 7) : wt a = 2 := by unfold wt; rw [if_neg (by omega), if_pos h]
theorem wt_1 {a : Nat} (h : 4 < a ∧ a ≠ 6 ∧ a ≠ 7) : wt a = 1 := by unfold wt; rw [if_neg (by omega), if_neg (by omega)]
/-- slot k is told anew from slot 24, the others stay -/
theorem KP.cpg {k j : Nat} {f g h : Nat → Int32} (h1 : KP 768 f g) (hc : CPG 32 24 k 32 g h) (hk : k < 24) (hj : j < 768) (hn : j < 32 * k ∨ 32 * k + 32 ≤ j) : h j = f j := by
  rw [hc.2 j hn]; exact h1 j hj
/-! events and sayings of the reference -/
def tRr (tk af : Nat → Int32) : Nat → Option Nat := fun k => if 0 < (tk k).toInt then some (cN af k) else none
theorem PLN.rmk {tk af : Nat → Int32} {j : Nat} (hj : j ≤ 7) (h : 0 < (tk (nI j).toNatClampNeg).toInt) (h0 : cN af j = 0) : PLN (tRr tk af) (nI j) := by
  refine ⟨by rw [nI_toInt (by omega)]; omega, by rw [nI_toInt (by omega)]; omega, ?_⟩
  unfold tRr
  rw [if_pos h, nI_clamp (by omega), h0]
theorem PLN.rno {tk af : Nat → Int32} {k : Int32} (h : k.toInt < 0 ∨ 7 < k.toInt ∨ (tk k.toNatClampNeg).toInt ≤ 0) : ¬ PLN (tRr tk af) k := by
  rintro ⟨h1, h2, q⟩
  unfold tRr at q
  rw [if_neg (by omega)] at q
  cases q
theorem PLN.rno3 {tk af : Nat → Int32} {j : Nat} (hj : j ≤ 7) (h0 : cN af j ≠ 0) : ¬ PLN (tRr tk af) (nI j) := by
  rintro ⟨h1, h2, q⟩
  unfold tRr at q
  rw [nI_clamp (by omega)] at q
  split at q
  · exact h0 (Option.some.inj q)
  · cases q
/-- what each holds of event e is taken away: cases below i, and case i of knowers below k -/
def HZ (e i k : Nat) (f g : Nat → Int32) : Prop := (∀ c, c < 16 → (c % 4 < i ∨ (c % 4 = i ∧ c / 4 < k)) → g (16 * e + c) = 0) ∧ ∀ j, (j < 16 * e ∨ 16 * e + 16 ≤ j) → g j = f j
theorem HZ.nil {e : Nat} {f : Nat → Int32} : HZ e 0 0 f f := ⟨fun c _ h => absurd h (by omega), fun _ _ => rfl⟩
theorem HZ.ext {e i k : Nat} {f g g' : Nat → Int32} (h : HZ e i k f g) (hi : i < 4) (hk : k < 4) (x : upd g (16 * e + 4 * k + i) 0 = g') : HZ e i (k + 1) f g' := by
  refine ⟨fun c hc hq => ?_, fun j hj => ?_⟩
  · by_cases q : 16 * e + c = 16 * e + 4 * k + i
    · rw [q, ← x, pk_us]
    · rw [← x, pk_un q]; exact h.1 c hc (by omega)
  · rw [← x, pk_un (by omega)]; exact h.2 j hj
theorem HZ.up {e i : Nat} {f g : Nat → Int32} (h : HZ e i 4 f g) : HZ e (i + 1) 0 f g := ⟨fun c hc hq => h.1 c hc (by omega), h.2⟩
/-- a word: who holds what, the first i knowers -/
def WX (e d : Nat) (gr : Int32) (i : Nat) (f g : Nat → Int32) : Prop := (∀ c, c < 16 → g (16 * e + c) = if c / 4 < i then (if c % 4 = 0 then (if d = 0 ∨ bt gr (c / 4) = true then 1 else 2) else if c % 4 = 1 then (if d = 0 then 0 else 2) else 0) else 0) ∧ ∀ j, (j < 16 * e ∨ 16 * e + 16 ≤ j) → g j = f j
theorem WX.nil {e d : Nat} {gr : Int32} {f g : Nat → Int32} (h : HZ e 4 0 f g) : WX e d gr 0 f g := ⟨fun c hc => by rw [h.1 c hc (by omega), if_neg (by omega)], h.2⟩
theorem WX.ext {e d i : Nat} {gr a b : Int32} {f g g' g'' : Nat → Int32} (h : WX e d gr i f g) (hi : i < 4) (ha : a = if d = 0 ∨ bt gr i = true then 1 else 2) (hb : b = if d = 0 then 0 else 2) (x : upd g (16 * e + 4 * i) a = g') (y : upd g' (16 * e + 4 * i + 1) b = g'') : WX e d gr (i + 1) f g'' := by
  refine ⟨fun c hc => ?_, fun j hj => ?_⟩
  · by_cases q1 : 16 * e + c = 16 * e + 4 * i + 1
    · rw [q1, ← y, pk_us, if_pos (show c / 4 < i + 1 by omega), if_neg (show ¬ c % 4 = 0 by omega), if_pos (show c % 4 = 1 by omega)]; exact hb
    · rw [← y, pk_un q1]
      by_cases q : 16 * e + c = 16 * e + 4 * i
      · rw [q, ← x, pk_us, if_pos (show c / 4 < i + 1 by omega), if_pos (show c % 4 = 0 by omega), show c / 4 = i by omega]; exact ha
      · rw [← x, pk_un q, h.1 c hc]
        by_cases q2 : c / 4 < i
        · rw [if_pos q2, if_pos (show c / 4 < i + 1 by omega)]
        · rw [if_neg q2]
          by_cases q3 : c / 4 < i + 1
          · rw [if_pos q3, if_neg (show ¬ c % 4 = 0 by omega), if_neg (show ¬ c % 4 = 1 by omega)]
          · rw [if_neg q3]
  · rw [← y, pk_un (by omega), ← x, pk_un (by omega)]; exact h.2 j hj
/-! the reference's pages, by value -/
abbrev sh (b : Nat) (f : Nat → Int32) : Nat → Int32 := fun w => f (b + w)
theorem sh_upd {f g : Nat → Int32} {b t : Nat} {x : Int32} (e : upd f (b + t) x = g) : upd (sh b f) t x = sh b g := by
  subst e
  funext w
  show upd (fun w => f (b + w)) t x w = upd f (b + t) x (b + w)
  by_cases q : w = t
  · rw [q, pk_us, pk_us]
  · rw [pk_un q, pk_un (by omega)]
theorem sh_upg {f g : Nat → Int32} {b k t : Nat} {x : Int32} (e : upd f (b + 24 * k + t) x = g) : upd (sh b f) (k * 24 + t) x = sh b g :=
  sh_upd (by rw [show b + (k * 24 + t) = b + 24 * k + t by omega]; exact e)
def pgs (fm fr ff fp : Nat → Int32) (p : Nat) : AM := am (cN fm p) (cN fr p) (sh (24 * p) ff) (sh (96 * p) fp)
theorem pg_S {fm fr ff fp : Nat → Int32} {p k w v : Nat} (hk : k < 4) (hw : w < cN fm p) : (pgs fm fr ff fp p).2.2.2 k w v = bt (fp (96 * p + 24 * k + w)) v := by
  have h1 : (pgs fm fr ff fp p).2.2.2 k w v = bt (fp (96 * p + (k * 24 + w))) v := am_S hk hw
  rw [h1, show 96 * p + (k * 24 + w) = 96 * p + 24 * k + w by omega]
theorem pg_F {fm fr ff fp : Nat → Int32} {p w : Nat} (hw : w < cN fm p) : (pgs fm fr ff fp p).2.2.1 w = ff (24 * p + w) := am_F hw
theorem pgs_0 {fm fr ff fp : Nat → Int32} : pgs fm fr ff fp 0 = am (cN fm 0) (cN fr 0) ff fp := by
  unfold pgs
  exact am_eq (fun w _ => by show ff (24 * 0 + w) = ff w; rw [Nat.mul_zero, Nat.zero_add]) (fun k w _ _ => by show fp (96 * 0 + (k * 24 + w)) = fp (k * 24 + w); rw [Nat.mul_zero, Nat.zero_add])
/-- all but page q stay, of n places a page -/
def OFF (n q : Nat) (f g : Nat → Int32) : Prop := ∀ j, (j < n * q ∨ n * q + n ≤ j) → g j = f j
theorem OFF.rf {n q : Nat} {f : Nat → Int32} : OFF n q f f := fun _ _ => rfl
theorem OFF.put {n q k : Nat} {f g g' : Nat → Int32} {v : Int32} (h : OFF n q f g) (h1 : n * q ≤ k) (h2 : k < n * q + n) (e : upd g k v = g') : OFF n q f g' := fun j hj => by
  rw [← e, pk_un (by omega)]; exact h j hj
theorem OFF.cpg {n p q : Nat} {f g : Nat → Int32} (h : CPG n p q n f g) : OFF n q f g := h.2
theorem OFF.tr {n q : Nat} {f g g' : Nat → Int32} (h : OFF n q f g) (h2 : OFF n q g g') : OFF n q f g' := fun j hj => (h2 j hj).trans (h j hj)
/-- all pages but q are as they were -/
def OTH (q : Nat) (PG PG' : Nat → AM) : Prop := ∀ p, p < 18 → p ≠ q → PG' p = PG p
theorem OTH.rf {q : Nat} {PG : Nat → AM} : OTH q PG PG := fun _ _ _ => rfl
theorem OTH.tr {q : Nat} {PG PG1 PG2 : Nat → AM} (h : OTH q PG PG1) (h2 : OTH q PG1 PG2) : OTH q PG PG2 := fun p a b => (h2 p a b).trans (h p a b)
theorem pgs_oth {fm fr ff fp fm' fr' ff' fp' : Nat → Int32} {q : Nat} (hb : NB 18 24 fm) (h1 : OFF 1 q fm fm') (h2 : OFF 1 q fr fr') (h3 : OFF 24 q ff ff') (h4 : OFF 96 q fp fp') : OTH q (pgs fm fr ff fp) (pgs fm' fr' ff' fp') := by
  intro j hj hq
  unfold pgs
  have hn := (hb j hj).2
  have e1 : cN fm' j = cN fm j := by unfold cN; rw [h1 j (by omega)]
  have e2 : cN fr' j = cN fr j := by unfold cN; rw [h2 j (by omega)]
  rw [e1, e2]
  exact am_eq (fun w hw => h3 (24 * j + w) (by omega)) (fun k w hk hw => h4 (96 * j + (k * 24 + w)) (by omega))
theorem pgs_copy {fm fr ff fp fm' fr' ff' fp' : Nat → Int32} {p q : Nat} (hb : NB 18 24 fm) (hc : NB 18 23 fr) (hp : p < 18) (h1 : upd fm q (nI (cN fm p)) = fm') (h2 : upd fr q (nI (cN fr p)) = fr') (h3 : CPG 24 p q 24 ff ff') (h4 : CPG 96 p q 96 fp fp') : ∀ j, j < 18 → pgs fm' fr' ff' fp' j = if j = q then pgs fm fr ff fp p else pgs fm fr ff fp j := by
  intro j hj
  by_cases hq : j = q
  · subst hq
    rw [if_pos rfl]
    have hn := (hb p hp).2
    have hr := (hc p hp).2
    unfold pgs
    rw [cN_s (by omega) h1, cN_s (by omega) h2]
    exact am_eq (fun w hw => h3.1 w (by omega)) (fun k w hk hw => h4.1 (k * 24 + w) (by omega))
  · rw [if_neg hq]
    exact pgs_oth hb (OFF.put OFF.rf (by omega) (by omega) h1) (OFF.put OFF.rf (by omega) (by omega) h2) (OFF.cpg h3) (OFF.cpg h4) j hj hq
/-- every page is well made -/
def WFP (PG : Nat → AM) : Prop := ∀ p, p < 18 → WFm (PG p)
theorem WFP.copy {PG PG' : Nat → AM} {p q : Nat} (h : WFP PG) (hp : p < 18) (e : ∀ j, j < 18 → PG' j = if j = q then PG p else PG j) : WFP PG' := fun j hj => by
  rw [e j hj]
  by_cases z : j = q
  · rw [if_pos z]; exact h p hp
  · rw [if_neg z]; exact h j hj
theorem WFP.at {PG PG' : Nat → AM} {q : Nat} (h : WFP PG) (ho : OTH q PG PG') (hq : WFm (PG' q)) : WFP PG' := fun j hj => by
  by_cases z : j = q
  · rw [z]; exact hq
  · rw [ho j hj z]; exact h j hj
theorem am0_wf {r : Nat} {f g : Nat → Int32} : WFm (am 0 r f g) := fun k w v hv => by
  have h1 : (decide (k < 4) && (decide (w < 0) && bt (g (k * 24 + w)) v)) = true := hv
  rw [decide_eq_false (Nat.not_lt_zero w), Bool.false_and, Bool.and_false] at h1
  cases h1
theorem WFP.zero : WFP (pgs (fun _ => 0) (fun _ => 0) (fun _ => 0) (fun _ => 0)) := fun _ _ => am0_wf
/-- the pages 10 on moved down, those below 10 + k -/
def SHP (PG PG' : Nat → AM) (k : Nat) : Prop := ∀ p, p < 18 → PG' p = if 10 ≤ p ∧ p + 1 < 10 + k then PG (p + 1) else PG p
theorem SHP.nil {PG : Nat → AM} : SHP PG PG 1 := fun p _ => by rw [if_neg (by omega)]
theorem SHP.ext {PG PG' PG2 : Nat → AM} {k a b : Nat} (h : SHP PG PG' k) (hk : k < 8) (hk1 : 1 ≤ k) (ha : a = 10 + k) (hb : b + 1 = 10 + k) (e : ∀ p, p < 18 → PG2 p = if p = b then PG' a else PG' p) : SHP PG PG2 (k + 1) := fun p hp => by
  rw [e p hp]
  by_cases q : p = b
  · rw [if_pos q, if_pos (by omega), ha, h (10 + k) (by omega), if_neg (by omega), show p + 1 = 10 + k by omega]
  · rw [if_neg q, h p hp]
    by_cases z : 10 ≤ p ∧ p + 1 < 10 + k
    · rw [if_pos z, if_pos (show 10 ≤ p ∧ p + 1 < 10 + (k + 1) by omega)]
    · rw [if_neg z, if_neg (show ¬ (10 ≤ p ∧ p + 1 < 10 + (k + 1)) by omega)]
/-- the page is remembered: what the acts do -/
def REMS (ud uz : Nat) (PG PG' : Nat → AM) : Prop := REM ud uz PG PG' ∧ (∀ p, p < 10 → PG' p = PG p) ∧ ∀ p, p < 18 → ∃ q, q < 18 ∧ PG' p = PG q
theorem rem_8 {ud uz q k : Nat} {PG PG1 PG2 : Nat → AM} (h : SHP PG PG1 k) (hk : k = 8) (hu : ud = 8) (hz : uz = 8) (hq : q = 17) (e : ∀ p, p < 18 → PG2 p = if p = q then PG1 0 else PG1 p) : REMS ud uz PG PG2 := by
  subst hk; subst hu; subst hz; subst hq
  refine ⟨⟨by omega, fun p h1 h2 => ?_⟩, fun p hp => ?_, fun p hp => ?_⟩
  · rw [e p (by omega)]
    by_cases z : p = 17
    · rw [if_pos z, if_pos (by omega), h 0 (by omega), if_neg (by omega)]
    · rw [if_neg z, if_neg (show ¬ p + 1 = 10 + 8 by omega), if_pos rfl, h p (by omega), if_pos (by omega)]
  · rw [e p (by omega), if_neg (by omega), h p (by omega), if_neg (by omega)]
  · rw [e p hp]
    by_cases z : p = 17
    · rw [if_pos z, h 0 (by omega), if_neg (by omega)]; exact ⟨0, by omega, rfl⟩
    · rw [if_neg z, h p hp]
      by_cases y : 10 ≤ p ∧ p + 1 < 10 + 8
      · rw [if_pos y]; exact ⟨p + 1, by omega, rfl⟩
      · rw [if_neg y]; exact ⟨p, hp, rfl⟩
theorem rem_n {ud uz q : Nat} {PG PG2 : Nat → AM} (hu : ud < 8) (hz : uz = ud + 1) (hq : q = 10 + ud) (e : ∀ p, p < 18 → PG2 p = if p = q then PG 0 else PG p) : REMS ud uz PG PG2 := by
  subst hz; subst hq
  refine ⟨⟨by omega, fun p h1 h2 => ?_⟩, fun p hp => ?_, fun p hp => ?_⟩
  · rw [e p (by omega)]
    by_cases z : p = 10 + ud
    · rw [if_pos z, if_pos (by omega)]
    · rw [if_neg z, if_neg (by omega), if_neg (by omega)]
  · rw [e p (by omega), if_neg (by omega)]
  · rw [e p hp]
    by_cases z : p = 10 + ud
    · rw [if_pos z]; exact ⟨0, by omega, rfl⟩
    · rw [if_neg z]; exact ⟨p, hp, rfl⟩
theorem REMS.wf {ud uz : Nat} {PG PG' : Nat → AM} (h : REMS ud uz PG PG') (hw : WFP PG) : WFP PG' := fun p hp => by
  obtain ⟨q, h1, h2⟩ := h.2.2 p hp
  rw [h2]; exact hw q h1
theorem REMS.p0 {ud uz : Nat} {PG PG' : Nat → AM} (h : REMS ud uz PG PG') : PG' 0 = PG 0 := h.2.1 0 (by omega)
/-- the kept pages stay -/
def KP6 (PG PG' : Nat → AM) : Prop := ∀ p, 6 ≤ p → p < 10 → PG' p = PG p
theorem KP6.rf {PG : Nat → AM} : KP6 PG PG := fun _ _ _ => rfl
theorem KP6.rem {ud uz : Nat} {PG PG1 PG2 : Nat → AM} (h : REMS ud uz PG PG1) (ho : ∀ p, 6 ≤ p → p < 18 → PG2 p = PG1 p) : KP6 PG PG2 := fun p a b => (ho p a (by omega)).trans (h.2.1 p b)
/-- the end of a call that acts -/
theorem rm_end {ud uz : Nat} {PG PG1 PG2 : Nat → AM} {m : AM} (hu : ud ≤ 8) (h : REMS ud uz PG PG1) (ho : ∀ p, 6 ≤ p → p < 18 → PG2 p = PG1 p) (e : PG2 0 = m) : asM uz PG2 = aRem (asM ud PG) m :=
  (asM_rem hu h.1 (fun p a b => ho p (by omega) b)).trans (congrArg (aRem (asM ud PG)) e)
theorem OTH.hi {q : Nat} {PG PG' : Nat → AM} (h : OTH q PG PG') (hq : q < 6) : ∀ p, 6 ≤ p → p < 18 → PG' p = PG p := fun p a b => h p b (by omega)
/-! one world more -/
theorem RZ.extR {n i : Nat} {g g1 g2 : Nat → Int32} (h : RZ n i g g1) (hn : n < 24) (e : upd g1 (24 * i + n) 0 = g2) : RZ n (i + 1) g g2 := RZ.ext h hn (by rw [Nat.mul_comm i 24]; exact e)
theorem pg_add {fm fr ff fp fm' fr' ff' fp' : Nat → Int32} {x : Int32} (hn : cN fm 0 < 24) (h1 : upd fm 0 (nI (cN fm 0 + 1)) = fm') (h2 : cN fr' 0 = cN fr 0) (h3 : upd ff (cN fm 0) x = ff') (h4 : RZ (cN fm 0) 4 fp fp') : pgs fm' fr' ff' fp' 0 = aAdd (pgs fm fr ff fp 0) x := by
  rw [pgs_0, pgs_0, cN_s (by omega) h1, h2]; exact am_add hn h3 h4
/-! a knower sees, or not -/
theorem pg_see {fm fr ff fp fp' : Nat → Int32} {k u v : Nat} {is : Int32} (hb : NB 18 24 fm) (hk : k < 4) (hu : u < cN fm 0) (hv : v < cN fm 0) (e : upd fp (24 * k + u) (hbt (fp (24 * k + u)) (nI v) is) = fp') : pgs fm fr ff fp' 0 = aSee (pgs fm fr ff fp 0) k u v (decide (is.toInt ≠ 0)) ∧ OTH 0 (pgs fm fr ff fp) (pgs fm fr ff fp') := by
  have hn := (hb 0 (by omega)).2
  refine ⟨?_, pgs_oth hb OFF.rf OFF.rf OFF.rf (OFF.put OFF.rf (by omega) (by omega) e)⟩
  rw [pgs_0, pgs_0]
  exact am_see hn hk hu hv (by rw [Nat.mul_comm k 24]; exact e)
theorem pg_real {fm fr ff fp fr' : Nat → Int32} {w : Nat} (hb : NB 18 24 fm) (hw : w < 2 ^ 31) (e : upd fr 0 (nI w) = fr') : pgs fm fr' ff fp 0 = aReal (pgs fm fr ff fp 0) w ∧ OTH 0 (pgs fm fr ff fp) (pgs fm fr' ff fp) :=
  ⟨by unfold pgs; rw [cN_s hw e]; rfl, pgs_oth hb OFF.rf (OFF.put OFF.rf (by omega) (by omega) e) OFF.rf OFF.rf⟩
/-! all that a knower can not tell apart -/
def RWx (f : Nat → Int32) (o : Int32) (k u v : Nat) (g0 g : Nat → Int32) : Prop := BS (g (24 * k + u)) (fun i => if i < v then alk f o u i else bt (g0 (24 * k + u)) i) ∧ ∀ j, j ≠ 24 * k + u → g j = g0 j
theorem RWx.nil {f : Nat → Int32} {o : Int32} {k u : Nat} {g : Nat → Int32} : RWx f o k u 0 g g := ⟨fun i hi => by
  show bt (g (24 * k + u)) i = if i < 0 then alk f o u i else bt (g (24 * k + u)) i
  rw [if_neg (Nat.not_lt_zero i)], fun _ _ => rfl⟩
theorem RWx.ext {f : Nat → Int32} {o is : Int32} {k u v : Nat} {g0 g g' : Nat → Int32} (h : RWx f o k u v g0 g) (hv : v ≤ 30) (hb : decide (is.toInt ≠ 0) = alk f o u v) (e : upd g (24 * k + u) (hbt (g (24 * k + u)) (nI v) is) = g') : RWx f o k u (v + 1) g0 g' := ⟨fun i hi => by
  have h1 : bt (g (24 * k + u)) i = if i < v then alk f o u i else bt (g0 (24 * k + u)) i := h.1 i hi
  rw [← e, pk_us, hbt_b hv hi]
  show _ = if i < v + 1 then alk f o u i else bt (g0 (24 * k + u)) i
  by_cases q : i = v
  · rw [if_pos q, if_pos (show i < v + 1 by omega), hb, q]
  · rw [if_neg q, h1]
    by_cases z : i < v
    · rw [if_pos z, if_pos (show i < v + 1 by omega)]
    · rw [if_neg z, if_neg (show ¬ i < v + 1 by omega)], fun j hj => by rw [← e, pk_un hj]; exact h.2 j hj⟩
def BLQ (n : Nat) (f : Nat → Int32) (x : Int32) (k u : Nat) (g0 g : Nat → Int32) : Prop := BLR n f x k u g ∧ ∀ k' w, k' < 4 → w < n → (k < k' ∨ k' = k ∧ u ≤ w) → g (k' * 24 + w) = g0 (k' * 24 + w)
theorem BLQ.nil {n : Nat} {f g : Nat → Int32} {x : Int32} : BLQ n f x 0 0 g g := ⟨BLR.nil, fun _ _ _ _ _ => rfl⟩
theorem BLQ.up {n k i : Nat} {f g0 g : Nat → Int32} {x : Int32} (h : BLQ n f x k i g0 g) (e : i = n) : BLQ n f x (k + 1) 0 g0 g := ⟨BLR.up h.1 e, fun k' w a b c => h.2 k' w a b (by omega)⟩
theorem rw_bs {n k u : Nat} {f g0 g g' : Nat → Int32} {x : Int32} (h : BLQ n f x k u g0 g) (h24 : n ≤ 24) (hu : u < n) (hk : k < 4) (hr : RWx f (ow x k) k u n g g') (h0 : ∀ i, n ≤ i → i < 32 → bt (g0 (k * 24 + u)) i = false) : BS (g' (24 * k + u)) (fun i => decide (i < n) && alk f (ow x k) u i) := fun i hi => by
  have h1 : bt (g' (24 * k + u)) i = if i < n then alk f (ow x k) u i else bt (g (24 * k + u)) i := hr.1 i hi
  rw [h1]
  show _ = (decide (i < n) && alk f (ow x k) u i)
  by_cases z : i < n
  · rw [if_pos z, decide_eq_true z, Bool.true_and]
  · rw [if_neg z, decide_eq_false z, Bool.false_and, Nat.mul_comm 24 k, h.2 k u hk hu (Or.inr ⟨rfl, Nat.le_refl _⟩)]
    exact h0 i (by omega) hi
theorem BLQ.ext {n k u : Nat} {f g0 g g' : Nat → Int32} {x : Int32} (h : BLQ n f x k u g0 g) (h24 : n ≤ 24) (hu : u < n) (hk : k < 4) (hr : RWx f (ow x k) k u n g g') (h0 : ∀ i, n ≤ i → i < 32 → bt (g0 (k * 24 + u)) i = false) : BLQ n f x k (u + 1) g0 g' := by
  refine ⟨fun k' w a b c => ?_, fun k' w a b c => ?_⟩
  · by_cases q : k' * 24 + w = k * 24 + u
    · have e1 : k' = k := by omega
      have e2 : w = u := by omega
      rw [e1, e2, Nat.mul_comm k 24]
      exact rw_bs h h24 hu hk hr h0
    · rw [hr.2 _ (by omega)]
      exact h.1 k' w a b (by omega)
  · rw [hr.2 _ (by omega)]
    exact h.2 k' w a b (by omega)
theorem cb24 {x : Int32} {P : Nat → Bool} (h : BS x P) (h0 : ∀ v, 24 ≤ v → P v = false) : cb (bt x) 24 = cb P 32 := by
  rw [← cb_BS h]
  exact (cb_flat (by omega) (fun p a b => by rw [h p b]; exact h0 p a)).symm
theorem wf_hi {n r : Nat} {f g : Nat → Int32} (h : WFm (am n r f g)) {k u : Nat} (hk : k < 4) (hu : u < n) : ∀ i, n ≤ i → i < 32 → bt (g (k * 24 + u)) i = false := fun i a b => by
  cases hb : bt (g (k * 24 + u)) i with
  | false => rfl
  | true =>
    have h1 : i < n := h k u i (by rw [am_S hk hu]; exact hb)
    omega
theorem wfp_hi {fm fr ff fp : Nat → Int32} (h : WFP (pgs fm fr ff fp)) {k u : Nat} (hk : k < 4) (hu : u < cN fm 0) : ∀ i, cN fm 0 ≤ i → i < 32 → bt (fp (k * 24 + u)) i = false :=
  wf_hi (by have h1 := h 0 (by omega); rw [pgs_0] at h1; exact h1) hk hu
theorem pg_blind {fm fr ff fp fp' : Nat → Int32} {x : Int32} {k : Nat} (hb : NB 18 24 fm) (h : BLQ (cN fm 0) ff x k 0 fp fp') (hk : k = 4) : pgs fm fr ff fp' 0 = aBlind (pgs fm fr ff fp 0) x := by
  rw [pgs_0, pgs_0]; exact am_blind (hb 0 (by omega)).2 h.1 hk
/-! what is reached -/
theorem or0 {x z : Int32} (e : x ||| (0 : Int32) = z) : z = x := by rw [← e]; apply b_ext; intro i hi; rw [b_or, b_0, Bool.or_false]
theorem NXr.z {gr x z : Int32} {g : Nat → Int32} {w i : Nat} (h : NXr gr g w i x) (hb : bt gr i = false) (e : x ||| (0 : Int32) = z) : NXr gr g w (i + 1) z := by rw [or0 e]; exact NXr.f h hb
def RCs (m : AM) (gr : Int32) (w : Nat) (x : Int32) : Prop := (∀ v, nx m gr w v = true → bt x v = true) ∧ ∀ v, v < 32 → bt x v = true → Rc m gr w v = true
def RCc (m : AM) (gr so : Int32) (i : Nat) (x : Int32) : Prop := ∀ u, u < i → bt so u = true → ∀ v, nx m gr u v = true → bt x v = true
def RCk (m : AM) (gr : Int32) (u i : Nat) (x : Int32) : Prop := ∀ v, anyN (fun k => bt gr k && m.2.2.2 k u v) i = true → bt x v = true
theorem RCs.st {m : AM} {gr x : Int32} {w : Nat} (hw : WFm m) (hn : m.1 ≤ 24) (h : BS x (nx m gr w)) : RCs m gr w x :=
  ⟨fun v hv => by rw [h v (by have := nx_lt hw hv; omega)]; exact hv, fun v hv hb => Rc_nx (by rw [← h v hv]; exact hb)⟩
theorem RCc.z {m : AM} {gr x : Int32} {i : Nat} : RCc m gr 0 i x := fun u _ h => by rw [b_0] at h; cases h
theorem RCc.nil {m : AM} {gr so x : Int32} : RCc m gr so 0 x := fun u h => absurd h (Nat.not_lt_zero _)
theorem RCc.or {m : AM} {gr so x y z : Int32} {i : Nat} (h : RCc m gr so i x) (e : x ||| y = z) : RCc m gr so i z := fun u a b v c => by rw [← e, b_or, h u a b v c]; rfl
theorem RCc.ext {m : AM} {gr so x : Int32} {i : Nat} (h : RCc m gr so i x) (hk : bt so i = true → RCk m gr i 4 x) : RCc m gr so (i + 1) x := fun u a b v c => by
  by_cases q : u = i
  · subst q; exact hk b v c
  · exact h u (by omega) b v c
theorem RCk.nil {m : AM} {gr x : Int32} {u : Nat} : RCk m gr u 0 x := fun v h => by cases h
theorem RCk.t {m : AM} {gr x y z : Int32} {u i : Nat} (h : RCk m gr u i x) (hy : ∀ v, m.2.2.2 i u v = true → bt y v = true) (e : x ||| y = z) : RCk m gr u (i + 1) z := fun v hv => by
  have h1 : (anyN (fun k => bt gr k && m.2.2.2 k u v) i || (bt gr i && m.2.2.2 i u v)) = true := hv
  rw [Bool.or_eq_true, Bool.and_eq_true] at h1
  rw [← e, b_or]
  rcases h1 with h1 | h1
  · rw [h v h1]; rfl
  · rw [hy v h1.2, Bool.or_true]
theorem RCk.f {m : AM} {gr x z : Int32} {u i : Nat} (h : RCk m gr u i x) (hb : bt gr i = false) (e : x ||| (0 : Int32) = z) : RCk m gr u (i + 1) z := fun v hv => by
  have h1 : (anyN (fun k => bt gr k && m.2.2.2 k u v) i || (bt gr i && m.2.2.2 i u v)) = true := hv
  rw [hb, Bool.false_and, Bool.or_false] at h1
  rw [or0 e]; exact h v h1
theorem RCs.or {m : AM} {gr x y z : Int32} {w u i : Nat} (h : RCs m gr w x) (hw : WFm m) (hu : u < m.1) (hR : Rc m gr w u = true) (hb : bt gr i = true) (hi : i < 4) (hy : ∀ v, v < 32 → bt y v = true → m.2.2.2 i u v = true) (e : x ||| y = z) : RCs m gr w z :=
  ⟨fun v hv => by rw [← e, b_or, h.1 v hv]; rfl, fun v hv hz => by
    rw [← e, b_or, Bool.or_eq_true] at hz
    rcases hz with hz | hz
    · exact h.2 v hv hz
    · exact Rc_cl hw hu hR (anyN_iff.mpr ⟨i, hi, by rw [hb, hy v hv hz]; rfl⟩)⟩
theorem RCs.z {m : AM} {gr x z : Int32} {w : Nat} (h : RCs m gr w x) (e : x ||| (0 : Int32) = z) : RCs m gr w z := by rw [or0 e]; exact h
theorem RCc.z' {m : AM} {gr so x z : Int32} {i : Nat} (h : RCc m gr so i x) (e : x ||| (0 : Int32) = z) : RCc m gr so i z := h.or e
theorem Rc_end {m : AM} {gr so x : Int32} {w : Nat} (hs : RCs m gr w x) (hc : RCc m gr so m.1 x) (e : x = so) : BS so (Rc m gr w) := fun v hv => by
  subst e
  apply bool_iff
  exact ⟨fun h => hs.2 v hv h, fun h => Rc_in (Q := fun v => bt x v = true) hs.1 (fun u v a b c => hc u a b v c) _ v h⟩
theorem nx_pg {fm fr ff fp : Nat → Int32} {p w : Nat} {gr x : Int32} (hw : w < cN fm p) (h : NXr gr (sh (96 * p) fp) w 4 x) : BS x (nx (pgs fm fr ff fp p) gr w) := nx_am hw h
theorem alk_1 {f : Nat → Int32} {o oj a b c d e : Int32} {u v : Nat} (how : oj = o) (e1 : f u = a) (e2 : f v = b) (e3 : a ^^^ b = c) (e4 : oj ^^^ (-1 : Int32) = d) (e5 : c &&& d = e) (hz : e.toInt = 0) : decide ((1 : Int32).toInt ≠ 0) = alk f o u v := by
  subst how; subst e1; subst e2; subst e3; subst e4; subst e5
  exact (decide_eq_true (by decide)).trans (decide_eq_true (i_z hz)).symm
theorem alk_0 {f : Nat → Int32} {o oj a b c d e : Int32} {u v : Nat} (how : oj = o) (e1 : f u = a) (e2 : f v = b) (e3 : a ^^^ b = c) (e4 : oj ^^^ (-1 : Int32) = d) (e5 : c &&& d = e) (hz : e.toInt ≠ 0) : decide ((0 : Int32).toInt ≠ 0) = alk f o u v := by
  subst how; subst e1; subst e2; subst e3; subst e4; subst e5
  exact (decide_eq_false (by decide)).trans (decide_eq_false (i_nz hz)).symm
