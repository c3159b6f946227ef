theorem cN_s {f g : Nat → Int32} {k t : Nat} (ht : t < 2 ^ 31) (e : upd f k (nI t) = g) : cN g k = t := by
  unfold cN; rw [← e, pk_us]; exact nI_clamp ht
theorem cN_n {f g : Nat → Int32} {k j : Nat} {v : Int32} (e : upd f k v = g) (h : j ≠ k) : cN g j = cN f j := by
  unfold cN; rw [← e, pk_un h]
/-! events by value: cases, the real one, ifs, what becomes so and not so, who holds what -/
abbrev EVl : Type := Nat × Nat × (Nat → Option SVal) × (Nat → Int32) × (Nat → Int32) × (Nat → Int32)
def canE (m : AM) (o : Option SVal) : Nat → Bool := match o with
  | none => vAll m
  | some S => vPl m S.1 S.2.1 S.2.2.1
/-- the pairs, as places: 4 w + c -/
def lyP (m : AM) (ev : EVl) : Nat → Bool := fun p => decide (p / 4 < m.1) && (decide (p % 4 < ev.1) && canE m (ev.2.2.1 (p % 4)) (p / 4))
theorem lyP_at {m : AM} {ev : EVl} {w c : Nat} (hc : c < 4) : lyP m ev (4 * w + c) = (decide (w < m.1) && (decide (c < ev.1) && canE m (ev.2.2.1 c) w)) := by
  unfold lyP
  rw [show (4 * w + c) / 4 = w by omega, show (4 * w + c) % 4 = c by omega]
def lyC (m : AM) (ev : EVl) : Nat := cb (lyP m ev) (4 * m.1)
/-- the model behind an event -/
def lyF (m : AM) (ev : EVl) : Nat → Int32 := fun p => chg ev.2.2.2.1 ev.2.2.2.2.1 (m.2.2.1 (p / 4)) (p % 4)
def lyR (m : AM) (ev : EVl) : Nat → Nat → Nat → Bool := fun k p q => m.2.2.2 k (p / 4) (q / 4) && bt (ev.2.2.2.2.2 (k * 4 + p % 4)) (q % 4)
def aLay (m : AM) (ev : EVl) : AM := cmpS (lyP m ev) (4 * m.1) (if lyP m ev (4 * m.2.1 + ev.2.1) = true then cb (lyP m ev) (4 * m.2.1 + ev.2.1) else 0) (lyF m ev) (lyR m ev)
/-- of a layer: which cases can be in which worlds -/
def LYM (n : Nat) (P : Nat → Bool) (cf : Nat → Int32) : Prop := ∀ w c, w < n → c < 4 → (cN cf w).testBit c = P (4 * w + c)
theorem ly_w {n : Nat} {P : Nat → Bool} {cf : Nat → Int32} (h : LYM n P cf) : ∀ w, w ≤ n → pcs cf w = cb P (4 * w)
  | 0, _ => rfl
  | w + 1, hw => by
    have e : 4 * (w + 1) = 4 * w + 4 := by omega
    rw [e, cb_add, pcs_s, ly_w h w (by omega)]
    congr 1
    unfold bi
    exact cb_congr (fun i hi => h w i (by omega) hi)
theorem ly_cb {n : Nat} {P : Nat → Bool} {cf : Nat → Int32} (h : LYM n P cf) {w c : Nat} (hw : w < n) (hc : c ≤ 4) : pcs cf w + bi cf w c = cb P (4 * w + c) := by
  rw [cb_add, ly_w h w (by omega)]
  congr 1
  unfold bi
  exact cb_congr (fun i hi => h w i hw (by omega))
/-- cases below c are measured, of case c the worlds below i -/
def LYx (n : Nat) (C : Nat → Nat → Bool) (c i : Nat) (cf : Nat → Int32) : Prop := ∀ w c', w < n → c' < 4 → (cN cf w).testBit c' = (decide (c' < c ∨ c' = c ∧ w < i) && C c' w)
theorem LYx.zero {n : Nat} {C : Nat → Nat → Bool} {cf : Nat → Int32} (h : ∀ w, w < n → cf w = 0) : LYx n C 0 0 cf := fun w c hw _ => by
  have e : cN cf w = 0 := by unfold cN; rw [h w hw]; rfl
  rw [e, Nat.zero_testBit, decide_eq_false (show ¬ (c < 0 ∨ c = 0 ∧ w < 0) by omega), Bool.false_and]
theorem LYx.up {n c i : Nat} {C : Nat → Nat → Bool} {cf : Nat → Int32} (h : LYx n C c i cf) (e : i = n) : LYx n C (c + 1) 0 cf := fun w c' hw hc => by
  rw [h w c' hw hc]
  congr 1
  exact dec_cg (by omega)
theorem LYx.ext {n c i j t : Nat} {C : Nat → Nat → Bool} {cf g : Nat → Int32} (h : LYx n C c i cf) (hc : c < 4) (hi : i < n) (hj : decide (j = 1) = C c i) (hj2 : j < 2) (ht : t = cN cf i ||| j * 2 ^ c) (ht2 : t < 2 ^ 31) (e : upd cf i (nI t) = g) : LYx n C c (i + 1) g := by
  intro w c' hw hc'
  by_cases q : w = i
  · subst q
    rw [cN_s ht2 e, ht, Nat.testBit_or, h w c' hw hc']
    have hb : (j * 2 ^ c).testBit c' = (decide (j = 1) && decide (c' = c)) := by
      rcases (show j = 0 ∨ j = 1 by omega) with rfl | rfl
      · rw [Nat.zero_mul, Nat.zero_testBit]; rfl
      · rw [Nat.one_mul, Nat.testBit_two_pow]
        show decide (c = c') = (true && decide (c' = c))
        rw [Bool.true_and]; exact dec_cg ⟨fun z => z.symm, fun z => z.symm⟩
    rw [hb, hj]
    by_cases z : c' = c
    · subst z
      rw [decide_eq_false (show ¬ (c' < c' ∨ c' = c' ∧ w < w) by omega), decide_eq_true (show c' < c' ∨ c' = c' ∧ w < w + 1 by omega), decide_eq_true rfl, Bool.false_and, Bool.false_or, Bool.true_and, Bool.and_true]
    · rw [decide_eq_false z, Bool.and_false, Bool.or_false, dec_cg (show (c' < c ∨ c' = c ∧ w < w) ↔ (c' < c ∨ c' = c ∧ w < w + 1) by omega)]
  · rw [cN_n e q, h w c' hw hc', dec_cg (show (c' < c ∨ c' = c ∧ w < i) ↔ (c' < c ∨ c' = c ∧ w < i + 1) by omega)]
theorem LYx.lym {n r cs rc i : Nat} {f g : Nat → Int32} {T : Nat → Option SVal} {fb fc fd cf : Nat → Int32} (h : LYx n (fun c w => canE (am n r f g) (T c) w) i 0 cf) (e : i = cs) : LYM n (lyP (am n r f g) (cs, rc, T, fb, fc, fd)) cf := by
  subst e
  intro w c hw hc
  rw [lyP_at hc, h w c hw hc]
  show _ = (decide (w < n) && (decide (c < i) && canE (am n r f g) (T c) w))
  rw [decide_eq_true hw, Bool.true_and, dec_cg (show (c < i ∨ c = i ∧ w < 0) ↔ c < i by omega)]
theorem orshX {a j c : Nat} {y : Int32} (hc : c < 4) (ha : a < 2 ^ (c + 1)) (hj : j < 2) (e : nI j <<< (nI c &&& 31) = y) : nI a ||| y = nI (a ||| j * 2 ^ c) ∧ a ||| j * 2 ^ c < 2 ^ (c + 1) := by
  have h : ∀ c, c < 4 → ∀ a, a < 2 ^ (c + 1) → ∀ j, j < 2 → nI a ||| (nI j <<< (nI c &&& 31)) = nI (a ||| j * 2 ^ c) ∧ a ||| j * 2 ^ c < 2 ^ (c + 1) := by decide +kernel
  subst e
  exact h c hc a ha j hj
theorem shj_b {x s : Int32} {i j : Nat} {P : Nat → Bool} (h : BS x P) (hi : i < 32) (e1 : x >>> (nI i &&& 31) = s) (e2 : s &&& 1 = nI j) (hj : j < 2) : decide (j = 1) = P i := by
  rw [← h i hi]
  rcases (show j = 0 ∨ j = 1 by omega) with rfl | rfl
  · rw [hasb_0 hi e1 e2 rfl]; rfl
  · rw [hasb_1 hi e1 e2 rfl]; rfl
/-! the model behind is built, pair by pair (N places, P: which are pairs) -/
section LAYB
variable {P : Nat → Bool} {N i : Nat} {q q' f1 f2 : Nat → Int32} {F : Nat → Int32}
/-- which pairs have which case: the places below i are taken -/
def PQx (P : Nat → Bool) (N i : Nat) (q : Nat → Int32) : Prop := ∀ c, c < 4 → BS (q c) (fun j => decide (j < cb P i) && decide (nth P N j % 4 = c))
theorem PQx.nil (h : ∀ c, c < 4 → q c = 0) : PQx P N 0 q := fun c hc v hv => by
  show bt (q c) v = (decide (v < 0) && _)
  rw [h c hc, b_0, decide_eq_false (Nat.not_lt_zero v), Bool.false_and]
theorem PQx.f (h : PQx P N i q) (hP : P i = false) : PQx P N (i + 1) q := by unfold PQx; rw [cb_f hP]; exact h
theorem cb_flat {P : Nat → Bool} {i j : Nat} (hij : i ≤ j) (hP : ∀ p, i ≤ p → p < j → P p = false) : cb P j = cb P i := by
  obtain ⟨d, rfl⟩ : ∃ d, j = i + d := ⟨j - i, by omega⟩
  rw [cb_add, cb_zero (f := fun k => P (i + k)) (fun k hk => hP (i + k) (by omega) (by omega)), Nat.add_zero]
theorem PQx.fs {j : Nat} (h : PQx P N i q) (hij : i ≤ j) (hP : ∀ p, i ≤ p → p < j → P p = false) : PQx P N j q := by unfold PQx; rw [cb_flat hij hP]; exact h
theorem PQx.t {x y z : Int32} {c t : Nat} (h : PQx P N i q) (hi : i < N) (h24 : cb P i ≤ 30) (hP : P i = true) (hc : c = i % 4) (ht : t = cb P i) (ex : q c = x) (ey : (1 : Int32) <<< (nI t &&& 31) = y) (ez : x ||| y = z) (e : upd q c z = q') : PQx P N (i + 1) q' := by
  subst ht
  intro c' hc' v hv
  rw [cb_t hP, ← e]
  by_cases k : c' = c
  · rw [k, pk_us, ← ez, b_or, ← ey, one_b h24 v hv, ← ex, h c (by omega) v hv]
    show ((decide (v < cb P i) && decide (nth P N v % 4 = c)) || decide (v = cb P i)) = (decide (v < cb P i + 1) && decide (nth P N v % 4 = c))
    by_cases z : v = cb P i
    · rw [z, nth_cb hi hP, decide_eq_true (show i % 4 = c from hc.symm), decide_eq_true rfl, decide_eq_true (show cb P i < cb P i + 1 by omega), Bool.or_true, Bool.and_self]
    · rw [decide_eq_false z, Bool.or_false, dec_cg (show v < cb P i + 1 ↔ v < cb P i by omega)]
  · rw [pk_un k, h c' hc' v hv]
    show (decide (v < cb P i) && decide (nth P N v % 4 = c')) = (decide (v < cb P i + 1) && decide (nth P N v % 4 = c'))
    by_cases z : v = cb P i
    · rw [z, nth_cb hi hP, decide_eq_false (show ¬ i % 4 = c' by omega), Bool.and_false, Bool.and_false]
    · rw [dec_cg (show v < cb P i + 1 ↔ v < cb P i by omega)]
/-- the facts of the pairs so far -/
def PFx (P : Nat → Bool) (i : Nat) (F : Nat → Int32) (f1 : Nat → Int32) : Prop := ∀ p, p < i → P p = true → f1 (cb P p) = F p
theorem PFx.nil : PFx P 0 F f1 := fun p h => absurd h (Nat.not_lt_zero _)
theorem PFx.f (h : PFx P i F f1) (hP : P i = false) : PFx P (i + 1) F f1 := fun p hp hq => h p (Nat.lt_of_le_of_ne (by omega) (fun z => by rw [z, hP] at hq; cases hq)) hq
theorem PFx.fs {j : Nat} (h : PFx P i F f1) (hij : i ≤ j) (hP : ∀ p, i ≤ p → p < j → P p = false) : PFx P j F f1 := fun p hp hq => by
  rcases Nat.lt_or_ge p i with z | z
  · exact h p z hq
  · rw [hP p z hp] at hq; cases hq
theorem PFx.t {x : Int32} {t : Nat} (h : PFx P i F f1) (hP : P i = true) (ht : t = cb P i) (hx : x = F i) (e : upd f1 t x = f2) : PFx P (i + 1) F f2 := by
  intro p hp hq
  rw [← e]
  by_cases z : p = i
  · rw [z, ht, pk_us]; exact hx
  · have h1 := cb_lt (f := P) (show p < i by omega) hq
    rw [pk_un (by omega)]; exact h p (by omega) hq
end LAYB
/-- the pairs of some worlds: those of the first i worlds -/
def PWx (P : Nat → Bool) (N M : Nat) (bs : Int32) (i : Nat) (x : Int32) : Prop := BS x (fun j => decide (j < cb P (4 * i)) && bt bs (nth P N j / 4))
theorem PWx.nil {P : Nat → Bool} {N M : Nat} {bs : Int32} : PWx P N M bs 0 0 := fun v hv => by
  show bt 0 v = (decide (v < 0) && bt bs (nth P N v / 4))
  rw [b_0, decide_eq_false (Nat.not_lt_zero v), Bool.false_and]
theorem nth_4 {P : Nat → Bool} {N i v : Nat} (h : 4 * i + 4 ≤ N) (h1 : cb P (4 * i) ≤ v) (h2 : v < cb P (4 * i + 4)) : nth P N v / 4 = i := by
  rw [nth_up h h2]
  have h3 := nth_in h2
  have h4 := nth_ge h1 h2
  omega
theorem PWx.f {P : Nat → Bool} {N M i : Nat} {bs x : Int32} (h : PWx P N M bs i x) (hN : 4 * i + 4 ≤ N) (hb : bt bs i = false) : PWx P N M bs (i + 1) x := fun v hv => by
  rw [h v hv]
  show (decide (v < cb P (4 * i)) && bt bs (nth P N v / 4)) = (decide (v < cb P (4 * i + 4)) && bt bs (nth P N v / 4))
  have hm := cb_mono P (show 4 * i ≤ 4 * i + 4 by omega)
  by_cases z : v < cb P (4 * i)
  · rw [decide_eq_true z, decide_eq_true (show v < cb P (4 * i + 4) by omega)]
  · rw [decide_eq_false z, Bool.false_and]
    by_cases y : v < cb P (4 * i + 4)
    · rw [nth_4 hN (by omega) y, hb, Bool.and_false]
    · rw [decide_eq_false y, Bool.false_and]
theorem blk_b {a l v : Nat} {x y z w : Int32} (hl : l ≤ 4) (ha : a + l ≤ 30) (e1 : (1 : Int32) <<< (nI l &&& 31) = x) (e2 : x - 1 = y) (e3 : y <<< (nI a &&& 31) = z) (hv : v < 32) : bt z v = (decide (a ≤ v) && decide (v < a + l)) := by
  have h1 : ∀ i, i < 32 → bt y i = decide (i < l) := all_b (n := l) (by omega) e1 e2
  rw [← e3, b_shl a (by omega) _ hv, h1 (v - a) (by omega)]
  by_cases q : a ≤ v
  · rw [decide_eq_true q, Bool.true_and, Bool.true_and]; exact dec_cg (by omega)
  · rw [decide_eq_false q, Bool.false_and, Bool.false_and]
theorem PWx.t {P : Nat → Bool} {N M i l a : Nat} {bs x p q y z : Int32} (h : PWx P N M bs i x) (hN : 4 * i + 4 ≤ N) (hb : bt bs i = true) (hM : cb P (4 * i + 4) ≤ 30) (ha : a = cb P (4 * i)) (hl : a + l = cb P (4 * i + 4)) (hl4 : l ≤ 4) (e1 : (1 : Int32) <<< (nI l &&& 31) = p) (e2 : p - 1 = q) (e3 : q <<< (nI a &&& 31) = y) (e : x ||| y = z) : PWx P N M bs (i + 1) z := fun v hv => by
  rw [← e, b_or, h v hv, blk_b (w := 0) hl4 (by omega) e1 e2 e3 hv, hl, ha]
  show ((decide (v < cb P (4 * i)) && bt bs (nth P N v / 4)) || (decide (cb P (4 * i) ≤ v) && decide (v < cb P (4 * i + 4)))) = (decide (v < cb P (4 * i + 4)) && bt bs (nth P N v / 4))
  have hm := cb_mono P (show 4 * i ≤ 4 * i + 4 by omega)
  by_cases z : v < cb P (4 * i)
  · rw [decide_eq_true z, decide_eq_true (show v < cb P (4 * i + 4) by omega), decide_eq_false (show ¬ cb P (4 * i) ≤ v by omega), Bool.false_and, Bool.or_false]
  · rw [decide_eq_false z, Bool.false_and, Bool.false_or, decide_eq_true (show cb P (4 * i) ≤ v by omega), Bool.true_and]
    by_cases y : v < cb P (4 * i + 4)
    · rw [nth_4 hN (by omega) y, hb, Bool.and_true]
    · rw [decide_eq_false y, Bool.false_and]
/-- the pairs of some cases: those of the first i -/
def PCx (P : Nat → Bool) (N M : Nat) (bs : Int32) (i : Nat) (x : Int32) : Prop := BS x (fun j => decide (j < cb P M) && (decide (nth P N j % 4 < i) && bt bs (nth P N j % 4)))
theorem PCx.nil {P : Nat → Bool} {N M : Nat} {bs : Int32} : PCx P N M bs 0 0 := fun v hv => by
  show bt 0 v = (decide (v < cb P M) && (decide (nth P N v % 4 < 0) && _))
  rw [b_0, decide_eq_false (Nat.not_lt_zero _), Bool.false_and, Bool.and_false]
theorem PCx.f {P : Nat → Bool} {N M i : Nat} {bs x : Int32} (h : PCx P N M bs i x) (hb : bt bs i = false) : PCx P N M bs (i + 1) x := fun v hv => by
  rw [h v hv]
  show (decide (v < cb P M) && (decide (nth P N v % 4 < i) && bt bs (nth P N v % 4))) = (decide (v < cb P M) && (decide (nth P N v % 4 < i + 1) && bt bs (nth P N v % 4)))
  congr 1
  by_cases z : nth P N v % 4 = i
  · rw [z, hb, Bool.and_false, Bool.and_false]
  · rw [dec_cg (show nth P N v % 4 < i + 1 ↔ nth P N v % 4 < i by omega)]
theorem PCx.t {P : Nat → Bool} {N M i : Nat} {bs x y z : Int32} {q : Nat → Int32} (h : PCx P N M bs i x) (hq : PQx P N M q) (hi : i < 4) (hb : bt bs i = true) (ey : q i = y) (e : x ||| y = z) : PCx P N M bs (i + 1) z := fun v hv => by
  rw [← e, b_or, h v hv, ← ey, hq i hi v hv]
  show ((decide (v < cb P M) && (decide (nth P N v % 4 < i) && bt bs (nth P N v % 4))) || (decide (v < cb P M) && decide (nth P N v % 4 = i))) = (decide (v < cb P M) && (decide (nth P N v % 4 < i + 1) && bt bs (nth P N v % 4)))
  by_cases z : nth P N v % 4 = i
  · rw [z, hb, decide_eq_false (Nat.lt_irrefl i), decide_eq_true rfl, decide_eq_true (show i < i + 1 by omega), Bool.false_and, Bool.and_false, Bool.false_or, Bool.and_true, Bool.true_and, Bool.and_true]
  · rw [decide_eq_false z, Bool.and_false, Bool.or_false, dec_cg (show nth P N v % 4 < i + 1 ↔ nth P N v % 4 < i by omega)]
/-- rows of the pairs: of knowers below k, of knower k those of places below i -/
def PRx (P : Nat → Bool) (N k i : Nat) (R : Nat → Nat → Nat → Bool) (g : Nat → Int32) : Prop := ∀ k' p, k' < 4 → p < N → P p = true → (k' < k ∨ k' = k ∧ p < i) → BS (g (k' * 24 + cb P p)) (fun j => decide (j < cb P N) && R k' p (nth P N j))
theorem PRx.nil {P : Nat → Bool} {N : Nat} {R : Nat → Nat → Nat → Bool} {g : Nat → Int32} : PRx P N 0 0 R g := fun k p _ _ _ h => absurd h (by omega)
theorem PRx.up {P : Nat → Bool} {N k i : Nat} {R : Nat → Nat → Nat → Bool} {g : Nat → Int32} (h : PRx P N k i R g) (e : i = N) : PRx P N (k + 1) 0 R g := fun k' p a b c d => h k' p a b c (by omega)
theorem PRx.f {P : Nat → Bool} {N k i : Nat} {R : Nat → Nat → Nat → Bool} {g : Nat → Int32} (h : PRx P N k i R g) (hP : P i = false) : PRx P N k (i + 1) R g := fun k' p a b c d => h k' p a b c (d.elim Or.inl (fun q => Or.inr ⟨q.1, Nat.lt_of_le_of_ne (by omega) (fun z => by rw [z, hP] at c; cases c)⟩))
theorem PRx.f4 {P : Nat → Bool} {N k w : Nat} {R : Nat → Nat → Nat → Bool} {g : Nat → Int32} (h : PRx P N k (4 * w) R g) (hP : ∀ c, c < 4 → P (4 * w + c) = false) : PRx P N k (4 * (w + 1)) R g := PRx.f (PRx.f (PRx.f (PRx.f h (hP 0 (by omega))) (hP 1 (by omega))) (hP 2 (by omega))) (hP 3 (by omega))
theorem PRx.fs {P : Nat → Bool} {N k i j : Nat} {R : Nat → Nat → Nat → Bool} {g : Nat → Int32} (h : PRx P N k i R g) (hij : i ≤ j) (hP : ∀ p, i ≤ p → p < j → P p = false) : PRx P N k j R g := fun k' p a b c d => h k' p a b c (d.elim Or.inl (fun q => Or.inr ⟨q.1, by
  rcases Nat.lt_or_ge p i with z | z
  · exact z
  · rw [hP p z q.2] at c; cases c⟩))
theorem PRx.t {P : Nat → Bool} {N k i t : Nat} {R : Nat → Nat → Nat → Bool} {g g' : Nat → Int32} {r : Int32} (h : PRx P N k i R g) (hN : cb P N ≤ 24) (hi : i < N) (hk : k < 4) (hP : P i = true) (ht : t = cb P i) (hr : BS r (fun j => decide (j < cb P N) && R k i (nth P N j))) (e : upd g (k * 24 + t) r = g') : PRx P N k (i + 1) R g' := by
  intro k' p a b c d
  have h1 := cb_lt (f := P) b c
  have h2 := cb_lt (f := P) hi hP
  rw [← e]
  by_cases z : k' * 24 + cb P p = k * 24 + t
  · have e1 : k' = k := by omega
    have e2 : p = i := cb_inj c hP (by omega)
    rw [z, pk_us, e1, e2]; exact hr
  · rw [pk_un z]
    refine h k' p a b c (d.elim Or.inl (fun q => Or.inr ⟨q.1, Nat.lt_of_le_of_ne (by omega) (fun y => z ?_)⟩))
    rw [q.1, y, ht]
/-- the pairs of a world and those of a case: those of both -/
theorem hp_row {n r cs rc k w c : Nat} {f g : Nat → Int32} {T : Nat → Option SVal} {fb fc fd : Nat → Int32} {bs b2 x y z : Int32} (hw : w < n) (hc : c < 4) (hk : k < 4) (h1 : PWx (lyP (am n r f g) (cs, rc, T, fb, fc, fd)) (4 * n) n bs n x) (e1 : g (k * 24 + w) = bs) (h2 : PCx (lyP (am n r f g) (cs, rc, T, fb, fc, fd)) (4 * n) (4 * n) b2 4 y) (e2 : fd (k * 4 + c) = b2) (e : x &&& y = z) : BS z (fun j => decide (j < cb (lyP (am n r f g) (cs, rc, T, fb, fc, fd)) (4 * n)) && lyR (am n r f g) (cs, rc, T, fb, fc, fd) k (4 * w + c) (nth (lyP (am n r f g) (cs, rc, T, fb, fc, fd)) (4 * n) j)) := by
  intro v hv
  rw [← e, b_and, h1 v hv, h2 v hv]
  show ((decide (v < cb _ (4 * n)) && bt bs (nth _ (4 * n) v / 4)) && (decide (v < cb _ (4 * n)) && (decide (nth _ (4 * n) v % 4 < 4) && bt b2 (nth _ (4 * n) v % 4)))) = (decide (v < cb _ (4 * n)) && ((am n r f g).2.2.2 k ((4 * w + c) / 4) (nth _ (4 * n) v / 4) && bt (fd (k * 4 + (4 * w + c) % 4)) (nth _ (4 * n) v % 4)))
  rw [show (4 * w + c) / 4 = w by omega, show (4 * w + c) % 4 = c by omega, am_S hk hw, e1, e2, decide_eq_true (show nth (lyP (am n r f g) (cs, rc, T, fb, fc, fd)) (4 * n) v % 4 < 4 by omega), Bool.true_and]
  by_cases q : v < cb (lyP (am n r f g) (cs, rc, T, fb, fc, fd)) (4 * n)
  · rw [decide_eq_true q, Bool.true_and, Bool.true_and, Bool.true_and]
  · rw [decide_eq_false q, Bool.false_and, Bool.false_and, Bool.false_and]
/-- worlds that become one of these, or of which nothing can become -/
def bcm (P : Nat → Bool) (w rc : Nat) : Nat := if P (4 * w + rc) = true then cb P (4 * w + rc) else cb P (4 * w)
def vBack (m : AM) (ev : EVl) (T : Nat → Bool) : Nat → Bool := fun w => decide (w < m.1) && (decide (cb (lyP m ev) (4 * w + 4) = cb (lyP m ev) (4 * w)) || T (bcm (lyP m ev) w ev.2.1))
theorem lyP_no {m : AM} {ev : EVl} {w c : Nat} (hc : ev.1 ≤ c) (h4 : c < 4) : lyP m ev (4 * w + c) = false := by
  rw [lyP_at h4, decide_eq_false (show ¬ c < ev.1 by omega), Bool.false_and, Bool.and_false]
theorem lyP_nos {m : AM} {ev : EVl} {w c : Nat} (hc : ev.1 ≤ c) : ∀ p, 4 * w + c ≤ p → p < 4 * w + 4 → lyP m ev p = false := fun p h1 h2 => by
  rw [show p = 4 * w + (p - 4 * w) by omega]
  exact lyP_no (by omega) (by omega)
theorem cN_0b {cf : Nat → Int32} {w : Nat} (h : cN cf w = 0) : ∀ c, (cN cf w).testBit c = false := fun c => by rw [h, Nat.zero_testBit]
theorem bi_0 {cf : Nat → Int32} {w : Nat} (h : cN cf w < 16) : bi cf w 4 = 0 ↔ cN cf w = 0 := by
  have key : ∀ t, t < 16 → (cb t.testBit 4 = 0 ↔ t = 0) := by decide +kernel
  exact key _ h
theorem lyF_at {n r cs rc w c : Nat} {f g : Nat → Int32} {T : Nat → Option SVal} {fb fc fd : Nat → Int32} (hw : w < n) (hc : c < 4) : lyF (am n r f g) (cs, rc, T, fb, fc, fd) (4 * w + c) = chg fb fc (f w) c := by
  unfold lyF
  rw [show (4 * w + c) / 4 = w by omega, show (4 * w + c) % 4 = c by omega]
  show chg fb fc ((am n r f g).2.2.1 w) c = _
  rw [am_F hw]
theorem bcm_lt {P : Nat → Bool} {w rc N : Nat} (hrc : rc < 4) (hw : 4 * w + 4 ≤ N) : bcm P w rc ≤ cb P N := by
  unfold bcm
  split
  · exact cb_mono P (by omega)
  · exact cb_mono P (by omega)
theorem vBack_b {m : AM} {ev : EVl} {x : Int32} {T : Nat → Bool} {y : Int32} (h : BS y (vBack m ev (bt x))) (hx : BS x T) (hC : lyC m ev ≤ 24) (hrc : ev.2.1 < 4) : BS y (vBack m ev T) := h.cg (fun w _ => by
  show (decide (w < m.1) && (_ || bt x (bcm (lyP m ev) w ev.2.1))) = (decide (w < m.1) && (_ || T (bcm (lyP m ev) w ev.2.1)))
  by_cases q : w < m.1
  · have h1 := bcm_lt (P := lyP m ev) (w := w) (N := 4 * m.1) hrc (by omega)
    have h2 : cb (lyP m ev) (4 * m.1) ≤ 24 := hC
    rw [hx _ (by omega)]
  · rw [decide_eq_false q, Bool.false_and, Bool.false_and])
/-- where a saying is true, its afters laid -/
def vW (m : AM) (ev : Nat → EVl) (S : SVal) : List Nat → Nat → Bool
  | [] => vPl m S.1 S.2.1 S.2.2.1
  | e :: es => if lyC m (ev e) ≤ 24 then vBack m (ev e) (vW (aLay m (ev e)) ev S es) else vAll m
def aftL (S : SVal) : List Nat := if S.2.2.2.2.2.2.2 = 0 then [] else if S.2.2.2.2.2.2.2 = 1 then [cN S.2.2.2.1 0] else [cN S.2.2.2.1 0, cN S.2.2.2.1 1]
def vWho (m : AM) (ev : Nat → EVl) (S : SVal) : Nat → Bool := vW m ev S (aftL S)
theorem cN_of {f : Nat → Int32} {k j : Nat} (h : f k = nI j) (hj : j < 2 ^ 31) : cN f k = j := by unfold cN; rw [h]; exact nI_clamp hj
section VWH
variable {m : AM} {ev : Nat → EVl} {S : SVal} {x y z : Int32} {j k : Nat}
theorem w_0 (hS : S.2.2.2.2.2.2.2 = 0) (h : BS x (vPl m S.1 S.2.1 S.2.2.1)) : BS x (vWho m ev S) := by
  unfold vWho aftL; rw [if_pos hS]; exact h
theorem aft_1 (hS : S.2.2.2.2.2.2.2 = 1) (e : cN S.2.2.2.1 0 = j) : aftL S = [j] := by
  unfold aftL; rw [if_neg (by omega), if_pos hS, e]
theorem aft_2 (hS : S.2.2.2.2.2.2.2 = 2) (e : cN S.2.2.2.1 0 = j) (e2 : cN S.2.2.2.1 1 = k) : aftL S = [j, k] := by
  unfold aftL; rw [if_neg (by omega), if_neg (by omega), e, e2]
theorem aft_n (hS : S.2.2.2.2.2.2.2 ≠ 0) (e : cN S.2.2.2.1 0 = j) : ∃ l, aftL S = j :: l := by
  unfold aftL; rw [if_neg hS, e]
  by_cases q : S.2.2.2.2.2.2.2 = 1
  · rw [if_pos q]; exact ⟨_, rfl⟩
  · rw [if_neg q]; exact ⟨_, rfl⟩
theorem vW_y {es : List Nat} (hC : lyC m (ev j) ≤ 24) (hrc : (ev j).2.1 < 4) (h : BS x (vW (aLay m (ev j)) ev S es)) (hy : BS y (vBack m (ev j) (bt x))) : BS y (vW m ev S (j :: es)) := by
  show BS y (if lyC m (ev j) ≤ 24 then vBack m (ev j) (vW (aLay m (ev j)) ev S es) else vAll m)
  rw [if_pos hC]; exact vBack_b hy h hC hrc
theorem vW_n {es : List Nat} (hC : ¬ lyC m (ev j) ≤ 24) (h : BS x (vAll m)) : BS x (vW m ev S (j :: es)) := by
  show BS x (if lyC m (ev j) ≤ 24 then vBack m (ev j) (vW (aLay m (ev j)) ev S es) else vAll m)
  rw [if_neg hC]; exact h
theorem w_1 (hS : S.2.2.2.2.2.2.2 = 1) (e : cN S.2.2.2.1 0 = j) (hC : lyC m (ev j) ≤ 24) (hrc : (ev j).2.1 < 4) (h : BS x (vPl (aLay m (ev j)) S.1 S.2.1 S.2.2.1)) (hy : BS y (vBack m (ev j) (bt x))) : BS y (vWho m ev S) := by
  unfold vWho; rw [aft_1 hS e]; exact vW_y hC hrc (es := []) h hy
theorem w_n (hS : S.2.2.2.2.2.2.2 ≠ 0) (e : cN S.2.2.2.1 0 = j) (hC : ¬ lyC m (ev j) ≤ 24) (h : BS x (vAll m)) : BS x (vWho m ev S) := by
  obtain ⟨l, hl⟩ := aft_n hS e
  unfold vWho; rw [hl]; exact vW_n hC h
theorem w_2 (hS : S.2.2.2.2.2.2.2 = 2) (e : cN S.2.2.2.1 0 = j) (e2 : cN S.2.2.2.1 1 = k) (hC : lyC m (ev j) ≤ 24) (hrc : (ev j).2.1 < 4) (hC2 : lyC (aLay m (ev j)) (ev k) ≤ 24) (hrc2 : (ev k).2.1 < 4) (h : BS x (vPl (aLay (aLay m (ev j)) (ev k)) S.1 S.2.1 S.2.2.1)) (hy : BS y (vBack (aLay m (ev j)) (ev k) (bt x))) (hz : BS z (vBack m (ev j) (bt y))) : BS z (vWho m ev S) := by
  unfold vWho; rw [aft_2 hS e e2]; exact vW_y hC hrc (vW_y hC2 hrc2 (es := []) h hy) hz
theorem w_2n (hS : S.2.2.2.2.2.2.2 = 2) (e : cN S.2.2.2.1 0 = j) (e2 : cN S.2.2.2.1 1 = k) (hC : lyC m (ev j) ≤ 24) (hrc : (ev j).2.1 < 4) (hC2 : ¬ lyC (aLay m (ev j)) (ev k) ≤ 24) (h : BS x (vAll (aLay m (ev j)))) (hy : BS y (vBack m (ev j) (bt x))) : BS y (vWho m ev S) := by
  unfold vWho; rw [aft_2 hS e e2]; exact vW_y hC hrc (vW_n hC2 h) hy
end VWH
