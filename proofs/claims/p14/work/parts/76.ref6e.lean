section
/-! the reference's events by value -/
def rS (fm fa fw : Nat → Int32) (s : Nat) : SVal := (cN fm s, rO fa s, rA fa fw s, fun _ => 0, 0, 0, 0, 0)
def cOp (fI fm fa fw : Nat → Int32) (c : Nat) : Option SVal := if fI c = 0 then none else some (rS fm fa fw (8 + c))
def rEv (fc fh fI fm fa fw fb fg fd : Nat → Int32) : Nat → EVl := fun e => (cN fc e, cN fh e, fun c => cOp fI fm fa fw (4 * e + c), fun c => fb (4 * e + c), fun c => fg (4 * e + c), fun q => fd (16 * e + q))
def rT (fm fa fw fo fn : Nat → Int32) (k : Nat) : SVal := (cN fm k, rO fa k, rA fa fw k, fun a => fo (2 * k + a), 0, 0, 0, cN fn k)
def WHI (fI fm fa fw : Nat → Int32) : Prop := ∀ c, c < 16 → fI c ≠ 0 → WHs (cN fm (8 + c)) fa fw (8 + c)
theorem can_n {m : AM} {fI fm fa fw : Nat → Int32} {c : Nat} {x r : Int32} (e : fI c = x) (h : x.toInt = 0) (hr : BS r (vAll m)) : BS r (canE m (cOp fI fm fa fw c)) := by
  unfold cOp; rw [if_pos (by rw [e]; exact i_z h)]; exact hr
theorem can_s {m : AM} {fI fm fa fw : Nat → Int32} {c s : Nat} {x r : Int32} (e : fI c = x) (h : x.toInt ≠ 0) (hs : s = 8 + c) (hr : BS r (vPl m (cN fm s) (rO fa s) (rA fa fw s))) : BS r (canE m (cOp fI fm fa fw c)) := by
  subst hs
  unfold cOp; rw [if_neg (by rw [e]; exact i_nz h)]; exact hr
theorem WHI.at {fI fm fa fw : Nat → Int32} {c s : Nat} {x : Int32} (h : WHI fI fm fa fw) (hc : c < 16) (e : fI c = x) (hx : x.toInt ≠ 0) (hs : s = 8 + c) : WHs (cN fm s) fa fw s := by
  subst hs; exact h c hc (by rw [e]; exact i_nz hx)
/-! the pairs, as the reference numbers them -/
section PRS
variable {P : Nat → Bool} {n cs pg : Nat} {pr pr' : Nat → Int32}
def PRF (P : Nat → Bool) (n cs pg : Nat) (pr : Nat → Int32) : Prop := ∀ w i, w < n → i < cs → pr (96 * pg + 4 * w + i) = if P (4 * w + i) = true then nI (cb P (4 * w + i)) else -4
def PRZ (P : Nat → Bool) (n cs pg i1 w1 : Nat) (pr : Nat → Int32) : Prop := ∀ w i, w < n → i < cs → (i < i1 ∨ i = i1 ∧ w < w1) → pr (96 * pg + 4 * w + i) = if P (4 * w + i) = true then 0 else -4
def PRM (P : Nat → Bool) (n cs pg p : Nat) (pr : Nat → Int32) : Prop := ∀ w i, w < n → i < cs → pr (96 * pg + 4 * w + i) = if P (4 * w + i) = true then (if 4 * w + i < p then nI (cb P (4 * w + i)) else 0) else -4
theorem PRZ.nil : PRZ P n cs pg 0 0 pr := fun w i _ _ h => absurd h (by omega)
theorem PRZ.up {i1 w1 : Nat} (h : PRZ P n cs pg i1 w1 pr) (e : w1 = n) : PRZ P n cs pg (i1 + 1) 0 pr := fun w i a b c => h w i a b (by omega)
theorem PRZ.ext {i1 w1 : Nat} {x : Int32} (h : PRZ P n cs pg i1 w1 pr) (hcs : cs ≤ 4) (hi : i1 < 4) (hx : x = if P (4 * w1 + i1) = true then 0 else -4) (e : upd pr (96 * pg + 4 * w1 + i1) x = pr') : PRZ P n cs pg i1 (w1 + 1) pr' := fun w i a b c => by
  rw [← e]
  by_cases q : 96 * pg + 4 * w + i = 96 * pg + 4 * w1 + i1
  · have e1 : w = w1 := by omega
    have e2 : i = i1 := by omega
    rw [q, pk_us, e1, e2]; exact hx
  · rw [pk_un q]; exact h w i a b (by omega)
theorem PRZ.m {i1 : Nat} (h : PRZ P n cs pg i1 0 pr) (e : i1 = cs) : PRM P n cs pg 0 pr := fun w i a b => by
  rw [h w i a b (by omega), if_neg (show ¬ 4 * w + i < 0 by omega)]
theorem PRM.at_n {p w i : Nat} {x : Int32} (h : PRM P n cs pg p pr) (hn : n ≤ 24) (hcs : cs ≤ 4) (hw : w < n) (hi : i < cs) (ex : pr (96 * pg + 4 * w + i) = x) (hx : x.toInt = -4) : P (4 * w + i) = false := by
  have h1 := h w i hw hi
  have h2 := cb_le P (4 * w + i)
  rw [ex] at h1
  cases hP : P (4 * w + i) with
  | false => rfl
  | true =>
    rw [hP, if_pos rfl] at h1
    by_cases q : 4 * w + i < p
    · rw [if_pos q] at h1; rw [h1, nI_toInt (by omega)] at hx; omega
    · rw [if_neg q] at h1; rw [h1] at hx; exact absurd hx (by decide)
theorem PRM.at_t {p w i : Nat} {x : Int32} (h : PRM P n cs pg p pr) (hw : w < n) (hi : i < cs) (ex : pr (96 * pg + 4 * w + i) = x) (hx : x.toInt ≠ -4) : P (4 * w + i) = true := by
  have h1 := h w i hw hi
  rw [ex] at h1
  cases hP : P (4 * w + i) with
  | true => rfl
  | false =>
    rw [hP, if_neg Bool.false_ne_true] at h1
    rw [h1] at hx; exact absurd (by decide) hx
theorem PRM.t {p w i m : Nat} (h : PRM P n cs pg p pr) (hcs : cs ≤ 4) (hp : p = 4 * w + i) (hi : i < 4) (hP : P (4 * w + i) = true) (hm : m = cb P p) (e : upd pr (96 * pg + 4 * w + i) (nI m) = pr') : PRM P n cs pg (p + 1) pr' := fun w' i' a b => by
  rw [← e]
  by_cases q : 96 * pg + 4 * w' + i' = 96 * pg + 4 * w + i
  · have e1 : w' = w := by omega
    have e2 : i' = i := by omega
    rw [q, pk_us, e1, e2, if_pos hP, if_pos (show 4 * w + i < p + 1 by omega), hm, hp]
  · rw [pk_un q, h w' i' a b]
    by_cases z : 4 * w' + i' < p
    · rw [if_pos z, if_pos (show 4 * w' + i' < p + 1 by omega)]
    · rw [if_neg z, if_neg (show ¬ 4 * w' + i' < p + 1 by omega)]
theorem PRM.fs {p q : Nat} (h : PRM P n cs pg p pr) (hpq : p ≤ q) (hP : ∀ v, p ≤ v → v < q → P v = false) : PRM P n cs pg q pr := fun w i a b => by
  rw [h w i a b]
  cases hc : P (4 * w + i) with
  | false => rfl
  | true =>
    have h0 : ¬ (p ≤ 4 * w + i ∧ 4 * w + i < q) := fun z => by rw [hP _ z.1 z.2] at hc; cases hc
    rw [if_pos rfl, if_pos rfl]
    by_cases z : 4 * w + i < p
    · rw [if_pos z, if_pos (show 4 * w + i < q by omega)]
    · rw [if_neg z, if_neg (show ¬ 4 * w + i < q by omega)]
theorem PRM.f {p w i : Nat} (h : PRM P n cs pg p pr) (hp : p = 4 * w + i) (hP : P (4 * w + i) = false) : PRM P n cs pg (p + 1) pr := h.fs (by omega) (fun v a b => by rw [show v = 4 * w + i by omega]; exact hP)
theorem PRM.fin {p : Nat} (h : PRM P n cs pg p pr) (hp : p = 4 * n) (hcs : cs ≤ 4) : PRF P n cs pg pr := fun w i a b => by
  rw [h w i a b, if_pos (show 4 * w + i < p by omega)]
theorem PRF.or {w i : Nat} (h : PRF P n cs pg pr) (hw : w < n) (hi : i < cs) : (P (4 * w + i) = false ∧ pr (96 * pg + 4 * w + i) = -4) ∨ (P (4 * w + i) = true ∧ pr (96 * pg + 4 * w + i) = nI (cb P (4 * w + i))) := by
  rw [h w i hw hi]
  cases hP : P (4 * w + i) with
  | false => exact Or.inl ⟨rfl, rfl⟩
  | true => exact Or.inr ⟨rfl, rfl⟩
end PRS
/-! rows of the layer -/
section BXS
variable {P R : Nat → Bool} {N i : Nat} {x y z : Int32}
def BXx (P R : Nat → Bool) (N i : Nat) (x : Int32) : Prop := BS x (fun q => decide (q < cb P i) && R (nth P N q))
theorem BXx.nil : BXx P R N 0 0 := BS.z.cg (fun q _ => by
  show false = (decide (q < 0) && R (nth P N q))
  rw [decide_eq_false (Nat.not_lt_zero q), Bool.false_and])
theorem BXx.fs {j : Nat} (h : BXx P R N i x) (hij : i ≤ j) (hP : ∀ p, i ≤ p → p < j → P p = false) : BXx P R N j x := by unfold BXx; rw [cb_flat hij hP]; exact h
theorem BXx.f (h : BXx P R N i x) (hP : P i = false) (e : x ||| (0 : Int32) = z) : BXx P R N (i + 1) z := by unfold BXx; rw [or0 e, cb_f hP]; exact h
theorem BXx.n (h : BXx P R N i x) (hi : i < N) (hP : P i = true) (hR : R i = false) (e : x ||| (0 : Int32) = z) : BXx P R N (i + 1) z := fun q hq => by
  rw [or0 e, h q hq, cb_t hP]
  show (decide (q < cb P i) && R (nth P N q)) = (decide (q < cb P i + 1) && R (nth P N q))
  by_cases w : q = cb P i
  · rw [w, nth_cb hi hP, hR, Bool.and_false, Bool.and_false]
  · rw [dec_cg (show q < cb P i + 1 ↔ q < cb P i by omega)]
theorem BXx.t {t : Nat} (h : BXx P R N i x) (hi : i < N) (h24 : cb P i ≤ 30) (hP : P i = true) (hR : R i = true) (ht : t = cb P i) (ey : (1 : Int32) <<< (nI t &&& 31) = y) (ez : x ||| y = z) : BXx P R N (i + 1) z := fun q hq => by
  rw [← ez, b_or, h q hq, ← ey, ht, one_b h24 q hq, cb_t hP]
  show ((decide (q < cb P i) && R (nth P N q)) || decide (q = cb P i)) = (decide (q < cb P i + 1) && R (nth P N q))
  by_cases w : q = cb P i
  · rw [w, nth_cb hi hP, hR, decide_eq_true rfl, Bool.or_true, decide_eq_true (show cb P i < cb P i + 1 by omega)]; rfl
  · rw [decide_eq_false w, Bool.or_false, dec_cg (show q < cb P i + 1 ↔ q < cb P i by omega)]
end BXS
/-- rows of pairs in their order, knowers within -/
def PRy (P : Nat → Bool) (N i k : Nat) (R : Nat → Nat → Nat → Bool) (g : Nat → Int32) : Prop := ∀ k' p, k' < 4 → p < N → P p = true → (p < i ∨ p = i ∧ k' < k) → BS (g (k' * 24 + cb P p)) (fun j => decide (j < cb P N) && R k' p (nth P N j))
section PRYS
variable {P : Nat → Bool} {N i k : Nat} {R : Nat → Nat → Nat → Bool} {g g' : Nat → Int32}
theorem PRy.nil : PRy P N 0 0 R g := fun k p _ _ _ h => absurd h (by omega)
theorem PRy.up (h : PRy P N i k R g) (e : k = 4) : PRy P N (i + 1) 0 R g := fun k' p a b c d => h k' p a b c (by omega)
theorem PRy.fs {j : Nat} (h : PRy P N i 0 R g) (hij : i ≤ j) (hP : ∀ p, i ≤ p → p < j → P p = false) : PRy P N j 0 R g := fun k' p a b c d => h k' p a b c (by
  rcases Nat.lt_or_ge p i with q | q
  · exact Or.inl q
  · rw [hP p q (by omega)] at c; cases c)
theorem PRy.t {t : Nat} {r : Int32} (h : PRy P N i k R g) (hN : cb P N ≤ 24) (hi : i < N) (hk : k < 4) (hP : P i = true) (ht : t = cb P i) (hr : BS r (fun j => decide (j < cb P N) && R k i (nth P N j))) (e : upd g (k * 24 + t) r = g') : PRy P N i (k + 1) R g' := fun k' p a b c d => by
  have h1 := cb_lt (f := P) b c
  have h2 := cb_lt (f := P) hi hP
  rw [← e]
  by_cases q : k' * 24 + cb P p = k * 24 + t
  · have e1 : k' = k := by omega
    have e2 : p = i := cb_inj c hP (by omega)
    rw [q, pk_us, e1, e2]; exact hr
  · rw [pk_un q]
    refine h k' p a b c ?_
    rcases d with d | d
    · exact Or.inl d
    · right
      refine ⟨d.1, ?_⟩
      rcases Nat.lt_or_ge k' k with z | z
      · exact z
      · exfalso; apply q; rw [d.1]; have : k' = k := by omega
        rw [this, ht]
end PRYS
/-! what was before -/
def XB (P : Nat → Bool) (w rc i : Nat) (x : Int32) : Prop := (x = -4 ∧ P (4 * w + rc) = false ∧ ∀ j, j < i → P (4 * w + j) = false) ∨ (x = nI (bcm P w rc) ∧ ∃ j, j < 4 ∧ P (4 * w + j) = true)
section XBS
variable {P : Nat → Bool} {w rc i : Nat} {x : Int32}
theorem bcm_le (hw : w < 24) (hrc : rc < 4) : bcm P w rc < 100 := by
  unfold bcm
  have h1 := cb_le P (4 * w + rc)
  have h2 := cb_le P (4 * w)
  split <;> omega
theorem m4_no (hw : w < 24) (hrc : rc < 4) (h : (-4 : Int32) = nI (bcm P w rc)) : False := by
  have h1 := congrArg Int32.toInt h
  have h2 := bcm_le (P := P) hw hrc
  rw [nI_toInt (by omega)] at h1
  have h3 : (-4 : Int32).toInt = -4 := rfl
  omega
theorem XB.st_n (hP : P (4 * w + rc) = false) : XB P w rc 0 (-4) := Or.inl ⟨rfl, hP, fun j h => absurd h (Nat.not_lt_zero _)⟩
theorem XB.st_t (hrc : rc < 4) (hP : P (4 * w + rc) = true) : XB P w rc 0 (nI (cb P (4 * w + rc))) := Or.inr ⟨by unfold bcm; rw [if_pos hP], rc, hrc, hP⟩
theorem XB.n (h : XB P w rc i (-4)) (hP : P (4 * w + i) = false) : XB P w rc (i + 1) (-4) := h.imp (fun q => ⟨rfl, q.2.1, fun j hj => by
  by_cases z : j = i
  · rw [z]; exact hP
  · exact q.2.2 j (by omega)⟩) id
theorem XB.t (h : XB P w rc i (-4)) (hw : w < 24) (hrc : rc < 4) (hi : i < 4) (hP : P (4 * w + i) = true) : XB P w rc (i + 1) (nI (cb P (4 * w + i))) := by
  rcases h with ⟨-, h1, h2⟩ | ⟨h1, -⟩
  · right
    refine ⟨?_, i, hi, hP⟩
    unfold bcm
    rw [if_neg (by rw [h1]; exact Bool.false_ne_true), cb_flat (i := 4 * w) (j := 4 * w + i) (by omega) (fun p a b => by rw [show p = 4 * w + (p - 4 * w) by omega]; exact h2 _ (by omega))]
  · exact absurd h1 (fun z => m4_no hw hrc z)
def VBK (P T : Nat → Bool) (rc w : Nat) : Bool := decide (cb P (4 * w + 4) = cb P (4 * w)) || T (bcm P w rc)
theorem vb_1 {T : Nat → Bool} (h1 : ∀ j, j < i → P (4 * w + j) = false) (hi : ∀ j, i ≤ j → j < 4 → P (4 * w + j) = false) : VBK P T rc w = true := by
  unfold VBK
  rw [decide_eq_true (cb_flat (by omega) (fun p a b => by
    rw [show p = 4 * w + (p - 4 * w) by omega]
    rcases Nat.lt_or_ge (p - 4 * w) i with q | q
    · exact h1 _ q
    · exact hi _ q (by omega)))]; rfl
theorem vb_2 {T : Nat → Bool} (h : ∃ j, j < 4 ∧ P (4 * w + j) = true) : VBK P T rc w = T (bcm P w rc) := by
  obtain ⟨j, hj, hP⟩ := h
  unfold VBK
  have h1 := cb_lt (f := P) (n := 4 * w + 4) (show 4 * w + j < 4 * w + 4 by omega) hP
  have h2 := cb_mono P (show 4 * w ≤ 4 * w + j by omega)
  rw [decide_eq_false (by omega), Bool.false_or]
end XBS
theorem vb_bs {m : AM} {ev : EVl} {T : Nat → Bool} {x : Int32} (h : BS x (fun w => decide (w < m.1) && VBK (lyP m ev) T ev.2.1 w)) : BS x (vBack m ev T) := h
theorem m4_of {x : Int32} (h : x.toInt = -4) : x = -4 := Int32.toInt_inj.mp h
theorem XB.n' {P : Nat → Bool} {w rc i : Nat} {x : Int32} (h : XB P w rc i x) (hx : x.toInt = -4) (hP : P (4 * w + i) = false) : XB P w rc (i + 1) (-4) := XB.n (by rw [← m4_of hx]; exact h) hP
theorem XB.t' {P : Nat → Bool} {w rc i : Nat} {x : Int32} (h : XB P w rc i x) (hx : x.toInt = -4) (hw : w < 24) (hrc : rc < 4) (hi : i < 4) (hP : P (4 * w + i) = true) : XB P w rc (i + 1) (nI (cb P (4 * w + i))) := XB.t (by rw [← m4_of hx]; exact h) hw hrc hi hP
theorem vbx_1 {P T : Nat → Bool} {w rc i : Nat} {x : Int32} (h : XB P w rc i x) (hx : x.toInt = -4) (hw : w < 24) (hrc : rc < 4) (hi : ∀ j, i ≤ j → j < 4 → P (4 * w + j) = false) : VBK P T rc w = true := by
  rcases h with ⟨h1, h2, h3⟩ | ⟨h1, h2⟩
  · exact vb_1 h3 hi
  · rw [m4_of hx] at h1; exact absurd h1 (fun z => m4_no hw hrc z)
theorem vbx_2 {P : Nat → Bool} {so y : Int32} {w rc i N j : Nat} {x : Int32} {b : Bool} (h : XB P w rc i x) (hx : x.toInt ≠ -4) (hrc : rc < 4) (hN : 4 * w + 4 ≤ N) (hC : cb P N ≤ 24) (e1 : so >>> (x &&& 31) = y) (e2 : y &&& 1 = nI j) (hj : j < 2) (hb : decide (j = 1) = b) : VBK P (bt so) rc w = b := by
  rcases h with ⟨h1, h2, h3⟩ | ⟨h1, h2⟩
  · rw [h1] at hx; exact absurd (by decide) hx
  · subst h1
    have h3 := bcm_lt (P := P) (w := w) (N := N) hrc hN
    rw [vb_2 h2, ← hb]
    rcases (show j = 0 ∨ j = 1 by omega) with q | q
    · rw [hasb_0 (by omega) e1 e2 q, q]; rfl
    · rw [hasb_1 (by omega) e1 e2 q, q]; rfl
theorem rb_1 {r h : Int32} {u j : Nat} (hj : j < 4) (h1 : bt r u = true) (h2 : bt h j = true) : (bt r ((4 * u + j) / 4) && bt h ((4 * u + j) % 4)) = true := by
  rw [show (4 * u + j) / 4 = u by omega, show (4 * u + j) % 4 = j by omega, h1, h2]; rfl
theorem rb_a {r h : Int32} {u j : Nat} (hj : j < 4) (h1 : bt r u = false) : (bt r ((4 * u + j) / 4) && bt h ((4 * u + j) % 4)) = false := by
  rw [show (4 * u + j) / 4 = u by omega, h1]; rfl
theorem rb_b {r h : Int32} {u j : Nat} (hj : j < 4) (h2 : bt h j = false) : (bt r ((4 * u + j) / 4) && bt h ((4 * u + j) % 4)) = false := by
  rw [show (4 * u + j) % 4 = j by omega, h2, Bool.and_false]
theorem ly_bit {m : AM} {ev : EVl} {w i : Nat} {s : Int32} {b : Bool} (h : BS s (canE m (ev.2.2.1 i))) (hw : w < m.1) (hi : i < ev.1) (h4 : i < 4) (h32 : w < 32) (hb : bt s w = b) : lyP m ev (4 * w + i) = b := by
  rw [lyP_at h4, decide_eq_true hw, decide_eq_true hi, Bool.true_and, Bool.true_and, ← h w h32, hb]
theorem ly_x1 {P : Nat → Bool} {p : Nat} (h : P p = true) : (0 : Int32) = if P p = true then 0 else -4 := by rw [if_pos h]
theorem ly_x0 {P : Nat → Bool} {p : Nat} (h : P p = false) : (-4 : Int32) = if P p = true then 0 else -4 := by rw [if_neg (by rw [h]; exact Bool.false_ne_true)]
section LYR
variable {fm fr ff fp : Nat → Int32} {pa : Nat} {ev : EVl}
theorem lyF_r {fb fg : Nat → Int32} {w i : Nat} {a b c d g x : Int32} (h1 : ev.2.2.2.1 i = fb i) (h2 : ev.2.2.2.2.1 i = fg i) (hw : w < cN fm pa) (hi : i < 4) (e1 : ff (24 * pa + w) = a) (e2 : fg i = b) (e3 : b ^^^ (-1 : Int32) = c) (e4 : a &&& c = d) (e5 : fb i = g) (e6 : d ||| g = x) : x = lyF (pgs fm fr ff fp pa) ev (4 * w + i) := by
  show x = chg ev.2.2.2.1 ev.2.2.2.2.1 ((pgs fm fr ff fp pa).2.2.1 ((4 * w + i) / 4)) ((4 * w + i) % 4)
  rw [show (4 * w + i) / 4 = w by omega, show (4 * w + i) % 4 = i by omega, pg_F hw, e1]
  unfold chg
  rw [h1, h2, e2, e3, e4, e5, e6]
theorem both_ly {P : Nat → Bool} {N k w i : Nat} {r rw_ hd : Int32} (hk : k < 4) (hw : w < cN fm pa) (hi : i < 4) (e1 : fp (96 * pa + 24 * k + w) = rw_) (e2 : ev.2.2.2.2.2 (k * 4 + i) = hd) (h : BS r (fun q => decide (q < cb P N) && (bt rw_ (nth P N q / 4) && bt hd (nth P N q % 4)))) : BS r (fun q => decide (q < cb P N) && lyR (pgs fm fr ff fp pa) ev k (4 * w + i) (nth P N q)) := h.cg (fun q _ => by
  show (decide (q < cb P N) && (bt rw_ (nth P N q / 4) && bt hd (nth P N q % 4))) = (decide (q < cb P N) && ((pgs fm fr ff fp pa).2.2.2 k ((4 * w + i) / 4) (nth P N q / 4) && bt (ev.2.2.2.2.2 (k * 4 + (4 * w + i) % 4)) (nth P N q % 4)))
  rw [show (4 * w + i) / 4 = w by omega, show (4 * w + i) % 4 = i by omega, pg_S hk hw, e1, e2])
theorem pg_lay {fm' fr' ff' fp' : Nat → Int32} (h1 : cN fm' (pa + 1) = cb (lyP (pgs fm fr ff fp pa) ev) (4 * cN fm pa)) (h2 : cN fr' (pa + 1) = if lyP (pgs fm fr ff fp pa) ev (4 * cN fr pa + ev.2.1) = true then cb (lyP (pgs fm fr ff fp pa) ev) (4 * cN fr pa + ev.2.1) else 0) (h24 : cb (lyP (pgs fm fr ff fp pa) ev) (4 * cN fm pa) ≤ 24) (h3 : PFx (lyP (pgs fm fr ff fp pa) ev) (4 * cN fm pa) (lyF (pgs fm fr ff fp pa) ev) (sh (24 * (pa + 1)) ff')) (h4 : PRy (lyP (pgs fm fr ff fp pa) ev) (4 * cN fm pa) (4 * cN fm pa) 0 (lyR (pgs fm fr ff fp pa) ev) (sh (96 * (pa + 1)) fp')) : pgs fm' fr' ff' fp' (pa + 1) = aLay (pgs fm fr ff fp pa) ev := by
  show am (cN fm' (pa + 1)) (cN fr' (pa + 1)) (sh (24 * (pa + 1)) ff') (sh (96 * (pa + 1)) fp') = _
  unfold aLay
  rw [h2]
  exact cmp_am h1 (by omega) h3 (fun k p a b c => h4 k p a b c (Or.inl b))
theorem lay_wf {m : AM} : WFm (aLay m ev) := cmp_wf
end LYR
theorem wf_ff {fm fr ff fp ff' : Nat → Int32} {p : Nat} (h : WFm (pgs fm fr ff fp p)) : WFm (pgs fm fr ff' fp p) := fun k w v hv => h k w v hv
theorem lyC_big {m : AM} {ev : EVl} {p M : Nat} (hM : M = cb (lyP m ev) p) (h24 : 24 ≤ M) (hp : p < 4 * m.1) (hP : lyP m ev p = true) : ¬ lyC m ev ≤ 24 := by
  have h1 := cb_lt (f := lyP m ev) hp hP
  unfold lyC
  omega
theorem ly_0 {m : AM} {ev : EVl} {p : Nat} (h : m.1 = 0) : lyP m ev p = false := by
  unfold lyP; rw [h, decide_eq_false (Nat.not_lt_zero _), Bool.false_and]
end
section
theorem dX12_canBe_0 : decode cX12_canBe 0 = .ok (.aload_n 0, 1) := dl_42 (by decide +kernel)
theorem dX12_canBe_1 : decode cX12_canBe 1 = .ok (.getfield 58, 3) := dl_180 (by decide +kernel)
theorem dX12_canBe_4 : decode cX12_canBe 4 = .ok (.iconst 4, 1) := dl_7 (by decide +kernel)
theorem dX12_canBe_5 : decode cX12_canBe 5 = .ok (.iload_n 1, 1) := dl_27 (by decide +kernel)
theorem dX12_canBe_6 : decode cX12_canBe 6 = .ok (.imul, 1) := dl_104 (by decide +kernel)
theorem dX12_canBe_7 : decode cX12_canBe 7 = .ok (.iload_n 2, 1) := dl_28 (by decide +kernel)
theorem dX12_canBe_8 : decode cX12_canBe 8 = .ok (.iadd, 1) := dl_96 (by decide +kernel)
theorem dX12_canBe_9 : decode cX12_canBe 9 = .ok (.baload, 1) := dl_51 (by decide +kernel)
theorem dX12_canBe_10 : decode cX12_canBe 10 = .ok (.ifCond .eq 19, 3) := dl_153 (by decide +kernel)
theorem dX12_canBe_29 : decode cX12_canBe 29 = .ok (.aload_n 0, 1) := dl_42 (by decide +kernel)
theorem dX12_canBe_30 : decode cX12_canBe 30 = .ok (.getfield 7, 3) := dl_180 (by decide +kernel)
theorem dX12_canBe_33 : decode cX12_canBe 33 = .ok (.iload_n 3, 1) := dl_29 (by decide +kernel)
theorem dX12_canBe_34 : decode cX12_canBe 34 = .ok (.iaload, 1) := dl_46 (by decide +kernel)
theorem dX12_canBe_35 : decode cX12_canBe 35 = .ok (.invokestatic 230, 3) := dl_184 (by decide +kernel)
theorem dX12_canBe_38 : decode cX12_canBe 38 = .ok (.ireturn, 1) := dl_172 (by decide +kernel)
theorem dX12_canBe_13 : decode cX12_canBe 13 = .ok (.aload_n 0, 1) := dl_42 (by decide +kernel)
theorem dX12_canBe_14 : decode cX12_canBe 14 = .ok (.bipush 8, 2) := dl_16 (by decide +kernel)
theorem dX12_canBe_16 : decode cX12_canBe 16 = .ok (.iconst 4, 1) := dl_7 (by decide +kernel)
theorem dX12_canBe_17 : decode cX12_canBe 17 = .ok (.iload_n 1, 1) := dl_27 (by decide +kernel)
theorem dX12_canBe_18 : decode cX12_canBe 18 = .ok (.imul, 1) := dl_104 (by decide +kernel)
theorem dX12_canBe_19 : decode cX12_canBe 19 = .ok (.iadd, 1) := dl_96 (by decide +kernel)
theorem dX12_canBe_20 : decode cX12_canBe 20 = .ok (.iload_n 2, 1) := dl_28 (by decide +kernel)
theorem dX12_canBe_21 : decode cX12_canBe 21 = .ok (.iadd, 1) := dl_96 (by decide +kernel)
theorem dX12_canBe_22 : decode cX12_canBe 22 = .ok (.iload_n 3, 1) := dl_29 (by decide +kernel)
theorem dX12_canBe_23 : decode cX12_canBe 23 = .ok (.invokevirtual 256, 3) := dl_182 (by decide +kernel)
theorem wl_X12_256 : Cond.methodLink RX12 256 yX12_trueAt ∈ TB := tbm (tq6 (List.mem_of_getElem? (i := 170) (by decide +kernel))) (by decide +kernel)
theorem wc_X12_trueAt : Cond.code yX12_trueAt cX12_trueAt 9 (some .int) ∈ TB := tbm (tq6 (List.mem_of_getElem? (i := 173) (rfl))) (by decide +kernel)
theorem wi_X12_trueAt : Cond.instanceMethod yX12_trueAt ∈ TB := tbm (tq6 (List.mem_of_getElem? (i := 172) (by decide +kernel))) (by decide +kernel)
theorem ws_X12_trueAt : Cond.selects RX12 yX12_trueAt yX12_trueAt ∈ TB := tbm (tq0 (List.mem_of_getElem? (i := 62) (by decide +kernel))) (by decide +kernel)
theorem mi_X12_trueAt : MI yX12_trueAt cX12_trueAt 9 (some .int) 2 := ⟨wc_X12_trueAt, wn_X12, ⟨by decide +kernel, by decide +kernel, by decide +kernel⟩, wi_X12_trueAt, ws_X12_trueAt⟩
theorem dX12_canBe_26 : decode cX12_canBe 26 = .ok (.goto 12, 3) := dl_167 (by decide +kernel)
set_option maxRecDepth 100000 in
set_option maxHeartbeats 4000000 in
theorem r_canBe (l : Launch) (E : EV) (ro : va_W) (hm : Nat) (e : Nat) (i : Nat) (pa : Nat) (m_manys : Nat) (m_reals : Nat) (m_factsOf : Nat) (m_possible : Nat) (q_undos : Nat) (q_models : Nat) (m_tape : Nat) (q_taped : Nat) (q_fault : Int32) (q_wrong : Int32) (q_wrongAt : Int32) (q_spot : Int32) (q_place : Int32) (q_token : Int32) (q_value : Int32) (m_ends : Nat) (m_letters : Nat) (m_actOf : Nat) (m_whom : Nat) (m_actMany : Nat) (m_tokens : Nat) (m_afters : Nat) (m_afterOf : Nat) (q_counted : Int32) (m_pile : Nat) (m_caseMany : Nat) (m_happen : Nat) (m_hasIf : Nat) (m_becomes : Nat) (m_goneOf : Nat) (m_heard : Nat) (m_pairs : Nat) (m_heaps : Nat) (q_rounds : Int32) (q_heapMany : Int32) (m_led : Nat) (m_newAt : Nat) (m_knowing : Nat) (m_firsts : Nat) (q_people : Nat) (m_secrets : Nat) (m_tried : Nat) (m_lanes : Nat) (m_lengths : Nat) (m_cells : Nat) (f_manys : Nat → Int32) (f_reals : Nat → Int32) (f_factsOf : Nat → Int32) (f_possible : Nat → Int32) (f_actMany : Nat → Int32) (f_actOf : Nat → Int32) (f_whom : Nat → Int32) (f_hasIf : Nat → Int32) (f_pile : Nat → Int32) (hb_manys : NB 18 24 f_manys) (hb_reals : NB 18 23 f_reals) (hb_actMany : NB 25 32 f_actMany) (hpg : PG f_manys f_reals) (hsv : SV f_actOf f_actMany) (hwf : WFP (pgs f_manys f_reals f_factsOf f_possible)) (he : e < 4) (hi : i < 4) (hpa : pa < 18) (hWI : WHI f_hasIf f_actMany f_actOf f_whom) : CT l yX12_canBe (Cond.code yX12_canBe cX12_canBe 4 (some .int) :: TB) ({ frames := 4, cells := 0, slots := 0, locals := 107 }) E ro [.ref hm, .int (nI e), .int (nI i), .int (nI pa)] [(hm, .inr (12, [.ref m_manys, .ref m_reals, .ref m_factsOf, .ref m_possible, .int (nI q_undos), .int (nI q_models), .ref m_tape, .int (nI q_taped), .int q_fault, .int q_wrong, .int q_wrongAt, .int q_spot, .int q_place, .int q_token, .int q_value, .ref m_ends, .ref m_letters, .ref m_actOf, .ref m_whom, .ref m_actMany, .ref m_tokens, .ref m_afters, .ref m_afterOf, .int q_counted, .ref m_pile, .ref m_caseMany, .ref m_happen, .ref m_hasIf, .ref m_becomes, .ref m_goneOf, .ref m_heard, .ref m_pairs, .ref m_heaps, .int q_rounds, .int q_heapMany, .ref m_led, .ref m_newAt, .ref m_knowing, .ref m_firsts, .int (nI q_people), .ref m_secrets, .ref m_tried, .ref m_lanes, .ref m_lengths, .ref m_cells])), (m_manys, .inl (E.2.1 1, 18, .inl f_manys)), (m_reals, .inl (E.2.1 1, 18, .inl f_reals)), (m_factsOf, .inl (E.2.1 1, 432, .inl f_factsOf)), (m_possible, .inl (E.2.1 1, 1728, .inl f_possible)), (m_actMany, .inl (E.2.1 1, 25, .inl f_actMany)), (m_actOf, .inl (E.2.1 1, 800, .inl f_actOf)), (m_whom, .inl (E.2.1 1, 800, .inl f_whom)), (m_hasIf, .inl (E.2.1 3, 16, .inl f_hasIf)), (m_pile, .inl (E.2.1 1, 34, .inl f_pile))] (Qi E (fun (rz : Int32) uz => (∃ (f_pilez : Nat → Int32), uz = [(hm, .inr (12, [.ref m_manys, .ref m_reals, .ref m_factsOf, .ref m_possible, .int (nI q_undos), .int (nI q_models), .ref m_tape, .int (nI q_taped), .int q_fault, .int q_wrong, .int q_wrongAt, .int q_spot, .int q_place, .int q_token, .int q_value, .ref m_ends, .ref m_letters, .ref m_actOf, .ref m_whom, .ref m_actMany, .ref m_tokens, .ref m_afters, .ref m_afterOf, .int q_counted, .ref m_pile, .ref m_caseMany, .ref m_happen, .ref m_hasIf, .ref m_becomes, .ref m_goneOf, .ref m_heard, .ref m_pairs, .ref m_heaps, .int q_rounds, .int q_heapMany, .ref m_led, .ref m_newAt, .ref m_knowing, .ref m_firsts, .int (nI q_people), .ref m_secrets, .ref m_tried, .ref m_lanes, .ref m_lengths, .ref m_cells])), (m_manys, .inl (E.2.1 1, 18, .inl f_manys)), (m_reals, .inl (E.2.1 1, 18, .inl f_reals)), (m_factsOf, .inl (E.2.1 1, 432, .inl f_factsOf)), (m_possible, .inl (E.2.1 1, 1728, .inl f_possible)), (m_actMany, .inl (E.2.1 1, 25, .inl f_actMany)), (m_actOf, .inl (E.2.1 1, 800, .inl f_actOf)), (m_whom, .inl (E.2.1 1, 800, .inl f_whom)), (m_hasIf, .inl (E.2.1 3, 16, .inl f_hasIf)), (m_pile, .inl (E.2.1 1, 34, .inl f_pilez))] ∧ (BS rz (canE (pgs f_manys f_reals f_factsOf f_possible pa) (cOp f_hasIf f_actMany f_actOf f_whom (4 * e + i))))))) 0 0 := by
  refine ct_of rfl rfl ?_
  intro X C hT hin hro
  show WW X 4 E 0 [(0, .ref hm), (1, .int (nI e)), (2, .int (nI i)), (3, .int (nI pa))] [] [(hm, .inr (12, [.ref m_manys, .ref m_reals, .ref m_factsOf, .ref m_possible, .int (nI q_undos), .int (nI q_models), .ref m_tape, .int (nI q_taped), .int q_fault, .int q_wrong, .int q_wrongAt, .int q_spot, .int q_place, .int q_token, .int q_value, .ref m_ends, .ref m_letters, .ref m_actOf, .ref m_whom, .ref m_actMany, .ref m_tokens, .ref m_afters, .ref m_afterOf, .int q_counted, .ref m_pile, .ref m_caseMany, .ref m_happen, .ref m_hasIf, .ref m_becomes, .ref m_goneOf, .ref m_heard, .ref m_pairs, .ref m_heaps, .int q_rounds, .int q_heapMany, .ref m_led, .ref m_newAt, .ref m_knowing, .ref m_firsts, .int (nI q_people), .ref m_secrets, .ref m_tried, .ref m_lanes, .ref m_lengths, .ref m_cells])), (m_manys, .inl (E.2.1 1, 18, .inl f_manys)), (m_reals, .inl (E.2.1 1, 18, .inl f_reals)), (m_factsOf, .inl (E.2.1 1, 432, .inl f_factsOf)), (m_possible, .inl (E.2.1 1, 1728, .inl f_possible)), (m_actMany, .inl (E.2.1 1, 25, .inl f_actMany)), (m_actOf, .inl (E.2.1 1, 800, .inl f_actOf)), (m_whom, .inl (E.2.1 1, 800, .inl f_whom)), (m_hasIf, .inl (E.2.1 3, 16, .inl f_hasIf)), (m_pile, .inl (E.2.1 1, 34, .inl f_pile))] 0 0
  have hmn0 := (hb_manys 0 (by omega)).2
  have hmnp := (hb_manys pa (by omega)).2
  refine ww_aload_n C dX12_canBe_0 0 rfl rfl ?_
  refine ww_get C fg_X12_58 0 rfl rfl dX12_canBe_1 ?_
  refine ww_iconst (v := 4) C dX12_canBe_4 rfl ?_
  refine ww_iload_n C dX12_canBe_5 1 rfl rfl ?_
  refine ww_imul (v := (nI (4 * e))) C dX12_canBe_6 (pk_mul 4 e) ?_
  refine ww_iload_n C dX12_canBe_7 2 rfl rfl ?_
  refine ww_iadd (v := (nI ((4 * e) + i))) C dX12_canBe_8 (nI_add (4 * e) i) ?_
  obtain ⟨x_1, ex_1⟩ : ∃ z : Int32, f_hasIf ((4 * e) + i) = z := ⟨_, rfl⟩
  refine ww_zald (v := x_1) C 8 rfl (vp_in_nI (by omega) (by omega)) (ldn (by omega) ex_1) dX12_canBe_9 ?_
  refine ww_if_eq (tgt := 29) C dX12_canBe_10 (by decide) (fun c_2 => ?_) (fun c_2 => ?_)
  · have zc_2 : x_1.toInt = 0 := i_eq rfl rfl c_2
    refine ww_aload_n C dX12_canBe_29 0 rfl rfl ?_
    refine ww_get C fg_X12_7 0 rfl rfl dX12_canBe_30 ?_
    refine ww_iload_n C dX12_canBe_33 3 rfl rfl ?_
    have hbx_3 := (hb_manys pa (by omega)).2
    refine ww_iald (v := (nI (cN f_manys pa))) C 1 rfl (vp_in_nI (by omega) (by omega)) (ldn (by omega) (hb_manys pa (by omega)).1) dX12_canBe_34 ?_
    refine ww_ci (wr := [(hm, .inr (12, [.ref m_manys, .ref m_reals, .ref m_factsOf, .ref m_possible, .int (nI q_undos), .int (nI q_models), .ref m_tape, .int (nI q_taped), .int q_fault, .int q_wrong, .int q_wrongAt, .int q_spot, .int q_place, .int q_token, .int q_value, .ref m_ends, .ref m_letters, .ref m_actOf, .ref m_whom, .ref m_actMany, .ref m_tokens, .ref m_afters, .ref m_afterOf, .int q_counted, .ref m_pile, .ref m_caseMany, .ref m_happen, .ref m_hasIf, .ref m_becomes, .ref m_goneOf, .ref m_heard, .ref m_pairs, .ref m_heaps, .int q_rounds, .int q_heapMany, .ref m_led, .ref m_newAt, .ref m_knowing, .ref m_firsts, .int (nI q_people), .ref m_secrets, .ref m_tried, .ref m_lanes, .ref m_lengths, .ref m_cells])), (m_manys, .inl (E.2.1 1, 18, .inl f_manys)), (m_reals, .inl (E.2.1 1, 18, .inl f_reals)), (m_factsOf, .inl (E.2.1 1, 432, .inl f_factsOf)), (m_possible, .inl (E.2.1 1, 1728, .inl f_possible)), (m_actMany, .inl (E.2.1 1, 25, .inl f_actMany)), (m_actOf, .inl (E.2.1 1, 800, .inl f_actOf)), (m_whom, .inl (E.2.1 1, 800, .inl f_whom)), (m_hasIf, .inl (E.2.1 3, 16, .inl f_hasIf)), (m_pile, .inl (E.2.1 1, 34, .inl f_pile))]) (k' := 0) (n' := 0) C (run_S (As := [.int (nI (cN f_manys pa))]) (rest := []) C (r_all X.2.1 E ro (cN f_manys pa) (by omega)) ms_X12_all wl_X12_230 rfl rfl rfl rfl dX12_canBe_35) (roK hro) [] [0, 1, 2, 3, 4, 5, 6, 7, 8, 9] rfl (gqk (by eq_refl)) (plk (by decide +kernel)) rfl (fun r_4 uz hw => ?_)
    refine an1 hw ?_
    clear hw
    intro he_6 hw
    have h_5 := hw
    clear hw
    subst he_6
    refine ww_eq (ws' := [(hm, .inr (12, [.ref m_manys, .ref m_reals, .ref m_factsOf, .ref m_possible, .int (nI q_undos), .int (nI q_models), .ref m_tape, .int (nI q_taped), .int q_fault, .int q_wrong, .int q_wrongAt, .int q_spot, .int q_place, .int q_token, .int q_value, .ref m_ends, .ref m_letters, .ref m_actOf, .ref m_whom, .ref m_actMany, .ref m_tokens, .ref m_afters, .ref m_afterOf, .int q_counted, .ref m_pile, .ref m_caseMany, .ref m_happen, .ref m_hasIf, .ref m_becomes, .ref m_goneOf, .ref m_heard, .ref m_pairs, .ref m_heaps, .int q_rounds, .int q_heapMany, .ref m_led, .ref m_newAt, .ref m_knowing, .ref m_firsts, .int (nI q_people), .ref m_secrets, .ref m_tried, .ref m_lanes, .ref m_lengths, .ref m_cells])), (m_manys, .inl (E.2.1 1, 18, .inl f_manys)), (m_reals, .inl (E.2.1 1, 18, .inl f_reals)), (m_factsOf, .inl (E.2.1 1, 432, .inl f_factsOf)), (m_possible, .inl (E.2.1 1, 1728, .inl f_possible)), (m_actMany, .inl (E.2.1 1, 25, .inl f_actMany)), (m_actOf, .inl (E.2.1 1, 800, .inl f_actOf)), (m_whom, .inl (E.2.1 1, 800, .inl f_whom)), (m_hasIf, .inl (E.2.1 3, 16, .inl f_hasIf)), (m_pile, .inl (E.2.1 1, 34, .inl f_pile))]) ?_ rfl rfl rfl
    exact ww_iret (u := [(hm, .inr (12, [.ref m_manys, .ref m_reals, .ref m_factsOf, .ref m_possible, .int (nI q_undos), .int (nI q_models), .ref m_tape, .int (nI q_taped), .int q_fault, .int q_wrong, .int q_wrongAt, .int q_spot, .int q_place, .int q_token, .int q_value, .ref m_ends, .ref m_letters, .ref m_actOf, .ref m_whom, .ref m_actMany, .ref m_tokens, .ref m_afters, .ref m_afterOf, .int q_counted, .ref m_pile, .ref m_caseMany, .ref m_happen, .ref m_hasIf, .ref m_becomes, .ref m_goneOf, .ref m_heard, .ref m_pairs, .ref m_heaps, .int q_rounds, .int q_heapMany, .ref m_led, .ref m_newAt, .ref m_knowing, .ref m_firsts, .int (nI q_people), .ref m_secrets, .ref m_tried, .ref m_lanes, .ref m_lengths, .ref m_cells])), (m_manys, .inl (E.2.1 1, 18, .inl f_manys)), (m_reals, .inl (E.2.1 1, 18, .inl f_reals)), (m_factsOf, .inl (E.2.1 1, 432, .inl f_factsOf)), (m_possible, .inl (E.2.1 1, 1728, .inl f_possible)), (m_actMany, .inl (E.2.1 1, 25, .inl f_actMany)), (m_actOf, .inl (E.2.1 1, 800, .inl f_actOf)), (m_whom, .inl (E.2.1 1, 800, .inl f_whom)), (m_hasIf, .inl (E.2.1 3, 16, .inl f_hasIf)), (m_pile, .inl (E.2.1 1, 34, .inl f_pile))]) C hT [0, 1, 2, 3, 4, 5, 6, 7, 8, 9] (gqk (by eq_refl)) (ndk (by decide +kernel)) rfl rfl dX12_canBe_38 (⟨f_pile, rfl, (can_n ex_1 (by assumption) h_5)⟩)
  · have zc_2 : x_1.toInt ≠ 0 := i_ne rfl rfl c_2
    refine ww_aload_n C dX12_canBe_13 0 rfl rfl ?_
    refine ww_bipush (v := 8) C dX12_canBe_14 rfl ?_
    refine ww_iconst (v := 4) C dX12_canBe_16 rfl ?_
    refine ww_iload_n C dX12_canBe_17 1 rfl rfl ?_
    refine ww_imul (v := (nI (4 * e))) C dX12_canBe_18 (pk_mul 4 e) ?_
    refine ww_iadd (v := (nI (8 + (4 * e)))) C dX12_canBe_19 (nI_add 8 (4 * e)) ?_
    refine ww_iload_n C dX12_canBe_20 2 rfl rfl ?_
    refine ww_iadd (v := (nI ((8 + (4 * e)) + i))) C dX12_canBe_21 (nI_add (8 + (4 * e)) i) ?_
    refine ww_iload_n C dX12_canBe_22 3 rfl rfl ?_
    refine ww_ci (wr := [(m_hasIf, .inl (E.2.1 3, 16, .inl f_hasIf))]) (k' := 0) (n' := 0) C (run_V (As := [.int (nI ((8 + (4 * e)) + i)), .int (nI pa)]) (rest := []) C (r_trueAt X.2.1 E ro hm ((8 + (4 * e)) + i) pa m_manys m_reals m_factsOf m_possible q_undos q_models m_tape q_taped q_fault q_wrong q_wrongAt q_spot q_place q_token q_value m_ends m_letters m_actOf m_whom m_actMany m_tokens m_afters m_afterOf q_counted m_pile m_caseMany m_happen m_hasIf m_becomes m_goneOf m_heard m_pairs m_heaps q_rounds q_heapMany m_led m_newAt m_knowing m_firsts q_people m_secrets m_tried m_lanes m_lengths m_cells f_manys f_reals f_factsOf f_possible f_actMany f_actOf f_whom f_pile hb_manys hb_reals hb_actMany hpg hsv hwf (by omega) (by omega) (WHI.at hWI (by omega) ex_1 (by assumption) (by omega))) mi_X12_trueAt wl_X12_256 rfl 0 12 rfl rfl rfl rfl rfl dX12_canBe_23) (roK hro) [0, 1, 2, 3, 4, 5, 6, 7, 9] [8] (gqk (by eq_refl)) rfl (plk (by decide +kernel)) rfl (fun r_7 uz hw => ?_)
    refine ex1 hw ?_
    clear hw
    intro f_pilez_8 hw
    refine an1 hw ?_
    clear hw
    intro he_10 hw
    have h_9 := hw
    clear hw
    subst he_10
    refine ww_eq (ws' := [(m_hasIf, .inl (E.2.1 3, 16, .inl f_hasIf)), (hm, .inr (12, [.ref m_manys, .ref m_reals, .ref m_factsOf, .ref m_possible, .int (nI q_undos), .int (nI q_models), .ref m_tape, .int (nI q_taped), .int q_fault, .int q_wrong, .int q_wrongAt, .int q_spot, .int q_place, .int q_token, .int q_value, .ref m_ends, .ref m_letters, .ref m_actOf, .ref m_whom, .ref m_actMany, .ref m_tokens, .ref m_afters, .ref m_afterOf, .int q_counted, .ref m_pile, .ref m_caseMany, .ref m_happen, .ref m_hasIf, .ref m_becomes, .ref m_goneOf, .ref m_heard, .ref m_pairs, .ref m_heaps, .int q_rounds, .int q_heapMany, .ref m_led, .ref m_newAt, .ref m_knowing, .ref m_firsts, .int (nI q_people), .ref m_secrets, .ref m_tried, .ref m_lanes, .ref m_lengths, .ref m_cells])), (m_manys, .inl (E.2.1 1, 18, .inl f_manys)), (m_reals, .inl (E.2.1 1, 18, .inl f_reals)), (m_factsOf, .inl (E.2.1 1, 432, .inl f_factsOf)), (m_possible, .inl (E.2.1 1, 1728, .inl f_possible)), (m_actMany, .inl (E.2.1 1, 25, .inl f_actMany)), (m_actOf, .inl (E.2.1 1, 800, .inl f_actOf)), (m_whom, .inl (E.2.1 1, 800, .inl f_whom)), (m_pile, .inl (E.2.1 1, 34, .inl f_pilez_8))]) ?_ rfl rfl rfl
    refine ww_goto (tgt := 38) C dX12_canBe_26 (by decide) ?_
    exact ww_iret (u := [(hm, .inr (12, [.ref m_manys, .ref m_reals, .ref m_factsOf, .ref m_possible, .int (nI q_undos), .int (nI q_models), .ref m_tape, .int (nI q_taped), .int q_fault, .int q_wrong, .int q_wrongAt, .int q_spot, .int q_place, .int q_token, .int q_value, .ref m_ends, .ref m_letters, .ref m_actOf, .ref m_whom, .ref m_actMany, .ref m_tokens, .ref m_afters, .ref m_afterOf, .int q_counted, .ref m_pile, .ref m_caseMany, .ref m_happen, .ref m_hasIf, .ref m_becomes, .ref m_goneOf, .ref m_heard, .ref m_pairs, .ref m_heaps, .int q_rounds, .int q_heapMany, .ref m_led, .ref m_newAt, .ref m_knowing, .ref m_firsts, .int (nI q_people), .ref m_secrets, .ref m_tried, .ref m_lanes, .ref m_lengths, .ref m_cells])), (m_manys, .inl (E.2.1 1, 18, .inl f_manys)), (m_reals, .inl (E.2.1 1, 18, .inl f_reals)), (m_factsOf, .inl (E.2.1 1, 432, .inl f_factsOf)), (m_possible, .inl (E.2.1 1, 1728, .inl f_possible)), (m_actMany, .inl (E.2.1 1, 25, .inl f_actMany)), (m_actOf, .inl (E.2.1 1, 800, .inl f_actOf)), (m_whom, .inl (E.2.1 1, 800, .inl f_whom)), (m_hasIf, .inl (E.2.1 3, 16, .inl f_hasIf)), (m_pile, .inl (E.2.1 1, 34, .inl f_pilez_8))]) C hT [1, 2, 3, 4, 5, 6, 7, 8, 0, 9] (gqk (by eq_refl)) (ndk (by decide +kernel)) rfl rfl dX12_canBe_38 (⟨f_pilez_8, rfl, (can_s ex_1 (by assumption) (by omega) h_9)⟩)
theorem dX12_both_0 : decode cX12_both 0 = .ok (.iconst 0, 1) := dl_3 (by decide +kernel)
theorem dX12_both_1 : decode cX12_both 1 = .ok (.istore 6, 2) := dl_54 (by decide +kernel)
theorem dX12_both_3 : decode cX12_both 3 = .ok (.iconst 0, 1) := dl_3 (by decide +kernel)
theorem dX12_both_4 : decode cX12_both 4 = .ok (.istore 7, 2) := dl_54 (by decide +kernel)
theorem dX12_both_6 : decode cX12_both 6 = .ok (.iload 7, 2) := dl_21 (by decide +kernel)
theorem dX12_both_8 : decode cX12_both 8 = .ok (.aload_n 0, 1) := dl_42 (by decide +kernel)
theorem dX12_both_9 : decode cX12_both 9 = .ok (.getfield 7, 3) := dl_180 (by decide +kernel)
theorem dX12_both_12 : decode cX12_both 12 = .ok (.iload_n 2, 1) := dl_28 (by decide +kernel)
theorem dX12_both_13 : decode cX12_both 13 = .ok (.iaload, 1) := dl_46 (by decide +kernel)
theorem dX12_both_14 : decode cX12_both 14 = .ok (.if_icmp .ge 122, 3) := dl_162 (by decide +kernel)
theorem dX12_both_136 : decode cX12_both 136 = .ok (.iload 6, 2) := dl_21 (by decide +kernel)
theorem dX12_both_138 : decode cX12_both 138 = .ok (.ireturn, 1) := dl_172 (by decide +kernel)
theorem dX12_both_17 : decode cX12_both 17 = .ok (.iconst 0, 1) := dl_3 (by decide +kernel)
theorem dX12_both_18 : decode cX12_both 18 = .ok (.istore 8, 2) := dl_54 (by decide +kernel)
theorem dX12_both_20 : decode cX12_both 20 = .ok (.iload 8, 2) := dl_21 (by decide +kernel)
theorem dX12_both_22 : decode cX12_both 22 = .ok (.aload_n 0, 1) := dl_42 (by decide +kernel)
theorem dX12_both_23 : decode cX12_both 23 = .ok (.getfield 52, 3) := dl_180 (by decide +kernel)
theorem dX12_both_26 : decode cX12_both 26 = .ok (.iload_n 1, 1) := dl_27 (by decide +kernel)
theorem dX12_both_27 : decode cX12_both 27 = .ok (.iaload, 1) := dl_46 (by decide +kernel)
theorem dX12_both_28 : decode cX12_both 28 = .ok (.if_icmp .ge 102, 3) := dl_162 (by decide +kernel)
theorem dX12_both_130 : decode cX12_both 130 = .ok (.iinc 7 1, 3) := dl_132 (by decide +kernel)
theorem dX12_both_133 : decode cX12_both 133 = .ok (.goto (-127), 3) := dl_167 (by decide +kernel)
theorem dX12_both_31 : decode cX12_both 31 = .ok (.aload_n 0, 1) := dl_42 (by decide +kernel)
theorem dX12_both_32 : decode cX12_both 32 = .ok (.iload_n 2, 1) := dl_28 (by decide +kernel)
theorem dX12_both_33 : decode cX12_both 33 = .ok (.iload_n 3, 1) := dl_29 (by decide +kernel)
theorem dX12_both_34 : decode cX12_both 34 = .ok (.iload 4, 2) := dl_21 (by decide +kernel)
theorem dX12_both_36 : decode cX12_both 36 = .ok (.invokevirtual 135, 3) := dl_182 (by decide +kernel)
theorem dX12_both_39 : decode cX12_both 39 = .ok (.iload 7, 2) := dl_21 (by decide +kernel)
theorem dX12_both_41 : decode cX12_both 41 = .ok (.ishr, 1) := dl_122 (by decide +kernel)
theorem dX12_both_42 : decode cX12_both 42 = .ok (.iconst 1, 1) := dl_4 (by decide +kernel)
theorem dX12_both_43 : decode cX12_both 43 = .ok (.iand, 1) := dl_126 (by decide +kernel)
theorem dX12_both_44 : decode cX12_both 44 = .ok (.iconst 1, 1) := dl_4 (by decide +kernel)
theorem dX12_both_45 : decode cX12_both 45 = .ok (.if_icmp .ne 32, 3) := dl_160 (by decide +kernel)
theorem dX12_both_77 : decode cX12_both 77 = .ok (.iconst 0, 1) := dl_3 (by decide +kernel)
theorem dX12_both_78 : decode cX12_both 78 = .ok (.istore 9, 2) := dl_54 (by decide +kernel)
theorem dX12_both_80 : decode cX12_both 80 = .ok (.aload_n 0, 1) := dl_42 (by decide +kernel)
theorem dX12_both_81 : decode cX12_both 81 = .ok (.getfield 71, 3) := dl_180 (by decide +kernel)
theorem wf_X12_71 : Cond.fieldLink RX12 71 RX12 "pairs" "[I" ∈ TB := tbm (tq5 (List.mem_of_getElem? (i := 109) (by decide +kernel))) (by decide +kernel)
theorem fg_X12_71 : FG RX12 71 12 31 := ⟨RX12, TX12, 45, uw_X12, wf_X12_71, rfl, by decide, rfl⟩
theorem dX12_both_84 : decode cX12_both 84 = .ok (.bipush 96, 2) := dl_16 (by decide +kernel)
theorem dX12_both_86 : decode cX12_both 86 = .ok (.iload_n 2, 1) := dl_28 (by decide +kernel)
theorem dX12_both_87 : decode cX12_both 87 = .ok (.imul, 1) := dl_104 (by decide +kernel)
theorem dX12_both_88 : decode cX12_both 88 = .ok (.iconst 4, 1) := dl_7 (by decide +kernel)
theorem dX12_both_89 : decode cX12_both 89 = .ok (.iload 7, 2) := dl_21 (by decide +kernel)
theorem dX12_both_91 : decode cX12_both 91 = .ok (.imul, 1) := dl_104 (by decide +kernel)
theorem dX12_both_92 : decode cX12_both 92 = .ok (.iadd, 1) := dl_96 (by decide +kernel)
theorem dX12_both_93 : decode cX12_both 93 = .ok (.iload 8, 2) := dl_21 (by decide +kernel)
theorem dX12_both_95 : decode cX12_both 95 = .ok (.iadd, 1) := dl_96 (by decide +kernel)
theorem dX12_both_96 : decode cX12_both 96 = .ok (.iaload, 1) := dl_46 (by decide +kernel)
theorem dX12_both_97 : decode cX12_both 97 = .ok (.istore 10, 2) := dl_54 (by decide +kernel)
theorem dX12_both_99 : decode cX12_both 99 = .ok (.iload 6, 2) := dl_21 (by decide +kernel)
theorem dX12_both_101 : decode cX12_both 101 = .ok (.iload 9, 2) := dl_21 (by decide +kernel)
theorem dX12_both_103 : decode cX12_both 103 = .ok (.ifCond .eq 17, 3) := dl_153 (by decide +kernel)
theorem dX12_both_120 : decode cX12_both 120 = .ok (.iconst 0, 1) := dl_3 (by decide +kernel)
theorem dX12_both_121 : decode cX12_both 121 = .ok (.ior, 1) := dl_128 (by decide +kernel)
theorem dX12_both_122 : decode cX12_both 122 = .ok (.istore 6, 2) := dl_54 (by decide +kernel)
theorem dX12_both_124 : decode cX12_both 124 = .ok (.iinc 8 1, 3) := dl_132 (by decide +kernel)
theorem dX12_both_127 : decode cX12_both 127 = .ok (.goto (-107), 3) := dl_167 (by decide +kernel)
theorem dX12_both_48 : decode cX12_both 48 = .ok (.aload_n 0, 1) := dl_42 (by decide +kernel)
theorem dX12_both_49 : decode cX12_both 49 = .ok (.getfield 68, 3) := dl_180 (by decide +kernel)
theorem dX12_both_52 : decode cX12_both 52 = .ok (.bipush 16, 2) := dl_16 (by decide +kernel)
theorem dX12_both_54 : decode cX12_both 54 = .ok (.iload_n 1, 1) := dl_27 (by decide +kernel)
theorem dX12_both_55 : decode cX12_both 55 = .ok (.imul, 1) := dl_104 (by decide +kernel)
theorem dX12_both_56 : decode cX12_both 56 = .ok (.iconst 4, 1) := dl_7 (by decide +kernel)
theorem dX12_both_57 : decode cX12_both 57 = .ok (.iload_n 3, 1) := dl_29 (by decide +kernel)
theorem dX12_both_58 : decode cX12_both 58 = .ok (.imul, 1) := dl_104 (by decide +kernel)
theorem dX12_both_59 : decode cX12_both 59 = .ok (.iadd, 1) := dl_96 (by decide +kernel)
theorem dX12_both_60 : decode cX12_both 60 = .ok (.iload 5, 2) := dl_21 (by decide +kernel)
theorem dX12_both_62 : decode cX12_both 62 = .ok (.iadd, 1) := dl_96 (by decide +kernel)
theorem dX12_both_63 : decode cX12_both 63 = .ok (.iaload, 1) := dl_46 (by decide +kernel)
theorem dX12_both_64 : decode cX12_both 64 = .ok (.iload 8, 2) := dl_21 (by decide +kernel)
theorem dX12_both_66 : decode cX12_both 66 = .ok (.ishr, 1) := dl_122 (by decide +kernel)
theorem dX12_both_67 : decode cX12_both 67 = .ok (.iconst 1, 1) := dl_4 (by decide +kernel)
theorem dX12_both_68 : decode cX12_both 68 = .ok (.iand, 1) := dl_126 (by decide +kernel)
theorem dX12_both_69 : decode cX12_both 69 = .ok (.iconst 1, 1) := dl_4 (by decide +kernel)
theorem dX12_both_70 : decode cX12_both 70 = .ok (.if_icmp .ne 7, 3) := dl_160 (by decide +kernel)
theorem dX12_both_73 : decode cX12_both 73 = .ok (.iconst 1, 1) := dl_4 (by decide +kernel)
theorem dX12_both_74 : decode cX12_both 74 = .ok (.goto 4, 3) := dl_167 (by decide +kernel)
theorem dX12_both_106 : decode cX12_both 106 = .ok (.iload 10, 2) := dl_21 (by decide +kernel)
theorem dX12_both_108 : decode cX12_both 108 = .ok (.bipush (-4), 2) := dl_16 (by decide +kernel)
theorem dX12_both_110 : decode cX12_both 110 = .ok (.if_icmp .eq 10, 3) := dl_159 (by decide +kernel)
theorem dX12_both_113 : decode cX12_both 113 = .ok (.iconst 1, 1) := dl_4 (by decide +kernel)
theorem dX12_both_114 : decode cX12_both 114 = .ok (.iload 10, 2) := dl_21 (by decide +kernel)
theorem dX12_both_116 : decode cX12_both 116 = .ok (.ishl, 1) := dl_120 (by decide +kernel)
theorem dX12_both_117 : decode cX12_both 117 = .ok (.goto 4, 3) := dl_167 (by decide +kernel)
set_option maxRecDepth 100000 in
set_option maxHeartbeats 4000000 in
theorem r_both (l : Launch) (E : EV) (ro : va_W) (hm : Nat) (e : Nat) (pa : Nat) (k : Nat) (w : Nat) (i : Nat) (m_manys : Nat) (m_reals : Nat) (m_factsOf : Nat) (m_possible : Nat) (q_undos : Nat) (q_models : Nat) (m_tape : Nat) (q_taped : Nat) (q_fault : Int32) (q_wrong : Int32) (q_wrongAt : Int32) (q_spot : Int32) (q_place : Int32) (q_token : Int32) (q_value : Int32) (m_ends : Nat) (m_letters : Nat) (m_actOf : Nat) (m_whom : Nat) (m_actMany : Nat) (m_tokens : Nat) (m_afters : Nat) (m_afterOf : Nat) (q_counted : Int32) (m_pile : Nat) (m_caseMany : Nat) (m_happen : Nat) (m_hasIf : Nat) (m_becomes : Nat) (m_goneOf : Nat) (m_heard : Nat) (m_pairs : Nat) (m_heaps : Nat) (q_rounds : Int32) (q_heapMany : Int32) (m_led : Nat) (m_newAt : Nat) (m_knowing : Nat) (m_firsts : Nat) (q_people : Nat) (m_secrets : Nat) (m_tried : Nat) (m_lanes : Nat) (m_lengths : Nat) (m_cells : Nat) (f_manys : Nat → Int32) (f_possible : Nat → Int32) (f_caseMany : Nat → Int32) (f_heard : Nat → Int32) (f_pairs : Nat → Int32) (Pq : Nat → Bool) (hb_manys : NB 18 24 f_manys) (hb_caseMany : NB 4 4 f_caseMany) (he : e < 4) (hpa : pa < 6) (hk : k < 4) (hw : w < 24) (hi : i < 4) (hPF : PRF Pq (cN f_manys pa) (cN f_caseMany e) pa f_pairs) (hP4 : ∀ u j, u < cN f_manys pa → cN f_caseMany e ≤ j → j < 4 → Pq (4 * u + j) = false) (hC : cb Pq (4 * cN f_manys pa) ≤ 24) : CT l yX12_both (Cond.code yX12_both cX12_both 11 (some .int) :: TB) ({ frames := 1, cells := 0, slots := 0, locals := 23 }) E ro [.ref hm, .int (nI e), .int (nI pa), .int (nI k), .int (nI w), .int (nI i)] [(hm, .inr (12, [.ref m_manys, .ref m_reals, .ref m_factsOf, .ref m_possible, .int (nI q_undos), .int (nI q_models), .ref m_tape, .int (nI q_taped), .int q_fault, .int q_wrong, .int q_wrongAt, .int q_spot, .int q_place, .int q_token, .int q_value, .ref m_ends, .ref m_letters, .ref m_actOf, .ref m_whom, .ref m_actMany, .ref m_tokens, .ref m_afters, .ref m_afterOf, .int q_counted, .ref m_pile, .ref m_caseMany, .ref m_happen, .ref m_hasIf, .ref m_becomes, .ref m_goneOf, .ref m_heard, .ref m_pairs, .ref m_heaps, .int q_rounds, .int q_heapMany, .ref m_led, .ref m_newAt, .ref m_knowing, .ref m_firsts, .int (nI q_people), .ref m_secrets, .ref m_tried, .ref m_lanes, .ref m_lengths, .ref m_cells])), (m_manys, .inl (E.2.1 1, 18, .inl f_manys)), (m_possible, .inl (E.2.1 1, 1728, .inl f_possible)), (m_caseMany, .inl (E.2.1 1, 4, .inl f_caseMany)), (m_heard, .inl (E.2.1 1, 64, .inl f_heard)), (m_pairs, .inl (E.2.1 1, 576, .inl f_pairs))] (Qi E (fun (rz : Int32) uz => (uz = [(hm, .inr (12, [.ref m_manys, .ref m_reals, .ref m_factsOf, .ref m_possible, .int (nI q_undos), .int (nI q_models), .ref m_tape, .int (nI q_taped), .int q_fault, .int q_wrong, .int q_wrongAt, .int q_spot, .int q_place, .int q_token, .int q_value, .ref m_ends, .ref m_letters, .ref m_actOf, .ref m_whom, .ref m_actMany, .ref m_tokens, .ref m_afters, .ref m_afterOf, .int q_counted, .ref m_pile, .ref m_caseMany, .ref m_happen, .ref m_hasIf, .ref m_becomes, .ref m_goneOf, .ref m_heard, .ref m_pairs, .ref m_heaps, .int q_rounds, .int q_heapMany, .ref m_led, .ref m_newAt, .ref m_knowing, .ref m_firsts, .int (nI q_people), .ref m_secrets, .ref m_tried, .ref m_lanes, .ref m_lengths, .ref m_cells])), (m_manys, .inl (E.2.1 1, 18, .inl f_manys)), (m_possible, .inl (E.2.1 1, 1728, .inl f_possible)), (m_caseMany, .inl (E.2.1 1, 4, .inl f_caseMany)), (m_heard, .inl (E.2.1 1, 64, .inl f_heard)), (m_pairs, .inl (E.2.1 1, 576, .inl f_pairs))] ∧ (BS rz (fun q => decide (q < cb Pq (4 * cN f_manys pa)) && (bt (f_possible (96 * pa + 24 * k + w)) (nth Pq (4 * cN f_manys pa) q / 4) && bt (f_heard (16 * e + 4 * k + i)) (nth Pq (4 * cN f_manys pa) q % 4))))))) 0 0 := by
  refine ct_of rfl rfl ?_
  intro X C hT hin hro
  show WW X 11 E 0 [(0, .ref hm), (1, .int (nI e)), (2, .int (nI pa)), (3, .int (nI k)), (4, .int (nI w)), (5, .int (nI i))] [] [(hm, .inr (12, [.ref m_manys, .ref m_reals, .ref m_factsOf, .ref m_possible, .int (nI q_undos), .int (nI q_models), .ref m_tape, .int (nI q_taped), .int q_fault, .int q_wrong, .int q_wrongAt, .int q_spot, .int q_place, .int q_token, .int q_value, .ref m_ends, .ref m_letters, .ref m_actOf, .ref m_whom, .ref m_actMany, .ref m_tokens, .ref m_afters, .ref m_afterOf, .int q_counted, .ref m_pile, .ref m_caseMany, .ref m_happen, .ref m_hasIf, .ref m_becomes, .ref m_goneOf, .ref m_heard, .ref m_pairs, .ref m_heaps, .int q_rounds, .int q_heapMany, .ref m_led, .ref m_newAt, .ref m_knowing, .ref m_firsts, .int (nI q_people), .ref m_secrets, .ref m_tried, .ref m_lanes, .ref m_lengths, .ref m_cells])), (m_manys, .inl (E.2.1 1, 18, .inl f_manys)), (m_possible, .inl (E.2.1 1, 1728, .inl f_possible)), (m_caseMany, .inl (E.2.1 1, 4, .inl f_caseMany)), (m_heard, .inl (E.2.1 1, 64, .inl f_heard)), (m_pairs, .inl (E.2.1 1, 576, .inl f_pairs))] 0 0
  have hmn0 := (hb_manys 0 (by omega)).2
  have hmnp := (hb_manys pa (by omega)).2
  have hcmp := (hb_caseMany e (by omega)).2
  refine ww_iconst (v := 0) C dX12_both_0 rfl ?_
  refine ww_istore (lv' := [(6, .int 0), (0, .ref hm), (1, .int (nI e)), (2, .int (nI pa)), (3, .int (nI k)), (4, .int (nI w)), (5, .int (nI i))]) C dX12_both_1 rfl rfl ?_
  refine ww_iconst (v := 0) C dX12_both_3 rfl ?_
  refine ww_istore (lv' := [(7, .int 0), (6, .int 0), (0, .ref hm), (1, .int (nI e)), (2, .int (nI pa)), (3, .int (nI k)), (4, .int (nI w)), (5, .int (nI i))]) C dX12_both_4 rfl rfl ?_
  have loop_6 : ∀ (fu : Nat) (i1 : Nat) (ac : Int32), (i1 ≤ cN f_manys pa) → (BXx Pq (fun p => bt (f_possible (96 * pa + 24 * k + w)) (p / 4) && bt (f_heard (16 * e + 4 * k + i)) (p % 4)) (4 * cN f_manys pa) (4 * i1) ac) → cN f_manys pa - i1 < fu → WW X 11 E 6 [(7, .int (nI i1)), (6, .int ac), (0, .ref hm), (1, .int (nI e)), (2, .int (nI pa)), (3, .int (nI k)), (4, .int (nI w)), (5, .int (nI i))] [] [(hm, .inr (12, [.ref m_manys, .ref m_reals, .ref m_factsOf, .ref m_possible, .int (nI q_undos), .int (nI q_models), .ref m_tape, .int (nI q_taped), .int q_fault, .int q_wrong, .int q_wrongAt, .int q_spot, .int q_place, .int q_token, .int q_value, .ref m_ends, .ref m_letters, .ref m_actOf, .ref m_whom, .ref m_actMany, .ref m_tokens, .ref m_afters, .ref m_afterOf, .int q_counted, .ref m_pile, .ref m_caseMany, .ref m_happen, .ref m_hasIf, .ref m_becomes, .ref m_goneOf, .ref m_heard, .ref m_pairs, .ref m_heaps, .int q_rounds, .int q_heapMany, .ref m_led, .ref m_newAt, .ref m_knowing, .ref m_firsts, .int (nI q_people), .ref m_secrets, .ref m_tried, .ref m_lanes, .ref m_lengths, .ref m_cells])), (m_manys, .inl (E.2.1 1, 18, .inl f_manys)), (m_possible, .inl (E.2.1 1, 1728, .inl f_possible)), (m_caseMany, .inl (E.2.1 1, 4, .inl f_caseMany)), (m_heard, .inl (E.2.1 1, 64, .inl f_heard)), (m_pairs, .inl (E.2.1 1, 576, .inl f_pairs))] 0 0 := by
    intro fu
    induction fu with
    | zero => intro i1 ac hi1 hbx hmeas; exact absurd hmeas (Nat.not_lt_zero _)
    | succ fu ih_6 =>
      intro i1 ac hi1 hbx hmeas
      refine ww_iload C dX12_both_6 0 rfl ?_
      refine ww_aload_n C dX12_both_8 2 rfl rfl ?_
      refine ww_get C fg_X12_7 0 rfl rfl dX12_both_9 ?_
      refine ww_iload_n C dX12_both_12 4 rfl rfl ?_
      have hbx_1 := (hb_manys pa (by omega)).2
      refine ww_iald (v := (nI (cN f_manys pa))) C 1 rfl (vp_in_nI (by omega) (by omega)) (ldn (by omega) (hb_manys pa (by omega)).1) dX12_both_13 ?_
      refine ww_icmp_ge (tgt := 136) C dX12_both_14 (by decide) (fun c_2 => ?_) (fun c_2 => ?_)
      · have zc_2 : ((i1 : Nat) : Int) ≥ ((cN f_manys pa : Nat) : Int) := i_le (nI_toInt (n := cN f_manys pa) (by omega)) (nI_toInt (n := i1) (by omega)) c_2
        refine ww_iload C dX12_both_136 1 rfl ?_
        exact ww_iret (u := [(hm, .inr (12, [.ref m_manys, .ref m_reals, .ref m_factsOf, .ref m_possible, .int (nI q_undos), .int (nI q_models), .ref m_tape, .int (nI q_taped), .int q_fault, .int q_wrong, .int q_wrongAt, .int q_spot, .int q_place, .int q_token, .int q_value, .ref m_ends, .ref m_letters, .ref m_actOf, .ref m_whom, .ref m_actMany, .ref m_tokens, .ref m_afters, .ref m_afterOf, .int q_counted, .ref m_pile, .ref m_caseMany, .ref m_happen, .ref m_hasIf, .ref m_becomes, .ref m_goneOf, .ref m_heard, .ref m_pairs, .ref m_heaps, .int q_rounds, .int q_heapMany, .ref m_led, .ref m_newAt, .ref m_knowing, .ref m_firsts, .int (nI q_people), .ref m_secrets, .ref m_tried, .ref m_lanes, .ref m_lengths, .ref m_cells])), (m_manys, .inl (E.2.1 1, 18, .inl f_manys)), (m_possible, .inl (E.2.1 1, 1728, .inl f_possible)), (m_caseMany, .inl (E.2.1 1, 4, .inl f_caseMany)), (m_heard, .inl (E.2.1 1, 64, .inl f_heard)), (m_pairs, .inl (E.2.1 1, 576, .inl f_pairs))]) C hT [0, 1, 2, 3, 4, 5] rfl rfl rfl rfl dX12_both_138 (⟨rfl, (by have h9 : i1 = cN f_manys pa := (by omega); rw [h9] at hbx; exact hbx)⟩)
      · have zc_2 : ((i1 : Nat) : Int) < ((cN f_manys pa : Nat) : Int) := i_nle (nI_toInt (n := cN f_manys pa) (by omega)) (nI_toInt (n := i1) (by omega)) c_2
        refine ww_iconst (v := 0) C dX12_both_17 rfl ?_
        refine ww_istore (lv' := [(8, .int 0), (7, .int (nI i1)), (6, .int ac), (0, .ref hm), (1, .int (nI e)), (2, .int (nI pa)), (3, .int (nI k)), (4, .int (nI w)), (5, .int (nI i))]) C dX12_both_18 rfl rfl ?_
        have loop_20 : ∀ (fu : Nat) (i2 : Nat) (ac2 : Int32), (i2 ≤ cN f_caseMany e) → (BXx Pq (fun p => bt (f_possible (96 * pa + 24 * k + w)) (p / 4) && bt (f_heard (16 * e + 4 * k + i)) (p % 4)) (4 * cN f_manys pa) (4 * i1 + i2) ac2) → cN f_caseMany e - i2 < fu → WW X 11 E 20 [(8, .int (nI i2)), (7, .int (nI i1)), (6, .int ac2), (0, .ref hm), (1, .int (nI e)), (2, .int (nI pa)), (3, .int (nI k)), (4, .int (nI w)), (5, .int (nI i))] [] [(hm, .inr (12, [.ref m_manys, .ref m_reals, .ref m_factsOf, .ref m_possible, .int (nI q_undos), .int (nI q_models), .ref m_tape, .int (nI q_taped), .int q_fault, .int q_wrong, .int q_wrongAt, .int q_spot, .int q_place, .int q_token, .int q_value, .ref m_ends, .ref m_letters, .ref m_actOf, .ref m_whom, .ref m_actMany, .ref m_tokens, .ref m_afters, .ref m_afterOf, .int q_counted, .ref m_pile, .ref m_caseMany, .ref m_happen, .ref m_hasIf, .ref m_becomes, .ref m_goneOf, .ref m_heard, .ref m_pairs, .ref m_heaps, .int q_rounds, .int q_heapMany, .ref m_led, .ref m_newAt, .ref m_knowing, .ref m_firsts, .int (nI q_people), .ref m_secrets, .ref m_tried, .ref m_lanes, .ref m_lengths, .ref m_cells])), (m_manys, .inl (E.2.1 1, 18, .inl f_manys)), (m_possible, .inl (E.2.1 1, 1728, .inl f_possible)), (m_caseMany, .inl (E.2.1 1, 4, .inl f_caseMany)), (m_heard, .inl (E.2.1 1, 64, .inl f_heard)), (m_pairs, .inl (E.2.1 1, 576, .inl f_pairs))] 0 0 := by
          intro fu
          induction fu with
          | zero => intro i2 ac2 hi2 hbx2 hmeas; exact absurd hmeas (Nat.not_lt_zero _)
          | succ fu ih_20 =>
            intro i2 ac2 hi2 hbx2 hmeas
            refine ww_iload C dX12_both_20 0 rfl ?_
            refine ww_aload_n C dX12_both_22 3 rfl rfl ?_
            refine ww_get C fg_X12_52 0 rfl rfl dX12_both_23 ?_
            refine ww_iload_n C dX12_both_26 4 rfl rfl ?_
            have hbx_3 := (hb_caseMany e (by omega)).2
            refine ww_iald (v := (nI (cN f_caseMany e))) C 3 rfl (vp_in_nI (by omega) (by omega)) (ldn (by omega) (hb_caseMany e (by omega)).1) dX12_both_27 ?_
            refine ww_icmp_ge (tgt := 130) C dX12_both_28 (by decide) (fun c_4 => ?_) (fun c_4 => ?_)
            · have zc_4 : ((i2 : Nat) : Int) ≥ ((cN f_caseMany e : Nat) : Int) := i_le (nI_toInt (n := cN f_caseMany e) (by omega)) (nI_toInt (n := i2) (by omega)) c_4
              refine ww_iinc (j := 1) (v := (nI (i1 + 1))) (lv' := [(7, .int (nI (i1 + 1))), (8, .int (nI i2)), (6, .int ac2), (0, .ref hm), (1, .int (nI e)), (2, .int (nI pa)), (3, .int (nI k)), (4, .int (nI w)), (5, .int (nI i))]) C dX12_both_130 rfl (nI_add i1 1) rfl rfl ?_
              refine ww_goto (tgt := 6) C dX12_both_133 (by decide) ?_
              exact ww_lv [0, 2, 3, 4, 5, 6, 7, 8] rfl (ww_sub [0, 1, 2, 3, 4, 5] rfl rfl (ih_6 (i1 + 1) ac2 (by omega) (BXx.fs (i := 4 * i1 + i2) hbx2 (by omega) (fun p a b => by rw [show p = 4 * i1 + (p - 4 * i1) by omega]; exact hP4 _ _ (by omega) (by omega) (by omega))) (by omega)))
            · have zc_4 : ((i2 : Nat) : Int) < ((cN f_caseMany e : Nat) : Int) := i_nle (nI_toInt (n := cN f_caseMany e) (by omega)) (nI_toInt (n := i2) (by omega)) c_4
              refine ww_aload_n C dX12_both_31 3 rfl rfl ?_
              refine ww_iload_n C dX12_both_32 5 rfl rfl ?_
              refine ww_iload_n C dX12_both_33 6 rfl rfl ?_
              refine ww_iload C dX12_both_34 7 rfl ?_
              refine ww_ci (wr := [(m_manys, .inl (E.2.1 1, 18, .inl f_manys)), (m_caseMany, .inl (E.2.1 1, 4, .inl f_caseMany)), (m_heard, .inl (E.2.1 1, 64, .inl f_heard)), (m_pairs, .inl (E.2.1 1, 576, .inl f_pairs))]) (k' := 0) (n' := 0) C (run_V (As := [.int (nI pa), .int (nI k), .int (nI w)]) (rest := []) C (r_seen X.2.1 E ro hm pa k w m_manys m_reals m_factsOf m_possible q_undos q_models m_tape q_taped q_fault q_wrong q_wrongAt q_spot q_place q_token q_value m_ends m_letters m_actOf m_whom m_actMany m_tokens m_afters m_afterOf q_counted m_pile m_caseMany m_happen m_hasIf m_becomes m_goneOf m_heard m_pairs m_heaps q_rounds q_heapMany m_led m_newAt m_knowing m_firsts q_people m_secrets m_tried m_lanes m_lengths m_cells f_possible (by omega) (by omega) (by omega)) mi_X12_seen wl_X12_135 rfl 0 12 rfl rfl rfl rfl rfl dX12_both_36) (roK hro) [0, 2] [1, 3, 4, 5] rfl rfl rfl rfl (fun r_5 uz hw => ?_)
              refine an1 hw ?_
              clear hw
              intro he_6 hw
              have he_7 := hw
              clear hw
              have he_6 := he_6.symm
              subst he_6
              subst he_7
              refine ww_eq (ws' := [(m_manys, .inl (E.2.1 1, 18, .inl f_manys)), (m_caseMany, .inl (E.2.1 1, 4, .inl f_caseMany)), (m_heard, .inl (E.2.1 1, 64, .inl f_heard)), (m_pairs, .inl (E.2.1 1, 576, .inl f_pairs)), (hm, .inr (12, [.ref m_manys, .ref m_reals, .ref m_factsOf, .ref m_possible, .int (nI q_undos), .int (nI q_models), .ref m_tape, .int (nI q_taped), .int q_fault, .int q_wrong, .int q_wrongAt, .int q_spot, .int q_place, .int q_token, .int q_value, .ref m_ends, .ref m_letters, .ref m_actOf, .ref m_whom, .ref m_actMany, .ref m_tokens, .ref m_afters, .ref m_afterOf, .int q_counted, .ref m_pile, .ref m_caseMany, .ref m_happen, .ref m_hasIf, .ref m_becomes, .ref m_goneOf, .ref m_heard, .ref m_pairs, .ref m_heaps, .int q_rounds, .int q_heapMany, .ref m_led, .ref m_newAt, .ref m_knowing, .ref m_firsts, .int (nI q_people), .ref m_secrets, .ref m_tried, .ref m_lanes, .ref m_lengths, .ref m_cells])), (m_possible, .inl (E.2.1 1, 1728, .inl f_possible))]) ?_ rfl rfl rfl
              refine ww_iload C dX12_both_39 1 rfl ?_
              obtain ⟨x_8, ex_8⟩ : ∃ z : Int32, (f_possible (96 * pa + 24 * k + w)) >>> ((nI i1) &&& 31) = z := ⟨_, rfl⟩
              refine ww_ishr (v := x_8) C dX12_both_41 ex_8 ?_
              refine ww_iconst (v := 1) C dX12_both_42 rfl ?_
              obtain ⟨j_9, hj_9, ej_9⟩ := pk_andE x_8 (m := 1) 1 rfl
              refine ww_iand (v := (nI j_9)) C dX12_both_43 ej_9 ?_
              refine ww_iconst (v := 1) C dX12_both_44 rfl ?_
              refine ww_icmp_ne (tgt := 77) C dX12_both_45 (by decide) (fun c_10 => ?_) (fun c_10 => ?_)
              · have zc_10 : ((j_9 : Nat) : Int) ≠ 1 := i_ne (nI_toInt (n := j_9) (by omega)) rfl c_10
                refine ww_iconst (v := 0) C dX12_both_77 rfl ?_
                refine ww_istore (lv' := [(9, .int 0), (8, .int (nI i2)), (7, .int (nI i1)), (6, .int ac2), (0, .ref hm), (1, .int (nI e)), (2, .int (nI pa)), (3, .int (nI k)), (4, .int (nI w)), (5, .int (nI i))]) C dX12_both_78 rfl rfl ?_
                refine ww_aload_n C dX12_both_80 4 rfl rfl ?_
                refine ww_get C fg_X12_71 4 rfl rfl dX12_both_81 ?_
                refine ww_bipush (v := 96) C dX12_both_84 rfl ?_
                refine ww_iload_n C dX12_both_86 6 rfl rfl ?_
                refine ww_imul (v := (nI (96 * pa))) C dX12_both_87 (pk_mul 96 pa) ?_
                refine ww_iconst (v := 4) C dX12_both_88 rfl ?_
                refine ww_iload C dX12_both_89 2 rfl ?_
                refine ww_imul (v := (nI (4 * i1))) C dX12_both_91 (pk_mul 4 i1) ?_
                refine ww_iadd (v := (nI ((96 * pa) + (4 * i1)))) C dX12_both_92 (nI_add (96 * pa) (4 * i1)) ?_
                refine ww_iload C dX12_both_93 1 rfl ?_
                refine ww_iadd (v := (nI (((96 * pa) + (4 * i1)) + i2))) C dX12_both_95 (nI_add ((96 * pa) + (4 * i1)) i2) ?_
                rcases PRF.or (w := i1) (i := i2) hPF (by omega) (by omega) with ⟨hP_11, hx_12⟩ | ⟨hP_11, hx_12⟩
                · refine ww_iald (v := (-4)) C 3 rfl (vp_in_nI (by omega) (by omega)) (ldn (by omega) hx_12) dX12_both_96 ?_
                  refine ww_istore (lv' := [(10, .int (-4)), (9, .int 0), (8, .int (nI i2)), (7, .int (nI i1)), (6, .int ac2), (0, .ref hm), (1, .int (nI e)), (2, .int (nI pa)), (3, .int (nI k)), (4, .int (nI w)), (5, .int (nI i))]) C dX12_both_97 rfl rfl ?_
                  refine ww_iload C dX12_both_99 4 rfl ?_
                  refine ww_iload C dX12_both_101 1 rfl ?_
                  refine ww_if_eq_t (tgt := 120) C dX12_both_103 (by decide) (rfl) ?_
                  refine ww_iconst (v := 0) C dX12_both_120 rfl ?_
                  obtain ⟨x_13, ex_13⟩ : ∃ z : Int32, ac2 ||| (0 : Int32) = z := ⟨_, rfl⟩
                  refine ww_ior (v := x_13) C dX12_both_121 ex_13 ?_
                  refine ww_istore (lv' := [(6, .int x_13), (10, .int (-4)), (9, .int 0), (8, .int (nI i2)), (7, .int (nI i1)), (0, .ref hm), (1, .int (nI e)), (2, .int (nI pa)), (3, .int (nI k)), (4, .int (nI w)), (5, .int (nI i))]) C dX12_both_122 rfl rfl ?_
                  refine ww_iinc (j := 3) (v := (nI (i2 + 1))) (lv' := [(8, .int (nI (i2 + 1))), (6, .int x_13), (10, .int (-4)), (9, .int 0), (7, .int (nI i1)), (0, .ref hm), (1, .int (nI e)), (2, .int (nI pa)), (3, .int (nI k)), (4, .int (nI w)), (5, .int (nI i))]) C dX12_both_124 rfl (nI_add i2 1) rfl rfl ?_
                  refine ww_goto (tgt := 20) C dX12_both_127 (by decide) ?_
                  exact ww_lv [0, 4, 1, 5, 6, 7, 8, 9, 10] rfl (ww_sub [4, 0, 5, 1, 2, 3] rfl rfl (ih_20 (i2 + 1) x_13 (by omega) (BXx.f (i := 4 * i1 + i2) hbx2 hP_11 (by assumption)) (by omega)))
                · have hchx_12 := Nat.le_trans (cb_mono Pq (show 4 * i1 + i2 ≤ _ by omega)) hC
                  have hlhx_12 := cb_lt (f := Pq) (show 4 * i1 + i2 < 4 * cN f_manys pa by omega) hP_11
                  refine ww_iald (v := (nI (cb Pq (4 * i1 + i2)))) C 3 rfl (vp_in_nI (by omega) (by omega)) (ldn (by omega) hx_12) dX12_both_96 ?_
                  refine ww_istore (lv' := [(10, .int (nI (cb Pq (4 * i1 + i2)))), (9, .int 0), (8, .int (nI i2)), (7, .int (nI i1)), (6, .int ac2), (0, .ref hm), (1, .int (nI e)), (2, .int (nI pa)), (3, .int (nI k)), (4, .int (nI w)), (5, .int (nI i))]) C dX12_both_97 rfl rfl ?_
                  refine ww_iload C dX12_both_99 4 rfl ?_
                  refine ww_iload C dX12_both_101 1 rfl ?_
                  refine ww_if_eq_t (tgt := 120) C dX12_both_103 (by decide) (rfl) ?_
                  refine ww_iconst (v := 0) C dX12_both_120 rfl ?_
                  obtain ⟨x_14, ex_14⟩ : ∃ z : Int32, ac2 ||| (0 : Int32) = z := ⟨_, rfl⟩
                  refine ww_ior (v := x_14) C dX12_both_121 ex_14 ?_
                  refine ww_istore (lv' := [(6, .int x_14), (10, .int (nI (cb Pq (4 * i1 + i2)))), (9, .int 0), (8, .int (nI i2)), (7, .int (nI i1)), (0, .ref hm), (1, .int (nI e)), (2, .int (nI pa)), (3, .int (nI k)), (4, .int (nI w)), (5, .int (nI i))]) C dX12_both_122 rfl rfl ?_
                  refine ww_iinc (j := 3) (v := (nI (i2 + 1))) (lv' := [(8, .int (nI (i2 + 1))), (6, .int x_14), (10, .int (nI (cb Pq (4 * i1 + i2)))), (9, .int 0), (7, .int (nI i1)), (0, .ref hm), (1, .int (nI e)), (2, .int (nI pa)), (3, .int (nI k)), (4, .int (nI w)), (5, .int (nI i))]) C dX12_both_124 rfl (nI_add i2 1) rfl rfl ?_
                  refine ww_goto (tgt := 20) C dX12_both_127 (by decide) ?_
                  exact ww_lv [0, 4, 1, 5, 6, 7, 8, 9, 10] rfl (ww_sub [4, 0, 5, 1, 2, 3] rfl rfl (ih_20 (i2 + 1) x_14 (by omega) (by first | exact BXx.t (i := 4 * i1 + i2) hbx2 (by omega) (by omega) hP_11 (rb_1 (by omega) (hasb_1 (b := f_possible (96 * pa + 24 * k + w)) (p := i1) (by omega) (by assumption) (by assumption) (by omega)) (hasb_1 (b := f_heard (16 * e + 4 * k + i)) (p := i2) (by omega) (by first | assumption | (rw [(by assumption : f_heard _ = _)]; assumption)) (by assumption) (by omega))) rfl (by assumption) (by assumption) | exact BXx.n (i := 4 * i1 + i2) hbx2 (by omega) hP_11 (rb_a (by omega) (hasb_0 (b := f_possible (96 * pa + 24 * k + w)) (p := i1) (by omega) (by assumption) (by assumption) (by omega))) (by assumption) | exact BXx.n (i := 4 * i1 + i2) hbx2 (by omega) hP_11 (rb_b (by omega) (by omega)) (by assumption)) (by omega)))
              · have zc_10 : ((j_9 : Nat) : Int) = 1 := i_eq (nI_toInt (n := j_9) (by omega)) rfl c_10
                refine ww_aload_n C dX12_both_48 3 rfl rfl ?_
                refine ww_get C fg_X12_68 4 rfl rfl dX12_both_49 ?_
                refine ww_bipush (v := 16) C dX12_both_52 rfl ?_
                refine ww_iload_n C dX12_both_54 4 rfl rfl ?_
                refine ww_imul (v := (nI (16 * e))) C dX12_both_55 (pk_mul 16 e) ?_
                refine ww_iconst (v := 4) C dX12_both_56 rfl ?_
                refine ww_iload_n C dX12_both_57 6 rfl rfl ?_
                refine ww_imul (v := (nI (4 * k))) C dX12_both_58 (pk_mul 4 k) ?_
                refine ww_iadd (v := (nI ((16 * e) + (4 * k)))) C dX12_both_59 (nI_add (16 * e) (4 * k)) ?_
                refine ww_iload C dX12_both_60 8 rfl ?_
                refine ww_iadd (v := (nI (((16 * e) + (4 * k)) + i))) C dX12_both_62 (nI_add ((16 * e) + (4 * k)) i) ?_
                obtain ⟨x_15, ex_15⟩ : ∃ z : Int32, f_heard (((16 * e) + (4 * k)) + i) = z := ⟨_, rfl⟩
                refine ww_iald (v := x_15) C 2 rfl (vp_in_nI (by omega) (by omega)) (ldn (by omega) ex_15) dX12_both_63 ?_
                refine ww_iload C dX12_both_64 0 rfl ?_
                obtain ⟨x_16, ex_16⟩ : ∃ z : Int32, x_15 >>> ((nI i2) &&& 31) = z := ⟨_, rfl⟩
                refine ww_ishr (v := x_16) C dX12_both_66 ex_16 ?_
                refine ww_iconst (v := 1) C dX12_both_67 rfl ?_
                obtain ⟨j_17, hj_17, ej_17⟩ := pk_andE x_16 (m := 1) 1 rfl
                refine ww_iand (v := (nI j_17)) C dX12_both_68 ej_17 ?_
                refine ww_iconst (v := 1) C dX12_both_69 rfl ?_
                refine ww_icmp_ne (tgt := 77) C dX12_both_70 (by decide) (fun c_18 => ?_) (fun c_18 => ?_)
                · have zc_18 : ((j_17 : Nat) : Int) ≠ 1 := i_ne (nI_toInt (n := j_17) (by omega)) rfl c_18
                  refine ww_iconst (v := 0) C dX12_both_77 rfl ?_
                  refine ww_istore (lv' := [(9, .int 0), (8, .int (nI i2)), (7, .int (nI i1)), (6, .int ac2), (0, .ref hm), (1, .int (nI e)), (2, .int (nI pa)), (3, .int (nI k)), (4, .int (nI w)), (5, .int (nI i))]) C dX12_both_78 rfl rfl ?_
                  refine ww_aload_n C dX12_both_80 4 rfl rfl ?_
                  refine ww_get C fg_X12_71 4 rfl rfl dX12_both_81 ?_
                  refine ww_bipush (v := 96) C dX12_both_84 rfl ?_
                  refine ww_iload_n C dX12_both_86 6 rfl rfl ?_
                  refine ww_imul (v := (nI (96 * pa))) C dX12_both_87 (pk_mul 96 pa) ?_
                  refine ww_iconst (v := 4) C dX12_both_88 rfl ?_
                  refine ww_iload C dX12_both_89 2 rfl ?_
                  refine ww_imul (v := (nI (4 * i1))) C dX12_both_91 (pk_mul 4 i1) ?_
                  refine ww_iadd (v := (nI ((96 * pa) + (4 * i1)))) C dX12_both_92 (nI_add (96 * pa) (4 * i1)) ?_
                  refine ww_iload C dX12_both_93 1 rfl ?_
                  refine ww_iadd (v := (nI (((96 * pa) + (4 * i1)) + i2))) C dX12_both_95 (nI_add ((96 * pa) + (4 * i1)) i2) ?_
                  rcases PRF.or (w := i1) (i := i2) hPF (by omega) (by omega) with ⟨hP_19, hx_20⟩ | ⟨hP_19, hx_20⟩
                  · refine ww_iald (v := (-4)) C 3 rfl (vp_in_nI (by omega) (by omega)) (ldn (by omega) hx_20) dX12_both_96 ?_
                    refine ww_istore (lv' := [(10, .int (-4)), (9, .int 0), (8, .int (nI i2)), (7, .int (nI i1)), (6, .int ac2), (0, .ref hm), (1, .int (nI e)), (2, .int (nI pa)), (3, .int (nI k)), (4, .int (nI w)), (5, .int (nI i))]) C dX12_both_97 rfl rfl ?_
                    refine ww_iload C dX12_both_99 4 rfl ?_
                    refine ww_iload C dX12_both_101 1 rfl ?_
                    refine ww_if_eq_t (tgt := 120) C dX12_both_103 (by decide) (rfl) ?_
                    refine ww_iconst (v := 0) C dX12_both_120 rfl ?_
                    obtain ⟨x_21, ex_21⟩ : ∃ z : Int32, ac2 ||| (0 : Int32) = z := ⟨_, rfl⟩
                    refine ww_ior (v := x_21) C dX12_both_121 ex_21 ?_
                    refine ww_istore (lv' := [(6, .int x_21), (10, .int (-4)), (9, .int 0), (8, .int (nI i2)), (7, .int (nI i1)), (0, .ref hm), (1, .int (nI e)), (2, .int (nI pa)), (3, .int (nI k)), (4, .int (nI w)), (5, .int (nI i))]) C dX12_both_122 rfl rfl ?_
                    refine ww_iinc (j := 3) (v := (nI (i2 + 1))) (lv' := [(8, .int (nI (i2 + 1))), (6, .int x_21), (10, .int (-4)), (9, .int 0), (7, .int (nI i1)), (0, .ref hm), (1, .int (nI e)), (2, .int (nI pa)), (3, .int (nI k)), (4, .int (nI w)), (5, .int (nI i))]) C dX12_both_124 rfl (nI_add i2 1) rfl rfl ?_
                    refine ww_goto (tgt := 20) C dX12_both_127 (by decide) ?_
                    exact ww_lv [0, 4, 1, 5, 6, 7, 8, 9, 10] rfl (ww_sub [4, 0, 5, 1, 2, 3] rfl rfl (ih_20 (i2 + 1) x_21 (by omega) (BXx.f (i := 4 * i1 + i2) hbx2 hP_19 (by assumption)) (by omega)))
                  · have hchx_20 := Nat.le_trans (cb_mono Pq (show 4 * i1 + i2 ≤ _ by omega)) hC
                    have hlhx_20 := cb_lt (f := Pq) (show 4 * i1 + i2 < 4 * cN f_manys pa by omega) hP_19
                    refine ww_iald (v := (nI (cb Pq (4 * i1 + i2)))) C 3 rfl (vp_in_nI (by omega) (by omega)) (ldn (by omega) hx_20) dX12_both_96 ?_
                    refine ww_istore (lv' := [(10, .int (nI (cb Pq (4 * i1 + i2)))), (9, .int 0), (8, .int (nI i2)), (7, .int (nI i1)), (6, .int ac2), (0, .ref hm), (1, .int (nI e)), (2, .int (nI pa)), (3, .int (nI k)), (4, .int (nI w)), (5, .int (nI i))]) C dX12_both_97 rfl rfl ?_
                    refine ww_iload C dX12_both_99 4 rfl ?_
                    refine ww_iload C dX12_both_101 1 rfl ?_
                    refine ww_if_eq_t (tgt := 120) C dX12_both_103 (by decide) (rfl) ?_
                    refine ww_iconst (v := 0) C dX12_both_120 rfl ?_
                    obtain ⟨x_22, ex_22⟩ : ∃ z : Int32, ac2 ||| (0 : Int32) = z := ⟨_, rfl⟩
                    refine ww_ior (v := x_22) C dX12_both_121 ex_22 ?_
                    refine ww_istore (lv' := [(6, .int x_22), (10, .int (nI (cb Pq (4 * i1 + i2)))), (9, .int 0), (8, .int (nI i2)), (7, .int (nI i1)), (0, .ref hm), (1, .int (nI e)), (2, .int (nI pa)), (3, .int (nI k)), (4, .int (nI w)), (5, .int (nI i))]) C dX12_both_122 rfl rfl ?_
                    refine ww_iinc (j := 3) (v := (nI (i2 + 1))) (lv' := [(8, .int (nI (i2 + 1))), (6, .int x_22), (10, .int (nI (cb Pq (4 * i1 + i2)))), (9, .int 0), (7, .int (nI i1)), (0, .ref hm), (1, .int (nI e)), (2, .int (nI pa)), (3, .int (nI k)), (4, .int (nI w)), (5, .int (nI i))]) C dX12_both_124 rfl (nI_add i2 1) rfl rfl ?_
                    refine ww_goto (tgt := 20) C dX12_both_127 (by decide) ?_
                    exact ww_lv [0, 4, 1, 5, 6, 7, 8, 9, 10] rfl (ww_sub [4, 0, 5, 1, 2, 3] rfl rfl (ih_20 (i2 + 1) x_22 (by omega) (by first | exact BXx.t (i := 4 * i1 + i2) hbx2 (by omega) (by omega) hP_19 (rb_1 (by omega) (hasb_1 (b := f_possible (96 * pa + 24 * k + w)) (p := i1) (by omega) (by assumption) (by assumption) (by omega)) (by rw [ex_15]; exact hasb_1 (p := i2) (by omega) (by assumption) (by assumption) (by omega))) rfl (by assumption) (by assumption) | exact BXx.n (i := 4 * i1 + i2) hbx2 (by omega) hP_19 (rb_a (by omega) (hasb_0 (b := f_possible (96 * pa + 24 * k + w)) (p := i1) (by omega) (by assumption) (by assumption) (by omega))) (by assumption) | exact BXx.n (i := 4 * i1 + i2) hbx2 (by omega) hP_19 (rb_b (by omega) (by rw [ex_15]; exact hasb_0 (p := i2) (by omega) (by assumption) (by assumption) (by omega))) (by assumption)) (by omega)))
                · have zc_18 : ((j_17 : Nat) : Int) = 1 := i_eq (nI_toInt (n := j_17) (by omega)) rfl c_18
                  refine ww_iconst (v := 1) C dX12_both_73 rfl ?_
                  refine ww_goto (tgt := 78) C dX12_both_74 (by decide) ?_
                  refine ww_istore (lv' := [(9, .int 1), (8, .int (nI i2)), (7, .int (nI i1)), (6, .int ac2), (0, .ref hm), (1, .int (nI e)), (2, .int (nI pa)), (3, .int (nI k)), (4, .int (nI w)), (5, .int (nI i))]) C dX12_both_78 rfl rfl ?_
                  refine ww_aload_n C dX12_both_80 4 rfl rfl ?_
                  refine ww_get C fg_X12_71 4 rfl rfl dX12_both_81 ?_
                  refine ww_bipush (v := 96) C dX12_both_84 rfl ?_
                  refine ww_iload_n C dX12_both_86 6 rfl rfl ?_
                  refine ww_imul (v := (nI (96 * pa))) C dX12_both_87 (pk_mul 96 pa) ?_
                  refine ww_iconst (v := 4) C dX12_both_88 rfl ?_
                  refine ww_iload C dX12_both_89 2 rfl ?_
                  refine ww_imul (v := (nI (4 * i1))) C dX12_both_91 (pk_mul 4 i1) ?_
                  refine ww_iadd (v := (nI ((96 * pa) + (4 * i1)))) C dX12_both_92 (nI_add (96 * pa) (4 * i1)) ?_
                  refine ww_iload C dX12_both_93 1 rfl ?_
                  refine ww_iadd (v := (nI (((96 * pa) + (4 * i1)) + i2))) C dX12_both_95 (nI_add ((96 * pa) + (4 * i1)) i2) ?_
                  rcases PRF.or (w := i1) (i := i2) hPF (by omega) (by omega) with ⟨hP_23, hx_24⟩ | ⟨hP_23, hx_24⟩
                  · refine ww_iald (v := (-4)) C 3 rfl (vp_in_nI (by omega) (by omega)) (ldn (by omega) hx_24) dX12_both_96 ?_
                    refine ww_istore (lv' := [(10, .int (-4)), (9, .int 1), (8, .int (nI i2)), (7, .int (nI i1)), (6, .int ac2), (0, .ref hm), (1, .int (nI e)), (2, .int (nI pa)), (3, .int (nI k)), (4, .int (nI w)), (5, .int (nI i))]) C dX12_both_97 rfl rfl ?_
                    refine ww_iload C dX12_both_99 4 rfl ?_
                    refine ww_iload C dX12_both_101 1 rfl ?_
                    refine ww_if_eq_f (tgt := 120) C dX12_both_103 (by decide) (by decide) ?_
                    refine ww_iload C dX12_both_106 0 rfl ?_
                    refine ww_bipush (v := (-4)) C dX12_both_108 rfl ?_
                    refine ww_icmp_eq_t (tgt := 120) C dX12_both_110 (by decide) (rfl) ?_
                    refine ww_iconst (v := 0) C dX12_both_120 rfl ?_
                    obtain ⟨x_25, ex_25⟩ : ∃ z : Int32, ac2 ||| (0 : Int32) = z := ⟨_, rfl⟩
                    refine ww_ior (v := x_25) C dX12_both_121 ex_25 ?_
                    refine ww_istore (lv' := [(6, .int x_25), (10, .int (-4)), (9, .int 1), (8, .int (nI i2)), (7, .int (nI i1)), (0, .ref hm), (1, .int (nI e)), (2, .int (nI pa)), (3, .int (nI k)), (4, .int (nI w)), (5, .int (nI i))]) C dX12_both_122 rfl rfl ?_
                    refine ww_iinc (j := 3) (v := (nI (i2 + 1))) (lv' := [(8, .int (nI (i2 + 1))), (6, .int x_25), (10, .int (-4)), (9, .int 1), (7, .int (nI i1)), (0, .ref hm), (1, .int (nI e)), (2, .int (nI pa)), (3, .int (nI k)), (4, .int (nI w)), (5, .int (nI i))]) C dX12_both_124 rfl (nI_add i2 1) rfl rfl ?_
                    refine ww_goto (tgt := 20) C dX12_both_127 (by decide) ?_
                    exact ww_lv [0, 4, 1, 5, 6, 7, 8, 9, 10] rfl (ww_sub [4, 0, 5, 1, 2, 3] rfl rfl (ih_20 (i2 + 1) x_25 (by omega) (BXx.f (i := 4 * i1 + i2) hbx2 hP_23 (by assumption)) (by omega)))
                  · have hchx_24 := Nat.le_trans (cb_mono Pq (show 4 * i1 + i2 ≤ _ by omega)) hC
                    have hlhx_24 := cb_lt (f := Pq) (show 4 * i1 + i2 < 4 * cN f_manys pa by omega) hP_23
                    refine ww_iald (v := (nI (cb Pq (4 * i1 + i2)))) C 3 rfl (vp_in_nI (by omega) (by omega)) (ldn (by omega) hx_24) dX12_both_96 ?_
                    refine ww_istore (lv' := [(10, .int (nI (cb Pq (4 * i1 + i2)))), (9, .int 1), (8, .int (nI i2)), (7, .int (nI i1)), (6, .int ac2), (0, .ref hm), (1, .int (nI e)), (2, .int (nI pa)), (3, .int (nI k)), (4, .int (nI w)), (5, .int (nI i))]) C dX12_both_97 rfl rfl ?_
                    refine ww_iload C dX12_both_99 4 rfl ?_
                    refine ww_iload C dX12_both_101 1 rfl ?_
                    refine ww_if_eq_f (tgt := 120) C dX12_both_103 (by decide) (by decide) ?_
                    refine ww_iload C dX12_both_106 0 rfl ?_
                    refine ww_bipush (v := (-4)) C dX12_both_108 rfl ?_
                    refine ww_icmp_eq (tgt := 120) C dX12_both_110 (by decide) (fun c_26 => ?_) (fun c_26 => ?_)
                    · have zc_26 : ((cb Pq (4 * i1 + i2) : Nat) : Int) = (-4) := i_eq (nI_toInt (n := cb Pq (4 * i1 + i2)) (by omega)) rfl c_26
                      omega
                    · have zc_26 : ((cb Pq (4 * i1 + i2) : Nat) : Int) ≠ (-4) := i_ne (nI_toInt (n := cb Pq (4 * i1 + i2)) (by omega)) rfl c_26
                      refine ww_iconst (v := 1) C dX12_both_113 rfl ?_
                      refine ww_iload C dX12_both_114 0 rfl ?_
                      obtain ⟨x_27, ex_27⟩ : ∃ z : Int32, (1 : Int32) <<< ((nI (cb Pq (4 * i1 + i2))) &&& 31) = z := ⟨_, rfl⟩
                      refine ww_ishl (v := x_27) C dX12_both_116 ex_27 ?_
                      refine ww_goto (tgt := 121) C dX12_both_117 (by decide) ?_
                      obtain ⟨x_28, ex_28⟩ : ∃ z : Int32, ac2 ||| x_27 = z := ⟨_, rfl⟩
                      refine ww_ior (v := x_28) C dX12_both_121 ex_28 ?_
                      refine ww_istore (lv' := [(6, .int x_28), (10, .int (nI (cb Pq (4 * i1 + i2)))), (9, .int 1), (8, .int (nI i2)), (7, .int (nI i1)), (0, .ref hm), (1, .int (nI e)), (2, .int (nI pa)), (3, .int (nI k)), (4, .int (nI w)), (5, .int (nI i))]) C dX12_both_122 rfl rfl ?_
                      refine ww_iinc (j := 3) (v := (nI (i2 + 1))) (lv' := [(8, .int (nI (i2 + 1))), (6, .int x_28), (10, .int (nI (cb Pq (4 * i1 + i2)))), (9, .int 1), (7, .int (nI i1)), (0, .ref hm), (1, .int (nI e)), (2, .int (nI pa)), (3, .int (nI k)), (4, .int (nI w)), (5, .int (nI i))]) C dX12_both_124 rfl (nI_add i2 1) rfl rfl ?_
                      refine ww_goto (tgt := 20) C dX12_both_127 (by decide) ?_
                      exact ww_lv [0, 4, 1, 5, 6, 7, 8, 9, 10] rfl (ww_sub [4, 0, 5, 1, 2, 3] rfl rfl (ih_20 (i2 + 1) x_28 (by omega) (by first | exact BXx.t (i := 4 * i1 + i2) hbx2 (by omega) (by omega) hP_23 (rb_1 (by omega) (hasb_1 (b := f_possible (96 * pa + 24 * k + w)) (p := i1) (by omega) (by assumption) (by assumption) (by omega)) (by rw [ex_15]; exact hasb_1 (p := i2) (by omega) (by assumption) (by assumption) (by omega))) rfl (by assumption) (by assumption) | exact BXx.n (i := 4 * i1 + i2) hbx2 (by omega) hP_23 (rb_a (by omega) (hasb_0 (b := f_possible (96 * pa + 24 * k + w)) (p := i1) (by omega) (by assumption) (by assumption) (by omega))) (by assumption) | exact BXx.n (i := 4 * i1 + i2) hbx2 (by omega) hP_23 (rb_b (by omega) (by rw [ex_15]; exact hasb_0 (p := i2) (by omega) (by assumption) (by assumption) (by omega))) (by assumption)) (by omega)))
        exact ww_lv [0, 1, 2, 3, 4, 5, 6, 7, 8] rfl (ww_sub [0, 1, 2, 3, 4, 5] rfl rfl (loop_20 _ 0 ac (by omega) hbx (Nat.lt_succ_self _)))
  exact ww_lv [0, 1, 2, 3, 4, 5, 6, 7] rfl (ww_sub [0, 1, 2, 3, 4, 5] rfl rfl (loop_6 _ 0 0 (by omega) BXx.nil (Nat.lt_succ_self _)))
theorem dX12_broughtBack_0 : decode cX12_broughtBack 0 = .ok (.iconst 0, 1) := dl_3 (by decide +kernel)
theorem dX12_broughtBack_1 : decode cX12_broughtBack 1 = .ok (.istore 4, 2) := dl_54 (by decide +kernel)
theorem dX12_broughtBack_3 : decode cX12_broughtBack 3 = .ok (.iconst 0, 1) := dl_3 (by decide +kernel)
theorem dX12_broughtBack_4 : decode cX12_broughtBack 4 = .ok (.istore 5, 2) := dl_54 (by decide +kernel)
theorem dX12_broughtBack_6 : decode cX12_broughtBack 6 = .ok (.iload 5, 2) := dl_21 (by decide +kernel)
theorem dX12_broughtBack_8 : decode cX12_broughtBack 8 = .ok (.aload_n 0, 1) := dl_42 (by decide +kernel)
theorem dX12_broughtBack_9 : decode cX12_broughtBack 9 = .ok (.getfield 7, 3) := dl_180 (by decide +kernel)
theorem dX12_broughtBack_12 : decode cX12_broughtBack 12 = .ok (.iload_n 2, 1) := dl_28 (by decide +kernel)
theorem dX12_broughtBack_13 : decode cX12_broughtBack 13 = .ok (.iaload, 1) := dl_46 (by decide +kernel)
theorem dX12_broughtBack_14 : decode cX12_broughtBack 14 = .ok (.if_icmp .ge 108, 3) := dl_162 (by decide +kernel)
theorem dX12_broughtBack_122 : decode cX12_broughtBack 122 = .ok (.iload 4, 2) := dl_21 (by decide +kernel)
theorem dX12_broughtBack_124 : decode cX12_broughtBack 124 = .ok (.ireturn, 1) := dl_172 (by decide +kernel)
theorem dX12_broughtBack_17 : decode cX12_broughtBack 17 = .ok (.aload_n 0, 1) := dl_42 (by decide +kernel)
theorem dX12_broughtBack_18 : decode cX12_broughtBack 18 = .ok (.getfield 71, 3) := dl_180 (by decide +kernel)
theorem dX12_broughtBack_21 : decode cX12_broughtBack 21 = .ok (.bipush 96, 2) := dl_16 (by decide +kernel)
theorem dX12_broughtBack_23 : decode cX12_broughtBack 23 = .ok (.iload_n 2, 1) := dl_28 (by decide +kernel)
theorem dX12_broughtBack_24 : decode cX12_broughtBack 24 = .ok (.imul, 1) := dl_104 (by decide +kernel)
theorem dX12_broughtBack_25 : decode cX12_broughtBack 25 = .ok (.iconst 4, 1) := dl_7 (by decide +kernel)
theorem dX12_broughtBack_26 : decode cX12_broughtBack 26 = .ok (.iload 5, 2) := dl_21 (by decide +kernel)
theorem dX12_broughtBack_28 : decode cX12_broughtBack 28 = .ok (.imul, 1) := dl_104 (by decide +kernel)
theorem dX12_broughtBack_29 : decode cX12_broughtBack 29 = .ok (.iadd, 1) := dl_96 (by decide +kernel)
theorem dX12_broughtBack_30 : decode cX12_broughtBack 30 = .ok (.aload_n 0, 1) := dl_42 (by decide +kernel)
theorem dX12_broughtBack_31 : decode cX12_broughtBack 31 = .ok (.getfield 55, 3) := dl_180 (by decide +kernel)
theorem dX12_broughtBack_34 : decode cX12_broughtBack 34 = .ok (.iload_n 1, 1) := dl_27 (by decide +kernel)
theorem dX12_broughtBack_35 : decode cX12_broughtBack 35 = .ok (.iaload, 1) := dl_46 (by decide +kernel)
theorem dX12_broughtBack_36 : decode cX12_broughtBack 36 = .ok (.iadd, 1) := dl_96 (by decide +kernel)
theorem dX12_broughtBack_37 : decode cX12_broughtBack 37 = .ok (.iaload, 1) := dl_46 (by decide +kernel)
theorem dX12_broughtBack_38 : decode cX12_broughtBack 38 = .ok (.istore 6, 2) := dl_54 (by decide +kernel)
theorem dX12_broughtBack_40 : decode cX12_broughtBack 40 = .ok (.iconst 0, 1) := dl_3 (by decide +kernel)
theorem dX12_broughtBack_41 : decode cX12_broughtBack 41 = .ok (.istore 7, 2) := dl_54 (by decide +kernel)
theorem dX12_broughtBack_43 : decode cX12_broughtBack 43 = .ok (.iload 7, 2) := dl_21 (by decide +kernel)
theorem dX12_broughtBack_45 : decode cX12_broughtBack 45 = .ok (.aload_n 0, 1) := dl_42 (by decide +kernel)
theorem dX12_broughtBack_46 : decode cX12_broughtBack 46 = .ok (.getfield 52, 3) := dl_180 (by decide +kernel)
theorem dX12_broughtBack_49 : decode cX12_broughtBack 49 = .ok (.iload_n 1, 1) := dl_27 (by decide +kernel)
theorem dX12_broughtBack_50 : decode cX12_broughtBack 50 = .ok (.iaload, 1) := dl_46 (by decide +kernel)
theorem dX12_broughtBack_51 : decode cX12_broughtBack 51 = .ok (.if_icmp .ge 35, 3) := dl_162 (by decide +kernel)
theorem dX12_broughtBack_86 : decode cX12_broughtBack 86 = .ok (.iload 4, 2) := dl_21 (by decide +kernel)
theorem dX12_broughtBack_88 : decode cX12_broughtBack 88 = .ok (.iload 6, 2) := dl_21 (by decide +kernel)
theorem dX12_broughtBack_90 : decode cX12_broughtBack 90 = .ok (.bipush (-4), 2) := dl_16 (by decide +kernel)
theorem dX12_broughtBack_92 : decode cX12_broughtBack 92 = .ok (.if_icmp .eq 13, 3) := dl_159 (by decide +kernel)
theorem dX12_broughtBack_105 : decode cX12_broughtBack 105 = .ok (.iconst 1, 1) := dl_4 (by decide +kernel)
theorem dX12_broughtBack_106 : decode cX12_broughtBack 106 = .ok (.iload 5, 2) := dl_21 (by decide +kernel)
theorem dX12_broughtBack_108 : decode cX12_broughtBack 108 = .ok (.ishl, 1) := dl_120 (by decide +kernel)
theorem dX12_broughtBack_109 : decode cX12_broughtBack 109 = .ok (.goto 4, 3) := dl_167 (by decide +kernel)
theorem dX12_broughtBack_113 : decode cX12_broughtBack 113 = .ok (.ior, 1) := dl_128 (by decide +kernel)
theorem dX12_broughtBack_114 : decode cX12_broughtBack 114 = .ok (.istore 4, 2) := dl_54 (by decide +kernel)
theorem dX12_broughtBack_116 : decode cX12_broughtBack 116 = .ok (.iinc 5 1, 3) := dl_132 (by decide +kernel)
theorem dX12_broughtBack_119 : decode cX12_broughtBack 119 = .ok (.goto (-113), 3) := dl_167 (by decide +kernel)
theorem dX12_broughtBack_95 : decode cX12_broughtBack 95 = .ok (.iload_n 3, 1) := dl_29 (by decide +kernel)
theorem dX12_broughtBack_96 : decode cX12_broughtBack 96 = .ok (.iload 6, 2) := dl_21 (by decide +kernel)
theorem dX12_broughtBack_98 : decode cX12_broughtBack 98 = .ok (.ishr, 1) := dl_122 (by decide +kernel)
theorem dX12_broughtBack_99 : decode cX12_broughtBack 99 = .ok (.iconst 1, 1) := dl_4 (by decide +kernel)
theorem dX12_broughtBack_100 : decode cX12_broughtBack 100 = .ok (.iand, 1) := dl_126 (by decide +kernel)
theorem dX12_broughtBack_101 : decode cX12_broughtBack 101 = .ok (.iconst 1, 1) := dl_4 (by decide +kernel)
theorem dX12_broughtBack_102 : decode cX12_broughtBack 102 = .ok (.if_icmp .ne 10, 3) := dl_160 (by decide +kernel)
theorem dX12_broughtBack_112 : decode cX12_broughtBack 112 = .ok (.iconst 0, 1) := dl_3 (by decide +kernel)
theorem dX12_broughtBack_54 : decode cX12_broughtBack 54 = .ok (.iload 6, 2) := dl_21 (by decide +kernel)
theorem dX12_broughtBack_56 : decode cX12_broughtBack 56 = .ok (.bipush (-4), 2) := dl_16 (by decide +kernel)
theorem dX12_broughtBack_58 : decode cX12_broughtBack 58 = .ok (.if_icmp .ne 28, 3) := dl_160 (by decide +kernel)
theorem dX12_broughtBack_61 : decode cX12_broughtBack 61 = .ok (.aload_n 0, 1) := dl_42 (by decide +kernel)
theorem dX12_broughtBack_62 : decode cX12_broughtBack 62 = .ok (.getfield 71, 3) := dl_180 (by decide +kernel)
theorem dX12_broughtBack_65 : decode cX12_broughtBack 65 = .ok (.bipush 96, 2) := dl_16 (by decide +kernel)
theorem dX12_broughtBack_67 : decode cX12_broughtBack 67 = .ok (.iload_n 2, 1) := dl_28 (by decide +kernel)
theorem dX12_broughtBack_68 : decode cX12_broughtBack 68 = .ok (.imul, 1) := dl_104 (by decide +kernel)
theorem dX12_broughtBack_69 : decode cX12_broughtBack 69 = .ok (.iconst 4, 1) := dl_7 (by decide +kernel)
theorem dX12_broughtBack_70 : decode cX12_broughtBack 70 = .ok (.iload 5, 2) := dl_21 (by decide +kernel)
theorem dX12_broughtBack_72 : decode cX12_broughtBack 72 = .ok (.imul, 1) := dl_104 (by decide +kernel)
theorem dX12_broughtBack_73 : decode cX12_broughtBack 73 = .ok (.iadd, 1) := dl_96 (by decide +kernel)
theorem dX12_broughtBack_74 : decode cX12_broughtBack 74 = .ok (.iload 7, 2) := dl_21 (by decide +kernel)
theorem dX12_broughtBack_76 : decode cX12_broughtBack 76 = .ok (.iadd, 1) := dl_96 (by decide +kernel)
theorem dX12_broughtBack_77 : decode cX12_broughtBack 77 = .ok (.iaload, 1) := dl_46 (by decide +kernel)
theorem dX12_broughtBack_78 : decode cX12_broughtBack 78 = .ok (.istore 6, 2) := dl_54 (by decide +kernel)
theorem dX12_broughtBack_80 : decode cX12_broughtBack 80 = .ok (.iinc 7 1, 3) := dl_132 (by decide +kernel)
theorem dX12_broughtBack_83 : decode cX12_broughtBack 83 = .ok (.goto (-40), 3) := dl_167 (by decide +kernel)
set_option maxRecDepth 100000 in
set_option maxHeartbeats 4000000 in
theorem r_broughtBack (l : Launch) (E : EV) (ro : va_W) (hm : Nat) (e : Nat) (pa : Nat) (so : Int32) (m_manys : Nat) (m_reals : Nat) (m_factsOf : Nat) (m_possible : Nat) (q_undos : Nat) (q_models : Nat) (m_tape : Nat) (q_taped : Nat) (q_fault : Int32) (q_wrong : Int32) (q_wrongAt : Int32) (q_spot : Int32) (q_place : Int32) (q_token : Int32) (q_value : Int32) (m_ends : Nat) (m_letters : Nat) (m_actOf : Nat) (m_whom : Nat) (m_actMany : Nat) (m_tokens : Nat) (m_afters : Nat) (m_afterOf : Nat) (q_counted : Int32) (m_pile : Nat) (m_caseMany : Nat) (m_happen : Nat) (m_hasIf : Nat) (m_becomes : Nat) (m_goneOf : Nat) (m_heard : Nat) (m_pairs : Nat) (m_heaps : Nat) (q_rounds : Int32) (q_heapMany : Int32) (m_led : Nat) (m_newAt : Nat) (m_knowing : Nat) (m_firsts : Nat) (q_people : Nat) (m_secrets : Nat) (m_tried : Nat) (m_lanes : Nat) (m_lengths : Nat) (m_cells : Nat) (f_manys : Nat → Int32) (f_caseMany : Nat → Int32) (f_happen : Nat → Int32) (f_pairs : Nat → Int32) (Pq : Nat → Bool) (hb_manys : NB 18 24 f_manys) (hb_caseMany : NB 4 4 f_caseMany) (hb_happen : NB 4 3 f_happen) (he : e < 4) (hpa : pa < 6) (hPF : PRF Pq (cN f_manys pa) (cN f_caseMany e) pa f_pairs) (hP4 : ∀ u j, u < cN f_manys pa → cN f_caseMany e ≤ j → j < 4 → Pq (4 * u + j) = false) (hC : cb Pq (4 * cN f_manys pa) ≤ 24) (hrc : cN f_happen e < cN f_caseMany e) : CT l yX12_broughtBack (Cond.code yX12_broughtBack cX12_broughtBack 8 (some .int) :: TB) ({ frames := 0, cells := 0, slots := 0, locals := 0 }) E ro [.ref hm, .int (nI e), .int (nI pa), .int so] [(hm, .inr (12, [.ref m_manys, .ref m_reals, .ref m_factsOf, .ref m_possible, .int (nI q_undos), .int (nI q_models), .ref m_tape, .int (nI q_taped), .int q_fault, .int q_wrong, .int q_wrongAt, .int q_spot, .int q_place, .int q_token, .int q_value, .ref m_ends, .ref m_letters, .ref m_actOf, .ref m_whom, .ref m_actMany, .ref m_tokens, .ref m_afters, .ref m_afterOf, .int q_counted, .ref m_pile, .ref m_caseMany, .ref m_happen, .ref m_hasIf, .ref m_becomes, .ref m_goneOf, .ref m_heard, .ref m_pairs, .ref m_heaps, .int q_rounds, .int q_heapMany, .ref m_led, .ref m_newAt, .ref m_knowing, .ref m_firsts, .int (nI q_people), .ref m_secrets, .ref m_tried, .ref m_lanes, .ref m_lengths, .ref m_cells])), (m_manys, .inl (E.2.1 1, 18, .inl f_manys)), (m_caseMany, .inl (E.2.1 1, 4, .inl f_caseMany)), (m_happen, .inl (E.2.1 1, 4, .inl f_happen)), (m_pairs, .inl (E.2.1 1, 576, .inl f_pairs))] (Qi E (fun (rz : Int32) uz => (uz = [(hm, .inr (12, [.ref m_manys, .ref m_reals, .ref m_factsOf, .ref m_possible, .int (nI q_undos), .int (nI q_models), .ref m_tape, .int (nI q_taped), .int q_fault, .int q_wrong, .int q_wrongAt, .int q_spot, .int q_place, .int q_token, .int q_value, .ref m_ends, .ref m_letters, .ref m_actOf, .ref m_whom, .ref m_actMany, .ref m_tokens, .ref m_afters, .ref m_afterOf, .int q_counted, .ref m_pile, .ref m_caseMany, .ref m_happen, .ref m_hasIf, .ref m_becomes, .ref m_goneOf, .ref m_heard, .ref m_pairs, .ref m_heaps, .int q_rounds, .int q_heapMany, .ref m_led, .ref m_newAt, .ref m_knowing, .ref m_firsts, .int (nI q_people), .ref m_secrets, .ref m_tried, .ref m_lanes, .ref m_lengths, .ref m_cells])), (m_manys, .inl (E.2.1 1, 18, .inl f_manys)), (m_caseMany, .inl (E.2.1 1, 4, .inl f_caseMany)), (m_happen, .inl (E.2.1 1, 4, .inl f_happen)), (m_pairs, .inl (E.2.1 1, 576, .inl f_pairs))] ∧ (BS rz (fun w => decide (w < cN f_manys pa) && VBK Pq (bt so) (cN f_happen e) w))))) 0 0 := by
  refine ct_of rfl rfl ?_
  intro X C hT hin hro
  show WW X 8 E 0 [(0, .ref hm), (1, .int (nI e)), (2, .int (nI pa)), (3, .int so)] [] [(hm, .inr (12, [.ref m_manys, .ref m_reals, .ref m_factsOf, .ref m_possible, .int (nI q_undos), .int (nI q_models), .ref m_tape, .int (nI q_taped), .int q_fault, .int q_wrong, .int q_wrongAt, .int q_spot, .int q_place, .int q_token, .int q_value, .ref m_ends, .ref m_letters, .ref m_actOf, .ref m_whom, .ref m_actMany, .ref m_tokens, .ref m_afters, .ref m_afterOf, .int q_counted, .ref m_pile, .ref m_caseMany, .ref m_happen, .ref m_hasIf, .ref m_becomes, .ref m_goneOf, .ref m_heard, .ref m_pairs, .ref m_heaps, .int q_rounds, .int q_heapMany, .ref m_led, .ref m_newAt, .ref m_knowing, .ref m_firsts, .int (nI q_people), .ref m_secrets, .ref m_tried, .ref m_lanes, .ref m_lengths, .ref m_cells])), (m_manys, .inl (E.2.1 1, 18, .inl f_manys)), (m_caseMany, .inl (E.2.1 1, 4, .inl f_caseMany)), (m_happen, .inl (E.2.1 1, 4, .inl f_happen)), (m_pairs, .inl (E.2.1 1, 576, .inl f_pairs))] 0 0
  have hmn0 := (hb_manys 0 (by omega)).2
  have hmnp := (hb_manys pa (by omega)).2
  have hcmp := (hb_caseMany e (by omega)).2
  refine ww_iconst (v := 0) C dX12_broughtBack_0 rfl ?_
  refine ww_istore (lv' := [(4, .int 0), (0, .ref hm), (1, .int (nI e)), (2, .int (nI pa)), (3, .int so)]) C dX12_broughtBack_1 rfl rfl ?_
  refine ww_iconst (v := 0) C dX12_broughtBack_3 rfl ?_
  refine ww_istore (lv' := [(5, .int 0), (4, .int 0), (0, .ref hm), (1, .int (nI e)), (2, .int (nI pa)), (3, .int so)]) C dX12_broughtBack_4 rfl rfl ?_
  have loop_6 : ∀ (fu : Nat) (i1 : Nat) (ac : Int32), (i1 ≤ cN f_manys pa) → (AC ac no_ i1 (VBK Pq (bt so) (cN f_happen e))) → cN f_manys pa - i1 < fu → WW X 8 E 6 [(5, .int (nI i1)), (4, .int ac), (0, .ref hm), (1, .int (nI e)), (2, .int (nI pa)), (3, .int so)] [] [(hm, .inr (12, [.ref m_manys, .ref m_reals, .ref m_factsOf, .ref m_possible, .int (nI q_undos), .int (nI q_models), .ref m_tape, .int (nI q_taped), .int q_fault, .int q_wrong, .int q_wrongAt, .int q_spot, .int q_place, .int q_token, .int q_value, .ref m_ends, .ref m_letters, .ref m_actOf, .ref m_whom, .ref m_actMany, .ref m_tokens, .ref m_afters, .ref m_afterOf, .int q_counted, .ref m_pile, .ref m_caseMany, .ref m_happen, .ref m_hasIf, .ref m_becomes, .ref m_goneOf, .ref m_heard, .ref m_pairs, .ref m_heaps, .int q_rounds, .int q_heapMany, .ref m_led, .ref m_newAt, .ref m_knowing, .ref m_firsts, .int (nI q_people), .ref m_secrets, .ref m_tried, .ref m_lanes, .ref m_lengths, .ref m_cells])), (m_manys, .inl (E.2.1 1, 18, .inl f_manys)), (m_caseMany, .inl (E.2.1 1, 4, .inl f_caseMany)), (m_happen, .inl (E.2.1 1, 4, .inl f_happen)), (m_pairs, .inl (E.2.1 1, 576, .inl f_pairs))] 0 0 := by
    intro fu
    induction fu with
    | zero => intro i1 ac hi1 hac hmeas; exact absurd hmeas (Nat.not_lt_zero _)
    | succ fu ih_6 =>
      intro i1 ac hi1 hac hmeas
      refine ww_iload C dX12_broughtBack_6 0 rfl ?_
      refine ww_aload_n C dX12_broughtBack_8 2 rfl rfl ?_
      refine ww_get C fg_X12_7 0 rfl rfl dX12_broughtBack_9 ?_
      refine ww_iload_n C dX12_broughtBack_12 4 rfl rfl ?_
      have hbx_1 := (hb_manys pa (by omega)).2
      refine ww_iald (v := (nI (cN f_manys pa))) C 1 rfl (vp_in_nI (by omega) (by omega)) (ldn (by omega) (hb_manys pa (by omega)).1) dX12_broughtBack_13 ?_
      refine ww_icmp_ge (tgt := 122) C dX12_broughtBack_14 (by decide) (fun c_2 => ?_) (fun c_2 => ?_)
      · have zc_2 : ((i1 : Nat) : Int) ≥ ((cN f_manys pa : Nat) : Int) := i_le (nI_toInt (n := cN f_manys pa) (by omega)) (nI_toInt (n := i1) (by omega)) c_2
        refine ww_iload C dX12_broughtBack_122 1 rfl ?_
        exact ww_iret (u := [(hm, .inr (12, [.ref m_manys, .ref m_reals, .ref m_factsOf, .ref m_possible, .int (nI q_undos), .int (nI q_models), .ref m_tape, .int (nI q_taped), .int q_fault, .int q_wrong, .int q_wrongAt, .int q_spot, .int q_place, .int q_token, .int q_value, .ref m_ends, .ref m_letters, .ref m_actOf, .ref m_whom, .ref m_actMany, .ref m_tokens, .ref m_afters, .ref m_afterOf, .int q_counted, .ref m_pile, .ref m_caseMany, .ref m_happen, .ref m_hasIf, .ref m_becomes, .ref m_goneOf, .ref m_heard, .ref m_pairs, .ref m_heaps, .int q_rounds, .int q_heapMany, .ref m_led, .ref m_newAt, .ref m_knowing, .ref m_firsts, .int (nI q_people), .ref m_secrets, .ref m_tried, .ref m_lanes, .ref m_lengths, .ref m_cells])), (m_manys, .inl (E.2.1 1, 18, .inl f_manys)), (m_caseMany, .inl (E.2.1 1, 4, .inl f_caseMany)), (m_happen, .inl (E.2.1 1, 4, .inl f_happen)), (m_pairs, .inl (E.2.1 1, 576, .inl f_pairs))]) C hT [0, 1, 2, 3, 4] rfl rfl rfl rfl dX12_broughtBack_124 (⟨rfl, (AC.fin hac (show i1 = cN f_manys pa by omega))⟩)
      · have zc_2 : ((i1 : Nat) : Int) < ((cN f_manys pa : Nat) : Int) := i_nle (nI_toInt (n := cN f_manys pa) (by omega)) (nI_toInt (n := i1) (by omega)) c_2
        refine ww_aload_n C dX12_broughtBack_17 2 rfl rfl ?_
        refine ww_get C fg_X12_71 0 rfl rfl dX12_broughtBack_18 ?_
        refine ww_bipush (v := 96) C dX12_broughtBack_21 rfl ?_
        refine ww_iload_n C dX12_broughtBack_23 4 rfl rfl ?_
        refine ww_imul (v := (nI (96 * pa))) C dX12_broughtBack_24 (pk_mul 96 pa) ?_
        refine ww_iconst (v := 4) C dX12_broughtBack_25 rfl ?_
        refine ww_iload C dX12_broughtBack_26 0 rfl ?_
        refine ww_imul (v := (nI (4 * i1))) C dX12_broughtBack_28 (pk_mul 4 i1) ?_
        refine ww_iadd (v := (nI ((96 * pa) + (4 * i1)))) C dX12_broughtBack_29 (nI_add (96 * pa) (4 * i1)) ?_
        refine ww_aload_n C dX12_broughtBack_30 2 rfl rfl ?_
        refine ww_get C fg_X12_55 0 rfl rfl dX12_broughtBack_31 ?_
        refine ww_iload_n C dX12_broughtBack_34 3 rfl rfl ?_
        have hbx_3 := (hb_happen e (by omega)).2
        refine ww_iald (v := (nI (cN f_happen e))) C 3 rfl (vp_in_nI (by omega) (by omega)) (ldn (by omega) (hb_happen e (by omega)).1) dX12_broughtBack_35 ?_
        refine ww_iadd (v := (nI (((96 * pa) + (4 * i1)) + (cN f_happen e)))) C dX12_broughtBack_36 (nI_add ((96 * pa) + (4 * i1)) (cN f_happen e)) ?_
        rcases PRF.or (w := i1) (i := cN f_happen e) hPF (by omega) (by omega) with ⟨hP_4, hx_5⟩ | ⟨hP_4, hx_5⟩
        · refine ww_iald (v := (-4)) C 4 rfl (vp_in_nI (by omega) (by omega)) (ldn (by omega) hx_5) dX12_broughtBack_37 ?_
          refine ww_istore (lv' := [(6, .int (-4)), (5, .int (nI i1)), (4, .int ac), (0, .ref hm), (1, .int (nI e)), (2, .int (nI pa)), (3, .int so)]) C dX12_broughtBack_38 rfl rfl ?_
          refine ww_iconst (v := 0) C dX12_broughtBack_40 rfl ?_
          refine ww_istore (lv' := [(7, .int 0), (6, .int (-4)), (5, .int (nI i1)), (4, .int ac), (0, .ref hm), (1, .int (nI e)), (2, .int (nI pa)), (3, .int so)]) C dX12_broughtBack_41 rfl rfl ?_
          have loop_43 : ∀ (fu : Nat) (i2 : Nat) (x2 : Int32), (i2 ≤ cN f_caseMany e) → (XB Pq i1 (cN f_happen e) i2 x2) → cN f_caseMany e - i2 < fu → WW X 8 E 43 [(7, .int (nI i2)), (6, .int x2), (5, .int (nI i1)), (4, .int ac), (0, .ref hm), (1, .int (nI e)), (2, .int (nI pa)), (3, .int so)] [] [(hm, .inr (12, [.ref m_manys, .ref m_reals, .ref m_factsOf, .ref m_possible, .int (nI q_undos), .int (nI q_models), .ref m_tape, .int (nI q_taped), .int q_fault, .int q_wrong, .int q_wrongAt, .int q_spot, .int q_place, .int q_token, .int q_value, .ref m_ends, .ref m_letters, .ref m_actOf, .ref m_whom, .ref m_actMany, .ref m_tokens, .ref m_afters, .ref m_afterOf, .int q_counted, .ref m_pile, .ref m_caseMany, .ref m_happen, .ref m_hasIf, .ref m_becomes, .ref m_goneOf, .ref m_heard, .ref m_pairs, .ref m_heaps, .int q_rounds, .int q_heapMany, .ref m_led, .ref m_newAt, .ref m_knowing, .ref m_firsts, .int (nI q_people), .ref m_secrets, .ref m_tried, .ref m_lanes, .ref m_lengths, .ref m_cells])), (m_manys, .inl (E.2.1 1, 18, .inl f_manys)), (m_caseMany, .inl (E.2.1 1, 4, .inl f_caseMany)), (m_happen, .inl (E.2.1 1, 4, .inl f_happen)), (m_pairs, .inl (E.2.1 1, 576, .inl f_pairs))] 0 0 := by
            intro fu
            induction fu with
            | zero => intro i2 x2 hi2 hxb hmeas; exact absurd hmeas (Nat.not_lt_zero _)
            | succ fu ih_43 =>
              intro i2 x2 hi2 hxb hmeas
              refine ww_iload C dX12_broughtBack_43 0 rfl ?_
              refine ww_aload_n C dX12_broughtBack_45 4 rfl rfl ?_
              refine ww_get C fg_X12_52 0 rfl rfl dX12_broughtBack_46 ?_
              refine ww_iload_n C dX12_broughtBack_49 5 rfl rfl ?_
              have hbx_6 := (hb_caseMany e (by omega)).2
              refine ww_iald (v := (nI (cN f_caseMany e))) C 2 rfl (vp_in_nI (by omega) (by omega)) (ldn (by omega) (hb_caseMany e (by omega)).1) dX12_broughtBack_50 ?_
              refine ww_icmp_ge (tgt := 86) C dX12_broughtBack_51 (by decide) (fun c_7 => ?_) (fun c_7 => ?_)
              · have zc_7 : ((i2 : Nat) : Int) ≥ ((cN f_caseMany e : Nat) : Int) := i_le (nI_toInt (n := cN f_caseMany e) (by omega)) (nI_toInt (n := i2) (by omega)) c_7
                refine ww_iload C dX12_broughtBack_86 3 rfl ?_
                refine ww_iload C dX12_broughtBack_88 1 rfl ?_
                refine ww_bipush (v := (-4)) C dX12_broughtBack_90 rfl ?_
                refine ww_icmp_eq (tgt := 105) C dX12_broughtBack_92 (by decide) (fun c_8 => ?_) (fun c_8 => ?_)
                · have zc_8 : x2.toInt = (-4) := i_eq rfl rfl c_8
                  refine ww_iconst (v := 1) C dX12_broughtBack_105 rfl ?_
                  refine ww_iload C dX12_broughtBack_106 2 rfl ?_
                  obtain ⟨x_9, ex_9⟩ : ∃ z : Int32, (1 : Int32) <<< ((nI i1) &&& 31) = z := ⟨_, rfl⟩
                  refine ww_ishl (v := x_9) C dX12_broughtBack_108 ex_9 ?_
                  refine ww_goto (tgt := 113) C dX12_broughtBack_109 (by decide) ?_
                  obtain ⟨x_10, ex_10⟩ : ∃ z : Int32, ac ||| x_9 = z := ⟨_, rfl⟩
                  refine ww_ior (v := x_10) C dX12_broughtBack_113 ex_10 ?_
                  refine ww_istore (lv' := [(4, .int x_10), (7, .int (nI i2)), (6, .int x2), (5, .int (nI i1)), (0, .ref hm), (1, .int (nI e)), (2, .int (nI pa)), (3, .int so)]) C dX12_broughtBack_114 rfl rfl ?_
                  refine ww_iinc (j := 3) (v := (nI (i1 + 1))) (lv' := [(5, .int (nI (i1 + 1))), (4, .int x_10), (7, .int (nI i2)), (6, .int x2), (0, .ref hm), (1, .int (nI e)), (2, .int (nI pa)), (3, .int so)]) C dX12_broughtBack_116 rfl (nI_add i1 1) rfl rfl ?_
                  refine ww_goto (tgt := 6) C dX12_broughtBack_119 (by decide) ?_
                  exact ww_lv [0, 1, 4, 5, 6, 7] rfl (ww_sub [0, 1, 2, 3, 4] rfl rfl (ih_6 (i1 + 1) x_10 (by omega) (by first | exact AC.t hac (by omega) (by first | exact vbx_1 hxb (by omega) (by omega) (by omega) (fun j a b => hP4 i1 j (by omega) (by omega) b) | exact vbx_2 hxb (by omega) (by omega) (show 4 * i1 + 4 ≤ 4 * cN f_manys pa by omega) hC (by assumption) (by assumption) (by omega) (decide_eq_true (by omega))) (by assumption) (by assumption) | exact AC.z hac (vbx_2 hxb (by omega) (by omega) (show 4 * i1 + 4 ≤ 4 * cN f_manys pa by omega) hC (by assumption) (by assumption) (by omega) (decide_eq_false (by omega))) (by assumption)) (by omega)))
                · have zc_8 : x2.toInt ≠ (-4) := i_ne rfl rfl c_8
                  refine ww_iload_n C dX12_broughtBack_95 7 rfl rfl ?_
                  refine ww_iload C dX12_broughtBack_96 1 rfl ?_
                  obtain ⟨x_11, ex_11⟩ : ∃ z : Int32, so >>> (x2 &&& 31) = z := ⟨_, rfl⟩
                  refine ww_ishr (v := x_11) C dX12_broughtBack_98 ex_11 ?_
                  refine ww_iconst (v := 1) C dX12_broughtBack_99 rfl ?_
                  obtain ⟨j_12, hj_12, ej_12⟩ := pk_andE x_11 (m := 1) 1 rfl
                  refine ww_iand (v := (nI j_12)) C dX12_broughtBack_100 ej_12 ?_
                  refine ww_iconst (v := 1) C dX12_broughtBack_101 rfl ?_
                  refine ww_icmp_ne (tgt := 112) C dX12_broughtBack_102 (by decide) (fun c_13 => ?_) (fun c_13 => ?_)
                  · have zc_13 : ((j_12 : Nat) : Int) ≠ 1 := i_ne (nI_toInt (n := j_12) (by omega)) rfl c_13
                    refine ww_iconst (v := 0) C dX12_broughtBack_112 rfl ?_
                    obtain ⟨x_14, ex_14⟩ : ∃ z : Int32, ac ||| (0 : Int32) = z := ⟨_, rfl⟩
                    refine ww_ior (v := x_14) C dX12_broughtBack_113 ex_14 ?_
                    refine ww_istore (lv' := [(4, .int x_14), (7, .int (nI i2)), (6, .int x2), (5, .int (nI i1)), (0, .ref hm), (1, .int (nI e)), (2, .int (nI pa)), (3, .int so)]) C dX12_broughtBack_114 rfl rfl ?_
                    refine ww_iinc (j := 3) (v := (nI (i1 + 1))) (lv' := [(5, .int (nI (i1 + 1))), (4, .int x_14), (7, .int (nI i2)), (6, .int x2), (0, .ref hm), (1, .int (nI e)), (2, .int (nI pa)), (3, .int so)]) C dX12_broughtBack_116 rfl (nI_add i1 1) rfl rfl ?_
                    refine ww_goto (tgt := 6) C dX12_broughtBack_119 (by decide) ?_
                    exact ww_lv [0, 1, 4, 5, 6, 7] rfl (ww_sub [0, 1, 2, 3, 4] rfl rfl (ih_6 (i1 + 1) x_14 (by omega) (by first | exact AC.t hac (by omega) (by first | exact vbx_1 hxb (by omega) (by omega) (by omega) (fun j a b => hP4 i1 j (by omega) (by omega) b) | exact vbx_2 hxb (by omega) (by omega) (show 4 * i1 + 4 ≤ 4 * cN f_manys pa by omega) hC (by assumption) (by assumption) (by omega) (decide_eq_true (by omega))) (by assumption) (by assumption) | exact AC.z hac (vbx_2 hxb (by omega) (by omega) (show 4 * i1 + 4 ≤ 4 * cN f_manys pa by omega) hC (by assumption) (by assumption) (by omega) (decide_eq_false (by omega))) (by assumption)) (by omega)))
                  · have zc_13 : ((j_12 : Nat) : Int) = 1 := i_eq (nI_toInt (n := j_12) (by omega)) rfl c_13
                    refine ww_iconst (v := 1) C dX12_broughtBack_105 rfl ?_
                    refine ww_iload C dX12_broughtBack_106 2 rfl ?_
                    obtain ⟨x_15, ex_15⟩ : ∃ z : Int32, (1 : Int32) <<< ((nI i1) &&& 31) = z := ⟨_, rfl⟩
                    refine ww_ishl (v := x_15) C dX12_broughtBack_108 ex_15 ?_
                    refine ww_goto (tgt := 113) C dX12_broughtBack_109 (by decide) ?_
                    obtain ⟨x_16, ex_16⟩ : ∃ z : Int32, ac ||| x_15 = z := ⟨_, rfl⟩
                    refine ww_ior (v := x_16) C dX12_broughtBack_113 ex_16 ?_
                    refine ww_istore (lv' := [(4, .int x_16), (7, .int (nI i2)), (6, .int x2), (5, .int (nI i1)), (0, .ref hm), (1, .int (nI e)), (2, .int (nI pa)), (3, .int so)]) C dX12_broughtBack_114 rfl rfl ?_
                    refine ww_iinc (j := 3) (v := (nI (i1 + 1))) (lv' := [(5, .int (nI (i1 + 1))), (4, .int x_16), (7, .int (nI i2)), (6, .int x2), (0, .ref hm), (1, .int (nI e)), (2, .int (nI pa)), (3, .int so)]) C dX12_broughtBack_116 rfl (nI_add i1 1) rfl rfl ?_
                    refine ww_goto (tgt := 6) C dX12_broughtBack_119 (by decide) ?_
                    exact ww_lv [0, 1, 4, 5, 6, 7] rfl (ww_sub [0, 1, 2, 3, 4] rfl rfl (ih_6 (i1 + 1) x_16 (by omega) (by first | exact AC.t hac (by omega) (by first | exact vbx_1 hxb (by omega) (by omega) (by omega) (fun j a b => hP4 i1 j (by omega) (by omega) b) | exact vbx_2 hxb (by omega) (by omega) (show 4 * i1 + 4 ≤ 4 * cN f_manys pa by omega) hC (by assumption) (by assumption) (by omega) (decide_eq_true (by omega))) (by assumption) (by assumption) | exact AC.z hac (vbx_2 hxb (by omega) (by omega) (show 4 * i1 + 4 ≤ 4 * cN f_manys pa by omega) hC (by assumption) (by assumption) (by omega) (decide_eq_false (by omega))) (by assumption)) (by omega)))
              · have zc_7 : ((i2 : Nat) : Int) < ((cN f_caseMany e : Nat) : Int) := i_nle (nI_toInt (n := cN f_caseMany e) (by omega)) (nI_toInt (n := i2) (by omega)) c_7
                refine ww_iload C dX12_broughtBack_54 1 rfl ?_
                refine ww_bipush (v := (-4)) C dX12_broughtBack_56 rfl ?_
                refine ww_icmp_ne (tgt := 86) C dX12_broughtBack_58 (by decide) (fun c_17 => ?_) (fun c_17 => ?_)
                · have zc_17 : x2.toInt ≠ (-4) := i_ne rfl rfl c_17
                  refine ww_iload C dX12_broughtBack_86 3 rfl ?_
                  refine ww_iload C dX12_broughtBack_88 1 rfl ?_
                  refine ww_bipush (v := (-4)) C dX12_broughtBack_90 rfl ?_
                  refine ww_icmp_eq (tgt := 105) C dX12_broughtBack_92 (by decide) (fun c_18 => ?_) (fun c_18 => ?_)
                  · have zc_18 : x2.toInt = (-4) := i_eq rfl rfl c_18
                    refine ww_iconst (v := 1) C dX12_broughtBack_105 rfl ?_
                    refine ww_iload C dX12_broughtBack_106 2 rfl ?_
                    obtain ⟨x_19, ex_19⟩ : ∃ z : Int32, (1 : Int32) <<< ((nI i1) &&& 31) = z := ⟨_, rfl⟩
                    refine ww_ishl (v := x_19) C dX12_broughtBack_108 ex_19 ?_
                    refine ww_goto (tgt := 113) C dX12_broughtBack_109 (by decide) ?_
                    obtain ⟨x_20, ex_20⟩ : ∃ z : Int32, ac ||| x_19 = z := ⟨_, rfl⟩
                    refine ww_ior (v := x_20) C dX12_broughtBack_113 ex_20 ?_
                    refine ww_istore (lv' := [(4, .int x_20), (7, .int (nI i2)), (6, .int x2), (5, .int (nI i1)), (0, .ref hm), (1, .int (nI e)), (2, .int (nI pa)), (3, .int so)]) C dX12_broughtBack_114 rfl rfl ?_
                    refine ww_iinc (j := 3) (v := (nI (i1 + 1))) (lv' := [(5, .int (nI (i1 + 1))), (4, .int x_20), (7, .int (nI i2)), (6, .int x2), (0, .ref hm), (1, .int (nI e)), (2, .int (nI pa)), (3, .int so)]) C dX12_broughtBack_116 rfl (nI_add i1 1) rfl rfl ?_
                    refine ww_goto (tgt := 6) C dX12_broughtBack_119 (by decide) ?_
                    exact ww_lv [0, 1, 4, 5, 6, 7] rfl (ww_sub [0, 1, 2, 3, 4] rfl rfl (ih_6 (i1 + 1) x_20 (by omega) (by first | exact AC.t hac (by omega) (by first | exact vbx_1 hxb (by omega) (by omega) (by omega) (fun j a b => hP4 i1 j (by omega) (by omega) b) | exact vbx_2 hxb (by omega) (by omega) (show 4 * i1 + 4 ≤ 4 * cN f_manys pa by omega) hC (by assumption) (by assumption) (by omega) (decide_eq_true (by omega))) (by assumption) (by assumption) | exact AC.z hac (vbx_2 hxb (by omega) (by omega) (show 4 * i1 + 4 ≤ 4 * cN f_manys pa by omega) hC (by assumption) (by assumption) (by omega) (decide_eq_false (by omega))) (by assumption)) (by omega)))
                  · have zc_18 : x2.toInt ≠ (-4) := i_ne rfl rfl c_18
                    refine ww_iload_n C dX12_broughtBack_95 7 rfl rfl ?_
                    refine ww_iload C dX12_broughtBack_96 1 rfl ?_
                    obtain ⟨x_21, ex_21⟩ : ∃ z : Int32, so >>> (x2 &&& 31) = z := ⟨_, rfl⟩
                    refine ww_ishr (v := x_21) C dX12_broughtBack_98 ex_21 ?_
                    refine ww_iconst (v := 1) C dX12_broughtBack_99 rfl ?_
                    obtain ⟨j_22, hj_22, ej_22⟩ := pk_andE x_21 (m := 1) 1 rfl
                    refine ww_iand (v := (nI j_22)) C dX12_broughtBack_100 ej_22 ?_
                    refine ww_iconst (v := 1) C dX12_broughtBack_101 rfl ?_
                    refine ww_icmp_ne (tgt := 112) C dX12_broughtBack_102 (by decide) (fun c_23 => ?_) (fun c_23 => ?_)
                    · have zc_23 : ((j_22 : Nat) : Int) ≠ 1 := i_ne (nI_toInt (n := j_22) (by omega)) rfl c_23
                      refine ww_iconst (v := 0) C dX12_broughtBack_112 rfl ?_
                      obtain ⟨x_24, ex_24⟩ : ∃ z : Int32, ac ||| (0 : Int32) = z := ⟨_, rfl⟩
                      refine ww_ior (v := x_24) C dX12_broughtBack_113 ex_24 ?_
                      refine ww_istore (lv' := [(4, .int x_24), (7, .int (nI i2)), (6, .int x2), (5, .int (nI i1)), (0, .ref hm), (1, .int (nI e)), (2, .int (nI pa)), (3, .int so)]) C dX12_broughtBack_114 rfl rfl ?_
                      refine ww_iinc (j := 3) (v := (nI (i1 + 1))) (lv' := [(5, .int (nI (i1 + 1))), (4, .int x_24), (7, .int (nI i2)), (6, .int x2), (0, .ref hm), (1, .int (nI e)), (2, .int (nI pa)), (3, .int so)]) C dX12_broughtBack_116 rfl (nI_add i1 1) rfl rfl ?_
                      refine ww_goto (tgt := 6) C dX12_broughtBack_119 (by decide) ?_
                      exact ww_lv [0, 1, 4, 5, 6, 7] rfl (ww_sub [0, 1, 2, 3, 4] rfl rfl (ih_6 (i1 + 1) x_24 (by omega) (by first | exact AC.t hac (by omega) (by first | exact vbx_1 hxb (by omega) (by omega) (by omega) (fun j a b => hP4 i1 j (by omega) (by omega) b) | exact vbx_2 hxb (by omega) (by omega) (show 4 * i1 + 4 ≤ 4 * cN f_manys pa by omega) hC (by assumption) (by assumption) (by omega) (decide_eq_true (by omega))) (by assumption) (by assumption) | exact AC.z hac (vbx_2 hxb (by omega) (by omega) (show 4 * i1 + 4 ≤ 4 * cN f_manys pa by omega) hC (by assumption) (by assumption) (by omega) (decide_eq_false (by omega))) (by assumption)) (by omega)))
                    · have zc_23 : ((j_22 : Nat) : Int) = 1 := i_eq (nI_toInt (n := j_22) (by omega)) rfl c_23
                      refine ww_iconst (v := 1) C dX12_broughtBack_105 rfl ?_
                      refine ww_iload C dX12_broughtBack_106 2 rfl ?_
                      obtain ⟨x_25, ex_25⟩ : ∃ z : Int32, (1 : Int32) <<< ((nI i1) &&& 31) = z := ⟨_, rfl⟩
                      refine ww_ishl (v := x_25) C dX12_broughtBack_108 ex_25 ?_
                      refine ww_goto (tgt := 113) C dX12_broughtBack_109 (by decide) ?_
                      obtain ⟨x_26, ex_26⟩ : ∃ z : Int32, ac ||| x_25 = z := ⟨_, rfl⟩
                      refine ww_ior (v := x_26) C dX12_broughtBack_113 ex_26 ?_
                      refine ww_istore (lv' := [(4, .int x_26), (7, .int (nI i2)), (6, .int x2), (5, .int (nI i1)), (0, .ref hm), (1, .int (nI e)), (2, .int (nI pa)), (3, .int so)]) C dX12_broughtBack_114 rfl rfl ?_
                      refine ww_iinc (j := 3) (v := (nI (i1 + 1))) (lv' := [(5, .int (nI (i1 + 1))), (4, .int x_26), (7, .int (nI i2)), (6, .int x2), (0, .ref hm), (1, .int (nI e)), (2, .int (nI pa)), (3, .int so)]) C dX12_broughtBack_116 rfl (nI_add i1 1) rfl rfl ?_
                      refine ww_goto (tgt := 6) C dX12_broughtBack_119 (by decide) ?_
                      exact ww_lv [0, 1, 4, 5, 6, 7] rfl (ww_sub [0, 1, 2, 3, 4] rfl rfl (ih_6 (i1 + 1) x_26 (by omega) (by first | exact AC.t hac (by omega) (by first | exact vbx_1 hxb (by omega) (by omega) (by omega) (fun j a b => hP4 i1 j (by omega) (by omega) b) | exact vbx_2 hxb (by omega) (by omega) (show 4 * i1 + 4 ≤ 4 * cN f_manys pa by omega) hC (by assumption) (by assumption) (by omega) (decide_eq_true (by omega))) (by assumption) (by assumption) | exact AC.z hac (vbx_2 hxb (by omega) (by omega) (show 4 * i1 + 4 ≤ 4 * cN f_manys pa by omega) hC (by assumption) (by assumption) (by omega) (decide_eq_false (by omega))) (by assumption)) (by omega)))
                · have zc_17 : x2.toInt = (-4) := i_eq rfl rfl c_17
                  refine ww_aload_n C dX12_broughtBack_61 4 rfl rfl ?_
                  refine ww_get C fg_X12_71 0 rfl rfl dX12_broughtBack_62 ?_
                  refine ww_bipush (v := 96) C dX12_broughtBack_65 rfl ?_
                  refine ww_iload_n C dX12_broughtBack_67 6 rfl rfl ?_
                  refine ww_imul (v := (nI (96 * pa))) C dX12_broughtBack_68 (pk_mul 96 pa) ?_
                  refine ww_iconst (v := 4) C dX12_broughtBack_69 rfl ?_
                  refine ww_iload C dX12_broughtBack_70 2 rfl ?_
                  refine ww_imul (v := (nI (4 * i1))) C dX12_broughtBack_72 (pk_mul 4 i1) ?_
                  refine ww_iadd (v := (nI ((96 * pa) + (4 * i1)))) C dX12_broughtBack_73 (nI_add (96 * pa) (4 * i1)) ?_
                  refine ww_iload C dX12_broughtBack_74 0 rfl ?_
                  refine ww_iadd (v := (nI (((96 * pa) + (4 * i1)) + i2))) C dX12_broughtBack_76 (nI_add ((96 * pa) + (4 * i1)) i2) ?_
                  rcases PRF.or (w := i1) (i := i2) hPF (by omega) (by omega) with ⟨hP_27, hx_28⟩ | ⟨hP_27, hx_28⟩
                  · refine ww_iald (v := (-4)) C 4 rfl (vp_in_nI (by omega) (by omega)) (ldn (by omega) hx_28) dX12_broughtBack_77 ?_
                    refine ww_istore (lv' := [(6, .int (-4)), (7, .int (nI i2)), (5, .int (nI i1)), (4, .int ac), (0, .ref hm), (1, .int (nI e)), (2, .int (nI pa)), (3, .int so)]) C dX12_broughtBack_78 rfl rfl ?_
                    refine ww_iinc (j := 1) (v := (nI (i2 + 1))) (lv' := [(7, .int (nI (i2 + 1))), (6, .int (-4)), (5, .int (nI i1)), (4, .int ac), (0, .ref hm), (1, .int (nI e)), (2, .int (nI pa)), (3, .int so)]) C dX12_broughtBack_80 rfl (nI_add i2 1) rfl rfl ?_
                    refine ww_goto (tgt := 43) C dX12_broughtBack_83 (by decide) ?_
                    exact ww_lv [0, 1, 2, 3, 4, 5, 6, 7] rfl (ww_sub [0, 1, 2, 3, 4] rfl rfl (ih_43 (i2 + 1) (-4) (by omega) (XB.n' hxb (by omega) hP_27) (by omega)))
                  · have hchx_28 := Nat.le_trans (cb_mono Pq (show 4 * i1 + i2 ≤ _ by omega)) hC
                    have hlhx_28 := cb_lt (f := Pq) (show 4 * i1 + i2 < 4 * cN f_manys pa by omega) hP_27
                    refine ww_iald (v := (nI (cb Pq (4 * i1 + i2)))) C 4 rfl (vp_in_nI (by omega) (by omega)) (ldn (by omega) hx_28) dX12_broughtBack_77 ?_
                    refine ww_istore (lv' := [(6, .int (nI (cb Pq (4 * i1 + i2)))), (7, .int (nI i2)), (5, .int (nI i1)), (4, .int ac), (0, .ref hm), (1, .int (nI e)), (2, .int (nI pa)), (3, .int so)]) C dX12_broughtBack_78 rfl rfl ?_
                    refine ww_iinc (j := 1) (v := (nI (i2 + 1))) (lv' := [(7, .int (nI (i2 + 1))), (6, .int (nI (cb Pq (4 * i1 + i2)))), (5, .int (nI i1)), (4, .int ac), (0, .ref hm), (1, .int (nI e)), (2, .int (nI pa)), (3, .int so)]) C dX12_broughtBack_80 rfl (nI_add i2 1) rfl rfl ?_
                    refine ww_goto (tgt := 43) C dX12_broughtBack_83 (by decide) ?_
                    exact ww_lv [0, 1, 2, 3, 4, 5, 6, 7] rfl (ww_sub [0, 1, 2, 3, 4] rfl rfl (ih_43 (i2 + 1) (nI (cb Pq (4 * i1 + i2))) (by omega) (XB.t' hxb (by omega) (by omega) (by omega) (by omega) hP_27) (by omega)))
          exact ww_lv [0, 1, 2, 3, 4, 5, 6, 7] rfl (ww_sub [0, 1, 2, 3, 4] rfl rfl (loop_43 _ 0 (-4) (by omega) (XB.st_n hP_4) (Nat.lt_succ_self _)))
        · have hchx_5 := Nat.le_trans (cb_mono Pq (show 4 * i1 + (cN f_happen e) ≤ _ by omega)) hC
          have hlhx_5 := cb_lt (f := Pq) (show 4 * i1 + (cN f_happen e) < 4 * cN f_manys pa by omega) hP_4
          refine ww_iald (v := (nI (cb Pq (4 * i1 + (cN f_happen e))))) C 4 rfl (vp_in_nI (by omega) (by omega)) (ldn (by omega) hx_5) dX12_broughtBack_37 ?_
          refine ww_istore (lv' := [(6, .int (nI (cb Pq (4 * i1 + (cN f_happen e))))), (5, .int (nI i1)), (4, .int ac), (0, .ref hm), (1, .int (nI e)), (2, .int (nI pa)), (3, .int so)]) C dX12_broughtBack_38 rfl rfl ?_
          refine ww_iconst (v := 0) C dX12_broughtBack_40 rfl ?_
          refine ww_istore (lv' := [(7, .int 0), (6, .int (nI (cb Pq (4 * i1 + (cN f_happen e))))), (5, .int (nI i1)), (4, .int ac), (0, .ref hm), (1, .int (nI e)), (2, .int (nI pa)), (3, .int so)]) C dX12_broughtBack_41 rfl rfl ?_
          have loop_43 : ∀ (fu : Nat) (i2 : Nat) (x2 : Int32), (i2 ≤ cN f_caseMany e) → (XB Pq i1 (cN f_happen e) i2 x2) → cN f_caseMany e - i2 < fu → WW X 8 E 43 [(7, .int (nI i2)), (6, .int x2), (5, .int (nI i1)), (4, .int ac), (0, .ref hm), (1, .int (nI e)), (2, .int (nI pa)), (3, .int so)] [] [(hm, .inr (12, [.ref m_manys, .ref m_reals, .ref m_factsOf, .ref m_possible, .int (nI q_undos), .int (nI q_models), .ref m_tape, .int (nI q_taped), .int q_fault, .int q_wrong, .int q_wrongAt, .int q_spot, .int q_place, .int q_token, .int q_value, .ref m_ends, .ref m_letters, .ref m_actOf, .ref m_whom, .ref m_actMany, .ref m_tokens, .ref m_afters, .ref m_afterOf, .int q_counted, .ref m_pile, .ref m_caseMany, .ref m_happen, .ref m_hasIf, .ref m_becomes, .ref m_goneOf, .ref m_heard, .ref m_pairs, .ref m_heaps, .int q_rounds, .int q_heapMany, .ref m_led, .ref m_newAt, .ref m_knowing, .ref m_firsts, .int (nI q_people), .ref m_secrets, .ref m_tried, .ref m_lanes, .ref m_lengths, .ref m_cells])), (m_manys, .inl (E.2.1 1, 18, .inl f_manys)), (m_caseMany, .inl (E.2.1 1, 4, .inl f_caseMany)), (m_happen, .inl (E.2.1 1, 4, .inl f_happen)), (m_pairs, .inl (E.2.1 1, 576, .inl f_pairs))] 0 0 := by
            intro fu
            induction fu with
            | zero => intro i2 x2 hi2 hxb hmeas; exact absurd hmeas (Nat.not_lt_zero _)
            | succ fu ih_43 =>
              intro i2 x2 hi2 hxb hmeas
              refine ww_iload C dX12_broughtBack_43 0 rfl ?_
              refine ww_aload_n C dX12_broughtBack_45 4 rfl rfl ?_
              refine ww_get C fg_X12_52 0 rfl rfl dX12_broughtBack_46 ?_
              refine ww_iload_n C dX12_broughtBack_49 5 rfl rfl ?_
              have hbx_29 := (hb_caseMany e (by omega)).2
              refine ww_iald (v := (nI (cN f_caseMany e))) C 2 rfl (vp_in_nI (by omega) (by omega)) (ldn (by omega) (hb_caseMany e (by omega)).1) dX12_broughtBack_50 ?_
              refine ww_icmp_ge (tgt := 86) C dX12_broughtBack_51 (by decide) (fun c_30 => ?_) (fun c_30 => ?_)
              · have zc_30 : ((i2 : Nat) : Int) ≥ ((cN f_caseMany e : Nat) : Int) := i_le (nI_toInt (n := cN f_caseMany e) (by omega)) (nI_toInt (n := i2) (by omega)) c_30
                refine ww_iload C dX12_broughtBack_86 3 rfl ?_
                refine ww_iload C dX12_broughtBack_88 1 rfl ?_
                refine ww_bipush (v := (-4)) C dX12_broughtBack_90 rfl ?_
                refine ww_icmp_eq (tgt := 105) C dX12_broughtBack_92 (by decide) (fun c_31 => ?_) (fun c_31 => ?_)
                · have zc_31 : x2.toInt = (-4) := i_eq rfl rfl c_31
                  refine ww_iconst (v := 1) C dX12_broughtBack_105 rfl ?_
                  refine ww_iload C dX12_broughtBack_106 2 rfl ?_
                  obtain ⟨x_32, ex_32⟩ : ∃ z : Int32, (1 : Int32) <<< ((nI i1) &&& 31) = z := ⟨_, rfl⟩
                  refine ww_ishl (v := x_32) C dX12_broughtBack_108 ex_32 ?_
                  refine ww_goto (tgt := 113) C dX12_broughtBack_109 (by decide) ?_
                  obtain ⟨x_33, ex_33⟩ : ∃ z : Int32, ac ||| x_32 = z := ⟨_, rfl⟩
                  refine ww_ior (v := x_33) C dX12_broughtBack_113 ex_33 ?_
                  refine ww_istore (lv' := [(4, .int x_33), (7, .int (nI i2)), (6, .int x2), (5, .int (nI i1)), (0, .ref hm), (1, .int (nI e)), (2, .int (nI pa)), (3, .int so)]) C dX12_broughtBack_114 rfl rfl ?_
                  refine ww_iinc (j := 3) (v := (nI (i1 + 1))) (lv' := [(5, .int (nI (i1 + 1))), (4, .int x_33), (7, .int (nI i2)), (6, .int x2), (0, .ref hm), (1, .int (nI e)), (2, .int (nI pa)), (3, .int so)]) C dX12_broughtBack_116 rfl (nI_add i1 1) rfl rfl ?_
                  refine ww_goto (tgt := 6) C dX12_broughtBack_119 (by decide) ?_
                  exact ww_lv [0, 1, 4, 5, 6, 7] rfl (ww_sub [0, 1, 2, 3, 4] rfl rfl (ih_6 (i1 + 1) x_33 (by omega) (by first | exact AC.t hac (by omega) (by first | exact vbx_1 hxb (by omega) (by omega) (by omega) (fun j a b => hP4 i1 j (by omega) (by omega) b) | exact vbx_2 hxb (by omega) (by omega) (show 4 * i1 + 4 ≤ 4 * cN f_manys pa by omega) hC (by assumption) (by assumption) (by omega) (decide_eq_true (by omega))) (by assumption) (by assumption) | exact AC.z hac (vbx_2 hxb (by omega) (by omega) (show 4 * i1 + 4 ≤ 4 * cN f_manys pa by omega) hC (by assumption) (by assumption) (by omega) (decide_eq_false (by omega))) (by assumption)) (by omega)))
                · have zc_31 : x2.toInt ≠ (-4) := i_ne rfl rfl c_31
                  refine ww_iload_n C dX12_broughtBack_95 7 rfl rfl ?_
                  refine ww_iload C dX12_broughtBack_96 1 rfl ?_
                  obtain ⟨x_34, ex_34⟩ : ∃ z : Int32, so >>> (x2 &&& 31) = z := ⟨_, rfl⟩
                  refine ww_ishr (v := x_34) C dX12_broughtBack_98 ex_34 ?_
                  refine ww_iconst (v := 1) C dX12_broughtBack_99 rfl ?_
                  obtain ⟨j_35, hj_35, ej_35⟩ := pk_andE x_34 (m := 1) 1 rfl
                  refine ww_iand (v := (nI j_35)) C dX12_broughtBack_100 ej_35 ?_
                  refine ww_iconst (v := 1) C dX12_broughtBack_101 rfl ?_
                  refine ww_icmp_ne (tgt := 112) C dX12_broughtBack_102 (by decide) (fun c_36 => ?_) (fun c_36 => ?_)
                  · have zc_36 : ((j_35 : Nat) : Int) ≠ 1 := i_ne (nI_toInt (n := j_35) (by omega)) rfl c_36
                    refine ww_iconst (v := 0) C dX12_broughtBack_112 rfl ?_
                    obtain ⟨x_37, ex_37⟩ : ∃ z : Int32, ac ||| (0 : Int32) = z := ⟨_, rfl⟩
                    refine ww_ior (v := x_37) C dX12_broughtBack_113 ex_37 ?_
                    refine ww_istore (lv' := [(4, .int x_37), (7, .int (nI i2)), (6, .int x2), (5, .int (nI i1)), (0, .ref hm), (1, .int (nI e)), (2, .int (nI pa)), (3, .int so)]) C dX12_broughtBack_114 rfl rfl ?_
                    refine ww_iinc (j := 3) (v := (nI (i1 + 1))) (lv' := [(5, .int (nI (i1 + 1))), (4, .int x_37), (7, .int (nI i2)), (6, .int x2), (0, .ref hm), (1, .int (nI e)), (2, .int (nI pa)), (3, .int so)]) C dX12_broughtBack_116 rfl (nI_add i1 1) rfl rfl ?_
                    refine ww_goto (tgt := 6) C dX12_broughtBack_119 (by decide) ?_
                    exact ww_lv [0, 1, 4, 5, 6, 7] rfl (ww_sub [0, 1, 2, 3, 4] rfl rfl (ih_6 (i1 + 1) x_37 (by omega) (by first | exact AC.t hac (by omega) (by first | exact vbx_1 hxb (by omega) (by omega) (by omega) (fun j a b => hP4 i1 j (by omega) (by omega) b) | exact vbx_2 hxb (by omega) (by omega) (show 4 * i1 + 4 ≤ 4 * cN f_manys pa by omega) hC (by assumption) (by assumption) (by omega) (decide_eq_true (by omega))) (by assumption) (by assumption) | exact AC.z hac (vbx_2 hxb (by omega) (by omega) (show 4 * i1 + 4 ≤ 4 * cN f_manys pa by omega) hC (by assumption) (by assumption) (by omega) (decide_eq_false (by omega))) (by assumption)) (by omega)))
                  · have zc_36 : ((j_35 : Nat) : Int) = 1 := i_eq (nI_toInt (n := j_35) (by omega)) rfl c_36
                    refine ww_iconst (v := 1) C dX12_broughtBack_105 rfl ?_
                    refine ww_iload C dX12_broughtBack_106 2 rfl ?_
                    obtain ⟨x_38, ex_38⟩ : ∃ z : Int32, (1 : Int32) <<< ((nI i1) &&& 31) = z := ⟨_, rfl⟩
                    refine ww_ishl (v := x_38) C dX12_broughtBack_108 ex_38 ?_
                    refine ww_goto (tgt := 113) C dX12_broughtBack_109 (by decide) ?_
                    obtain ⟨x_39, ex_39⟩ : ∃ z : Int32, ac ||| x_38 = z := ⟨_, rfl⟩
                    refine ww_ior (v := x_39) C dX12_broughtBack_113 ex_39 ?_
                    refine ww_istore (lv' := [(4, .int x_39), (7, .int (nI i2)), (6, .int x2), (5, .int (nI i1)), (0, .ref hm), (1, .int (nI e)), (2, .int (nI pa)), (3, .int so)]) C dX12_broughtBack_114 rfl rfl ?_
                    refine ww_iinc (j := 3) (v := (nI (i1 + 1))) (lv' := [(5, .int (nI (i1 + 1))), (4, .int x_39), (7, .int (nI i2)), (6, .int x2), (0, .ref hm), (1, .int (nI e)), (2, .int (nI pa)), (3, .int so)]) C dX12_broughtBack_116 rfl (nI_add i1 1) rfl rfl ?_
                    refine ww_goto (tgt := 6) C dX12_broughtBack_119 (by decide) ?_
                    exact ww_lv [0, 1, 4, 5, 6, 7] rfl (ww_sub [0, 1, 2, 3, 4] rfl rfl (ih_6 (i1 + 1) x_39 (by omega) (by first | exact AC.t hac (by omega) (by first | exact vbx_1 hxb (by omega) (by omega) (by omega) (fun j a b => hP4 i1 j (by omega) (by omega) b) | exact vbx_2 hxb (by omega) (by omega) (show 4 * i1 + 4 ≤ 4 * cN f_manys pa by omega) hC (by assumption) (by assumption) (by omega) (decide_eq_true (by omega))) (by assumption) (by assumption) | exact AC.z hac (vbx_2 hxb (by omega) (by omega) (show 4 * i1 + 4 ≤ 4 * cN f_manys pa by omega) hC (by assumption) (by assumption) (by omega) (decide_eq_false (by omega))) (by assumption)) (by omega)))
              · have zc_30 : ((i2 : Nat) : Int) < ((cN f_caseMany e : Nat) : Int) := i_nle (nI_toInt (n := cN f_caseMany e) (by omega)) (nI_toInt (n := i2) (by omega)) c_30
                refine ww_iload C dX12_broughtBack_54 1 rfl ?_
                refine ww_bipush (v := (-4)) C dX12_broughtBack_56 rfl ?_
                refine ww_icmp_ne (tgt := 86) C dX12_broughtBack_58 (by decide) (fun c_40 => ?_) (fun c_40 => ?_)
                · have zc_40 : x2.toInt ≠ (-4) := i_ne rfl rfl c_40
                  refine ww_iload C dX12_broughtBack_86 3 rfl ?_
                  refine ww_iload C dX12_broughtBack_88 1 rfl ?_
                  refine ww_bipush (v := (-4)) C dX12_broughtBack_90 rfl ?_
                  refine ww_icmp_eq (tgt := 105) C dX12_broughtBack_92 (by decide) (fun c_41 => ?_) (fun c_41 => ?_)
                  · have zc_41 : x2.toInt = (-4) := i_eq rfl rfl c_41
                    refine ww_iconst (v := 1) C dX12_broughtBack_105 rfl ?_
                    refine ww_iload C dX12_broughtBack_106 2 rfl ?_
                    obtain ⟨x_42, ex_42⟩ : ∃ z : Int32, (1 : Int32) <<< ((nI i1) &&& 31) = z := ⟨_, rfl⟩
                    refine ww_ishl (v := x_42) C dX12_broughtBack_108 ex_42 ?_
                    refine ww_goto (tgt := 113) C dX12_broughtBack_109 (by decide) ?_
                    obtain ⟨x_43, ex_43⟩ : ∃ z : Int32, ac ||| x_42 = z := ⟨_, rfl⟩
                    refine ww_ior (v := x_43) C dX12_broughtBack_113 ex_43 ?_
                    refine ww_istore (lv' := [(4, .int x_43), (7, .int (nI i2)), (6, .int x2), (5, .int (nI i1)), (0, .ref hm), (1, .int (nI e)), (2, .int (nI pa)), (3, .int so)]) C dX12_broughtBack_114 rfl rfl ?_
                    refine ww_iinc (j := 3) (v := (nI (i1 + 1))) (lv' := [(5, .int (nI (i1 + 1))), (4, .int x_43), (7, .int (nI i2)), (6, .int x2), (0, .ref hm), (1, .int (nI e)), (2, .int (nI pa)), (3, .int so)]) C dX12_broughtBack_116 rfl (nI_add i1 1) rfl rfl ?_
                    refine ww_goto (tgt := 6) C dX12_broughtBack_119 (by decide) ?_
                    exact ww_lv [0, 1, 4, 5, 6, 7] rfl (ww_sub [0, 1, 2, 3, 4] rfl rfl (ih_6 (i1 + 1) x_43 (by omega) (by first | exact AC.t hac (by omega) (by first | exact vbx_1 hxb (by omega) (by omega) (by omega) (fun j a b => hP4 i1 j (by omega) (by omega) b) | exact vbx_2 hxb (by omega) (by omega) (show 4 * i1 + 4 ≤ 4 * cN f_manys pa by omega) hC (by assumption) (by assumption) (by omega) (decide_eq_true (by omega))) (by assumption) (by assumption) | exact AC.z hac (vbx_2 hxb (by omega) (by omega) (show 4 * i1 + 4 ≤ 4 * cN f_manys pa by omega) hC (by assumption) (by assumption) (by omega) (decide_eq_false (by omega))) (by assumption)) (by omega)))
                  · have zc_41 : x2.toInt ≠ (-4) := i_ne rfl rfl c_41
                    refine ww_iload_n C dX12_broughtBack_95 7 rfl rfl ?_
                    refine ww_iload C dX12_broughtBack_96 1 rfl ?_
                    obtain ⟨x_44, ex_44⟩ : ∃ z : Int32, so >>> (x2 &&& 31) = z := ⟨_, rfl⟩
                    refine ww_ishr (v := x_44) C dX12_broughtBack_98 ex_44 ?_
                    refine ww_iconst (v := 1) C dX12_broughtBack_99 rfl ?_
                    obtain ⟨j_45, hj_45, ej_45⟩ := pk_andE x_44 (m := 1) 1 rfl
                    refine ww_iand (v := (nI j_45)) C dX12_broughtBack_100 ej_45 ?_
                    refine ww_iconst (v := 1) C dX12_broughtBack_101 rfl ?_
                    refine ww_icmp_ne (tgt := 112) C dX12_broughtBack_102 (by decide) (fun c_46 => ?_) (fun c_46 => ?_)
                    · have zc_46 : ((j_45 : Nat) : Int) ≠ 1 := i_ne (nI_toInt (n := j_45) (by omega)) rfl c_46
                      refine ww_iconst (v := 0) C dX12_broughtBack_112 rfl ?_
                      obtain ⟨x_47, ex_47⟩ : ∃ z : Int32, ac ||| (0 : Int32) = z := ⟨_, rfl⟩
                      refine ww_ior (v := x_47) C dX12_broughtBack_113 ex_47 ?_
                      refine ww_istore (lv' := [(4, .int x_47), (7, .int (nI i2)), (6, .int x2), (5, .int (nI i1)), (0, .ref hm), (1, .int (nI e)), (2, .int (nI pa)), (3, .int so)]) C dX12_broughtBack_114 rfl rfl ?_
                      refine ww_iinc (j := 3) (v := (nI (i1 + 1))) (lv' := [(5, .int (nI (i1 + 1))), (4, .int x_47), (7, .int (nI i2)), (6, .int x2), (0, .ref hm), (1, .int (nI e)), (2, .int (nI pa)), (3, .int so)]) C dX12_broughtBack_116 rfl (nI_add i1 1) rfl rfl ?_
                      refine ww_goto (tgt := 6) C dX12_broughtBack_119 (by decide) ?_
                      exact ww_lv [0, 1, 4, 5, 6, 7] rfl (ww_sub [0, 1, 2, 3, 4] rfl rfl (ih_6 (i1 + 1) x_47 (by omega) (by first | exact AC.t hac (by omega) (by first | exact vbx_1 hxb (by omega) (by omega) (by omega) (fun j a b => hP4 i1 j (by omega) (by omega) b) | exact vbx_2 hxb (by omega) (by omega) (show 4 * i1 + 4 ≤ 4 * cN f_manys pa by omega) hC (by assumption) (by assumption) (by omega) (decide_eq_true (by omega))) (by assumption) (by assumption) | exact AC.z hac (vbx_2 hxb (by omega) (by omega) (show 4 * i1 + 4 ≤ 4 * cN f_manys pa by omega) hC (by assumption) (by assumption) (by omega) (decide_eq_false (by omega))) (by assumption)) (by omega)))
                    · have zc_46 : ((j_45 : Nat) : Int) = 1 := i_eq (nI_toInt (n := j_45) (by omega)) rfl c_46
                      refine ww_iconst (v := 1) C dX12_broughtBack_105 rfl ?_
                      refine ww_iload C dX12_broughtBack_106 2 rfl ?_
                      obtain ⟨x_48, ex_48⟩ : ∃ z : Int32, (1 : Int32) <<< ((nI i1) &&& 31) = z := ⟨_, rfl⟩
                      refine ww_ishl (v := x_48) C dX12_broughtBack_108 ex_48 ?_
                      refine ww_goto (tgt := 113) C dX12_broughtBack_109 (by decide) ?_
                      obtain ⟨x_49, ex_49⟩ : ∃ z : Int32, ac ||| x_48 = z := ⟨_, rfl⟩
                      refine ww_ior (v := x_49) C dX12_broughtBack_113 ex_49 ?_
                      refine ww_istore (lv' := [(4, .int x_49), (7, .int (nI i2)), (6, .int x2), (5, .int (nI i1)), (0, .ref hm), (1, .int (nI e)), (2, .int (nI pa)), (3, .int so)]) C dX12_broughtBack_114 rfl rfl ?_
                      refine ww_iinc (j := 3) (v := (nI (i1 + 1))) (lv' := [(5, .int (nI (i1 + 1))), (4, .int x_49), (7, .int (nI i2)), (6, .int x2), (0, .ref hm), (1, .int (nI e)), (2, .int (nI pa)), (3, .int so)]) C dX12_broughtBack_116 rfl (nI_add i1 1) rfl rfl ?_
                      refine ww_goto (tgt := 6) C dX12_broughtBack_119 (by decide) ?_
                      exact ww_lv [0, 1, 4, 5, 6, 7] rfl (ww_sub [0, 1, 2, 3, 4] rfl rfl (ih_6 (i1 + 1) x_49 (by omega) (by first | exact AC.t hac (by omega) (by first | exact vbx_1 hxb (by omega) (by omega) (by omega) (fun j a b => hP4 i1 j (by omega) (by omega) b) | exact vbx_2 hxb (by omega) (by omega) (show 4 * i1 + 4 ≤ 4 * cN f_manys pa by omega) hC (by assumption) (by assumption) (by omega) (decide_eq_true (by omega))) (by assumption) (by assumption) | exact AC.z hac (vbx_2 hxb (by omega) (by omega) (show 4 * i1 + 4 ≤ 4 * cN f_manys pa by omega) hC (by assumption) (by assumption) (by omega) (decide_eq_false (by omega))) (by assumption)) (by omega)))
                · have zc_40 : x2.toInt = (-4) := i_eq rfl rfl c_40
                  refine ww_aload_n C dX12_broughtBack_61 4 rfl rfl ?_
                  refine ww_get C fg_X12_71 0 rfl rfl dX12_broughtBack_62 ?_
                  refine ww_bipush (v := 96) C dX12_broughtBack_65 rfl ?_
                  refine ww_iload_n C dX12_broughtBack_67 6 rfl rfl ?_
                  refine ww_imul (v := (nI (96 * pa))) C dX12_broughtBack_68 (pk_mul 96 pa) ?_
                  refine ww_iconst (v := 4) C dX12_broughtBack_69 rfl ?_
                  refine ww_iload C dX12_broughtBack_70 2 rfl ?_
                  refine ww_imul (v := (nI (4 * i1))) C dX12_broughtBack_72 (pk_mul 4 i1) ?_
                  refine ww_iadd (v := (nI ((96 * pa) + (4 * i1)))) C dX12_broughtBack_73 (nI_add (96 * pa) (4 * i1)) ?_
                  refine ww_iload C dX12_broughtBack_74 0 rfl ?_
                  refine ww_iadd (v := (nI (((96 * pa) + (4 * i1)) + i2))) C dX12_broughtBack_76 (nI_add ((96 * pa) + (4 * i1)) i2) ?_
                  rcases PRF.or (w := i1) (i := i2) hPF (by omega) (by omega) with ⟨hP_50, hx_51⟩ | ⟨hP_50, hx_51⟩
                  · refine ww_iald (v := (-4)) C 4 rfl (vp_in_nI (by omega) (by omega)) (ldn (by omega) hx_51) dX12_broughtBack_77 ?_
                    refine ww_istore (lv' := [(6, .int (-4)), (7, .int (nI i2)), (5, .int (nI i1)), (4, .int ac), (0, .ref hm), (1, .int (nI e)), (2, .int (nI pa)), (3, .int so)]) C dX12_broughtBack_78 rfl rfl ?_
                    refine ww_iinc (j := 1) (v := (nI (i2 + 1))) (lv' := [(7, .int (nI (i2 + 1))), (6, .int (-4)), (5, .int (nI i1)), (4, .int ac), (0, .ref hm), (1, .int (nI e)), (2, .int (nI pa)), (3, .int so)]) C dX12_broughtBack_80 rfl (nI_add i2 1) rfl rfl ?_
                    refine ww_goto (tgt := 43) C dX12_broughtBack_83 (by decide) ?_
                    exact ww_lv [0, 1, 2, 3, 4, 5, 6, 7] rfl (ww_sub [0, 1, 2, 3, 4] rfl rfl (ih_43 (i2 + 1) (-4) (by omega) (XB.n' hxb (by omega) hP_50) (by omega)))
                  · have hchx_51 := Nat.le_trans (cb_mono Pq (show 4 * i1 + i2 ≤ _ by omega)) hC
                    have hlhx_51 := cb_lt (f := Pq) (show 4 * i1 + i2 < 4 * cN f_manys pa by omega) hP_50
                    refine ww_iald (v := (nI (cb Pq (4 * i1 + i2)))) C 4 rfl (vp_in_nI (by omega) (by omega)) (ldn (by omega) hx_51) dX12_broughtBack_77 ?_
                    refine ww_istore (lv' := [(6, .int (nI (cb Pq (4 * i1 + i2)))), (7, .int (nI i2)), (5, .int (nI i1)), (4, .int ac), (0, .ref hm), (1, .int (nI e)), (2, .int (nI pa)), (3, .int so)]) C dX12_broughtBack_78 rfl rfl ?_
                    refine ww_iinc (j := 1) (v := (nI (i2 + 1))) (lv' := [(7, .int (nI (i2 + 1))), (6, .int (nI (cb Pq (4 * i1 + i2)))), (5, .int (nI i1)), (4, .int ac), (0, .ref hm), (1, .int (nI e)), (2, .int (nI pa)), (3, .int so)]) C dX12_broughtBack_80 rfl (nI_add i2 1) rfl rfl ?_
                    refine ww_goto (tgt := 43) C dX12_broughtBack_83 (by decide) ?_
                    exact ww_lv [0, 1, 2, 3, 4, 5, 6, 7] rfl (ww_sub [0, 1, 2, 3, 4] rfl rfl (ih_43 (i2 + 1) (nI (cb Pq (4 * i1 + i2))) (by omega) (XB.t' hxb (by omega) (by omega) (by omega) (by omega) hP_50) (by omega)))
          exact ww_lv [0, 1, 2, 3, 4, 5, 6, 7] rfl (ww_sub [0, 1, 2, 3, 4] rfl rfl (loop_43 _ 0 (nI (cb Pq (4 * i1 + (cN f_happen e)))) (by omega) (XB.st_t (by omega) hP_4) (Nat.lt_succ_self _)))
  exact ww_lv [0, 1, 2, 3, 4, 5] rfl (ww_sub [0, 1, 2, 3, 4] rfl rfl (loop_6 _ 0 0 (by omega) AC.nil (Nat.lt_succ_self _)))
end
