/-! the reference's events by value -/
def rS (fm fa fw : Nat → Int32) (s : Nat) : SVal := (cN fm s, rO fa s, rA fa fw s, fun _ => 0, 0, 0, 0, 0)
def cOp (fI fm fa fw : Nat → Int32) (c : Nat) : Option SVal := if fI c = 0 then none else some (rS fm fa fw (8 + c))
def rEv (fc fh fI fm fa fw fb fg fd : Nat → Int32) : Nat → EVl := fun e => (cN fc e, cN fh e, fun c => cOp fI fm fa fw (4 * e + c), fun c => fb (4 * e + c), fun c => fg (4 * e + c), fun q => fd (16 * e + q))
def rT (fm fa fw fo fn : Nat → Int32) (k : Nat) : SVal := (cN fm k, rO fa k, rA fa fw k, fun a => fo (2 * k + a), 0, 0, 0, cN fn k)
def WHI (fI fm fa fw : Nat → Int32) : Prop := ∀ c, c < 16 → fI c ≠ 0 → WHs (cN fm (8 + c)) fa fw (8 + c)
theorem can_n {m : AM} {fI fm fa fw : Nat → Int32} {c : Nat} {x r : Int32} (e : fI c = x) (h : x.toInt = 0) (hr : BS r (vAll m)) : BS r (canE m (cOp fI fm fa fw c)) := by
  unfold cOp; rw [if_pos (by rw [e]; exact i_z h)]; exact hr
theorem can_s {m : AM} {fI fm fa fw : Nat → Int32} {c s : Nat} {x r : Int32} (e : fI c = x) (h : x.toInt ≠ 0) (hs : s = 8 + c) (hr : BS r (vPl m (cN fm s) (rO fa s) (rA fa fw s))) : BS r (canE m (cOp fI fm fa fw c)) := by
  subst hs
  unfold cOp; rw [if_neg (by rw [e]; exact i_nz h)]; exact hr
theorem WHI.at {fI fm fa fw : Nat → Int32} {c s : Nat} {x : Int32} (h : WHI fI fm fa fw) (hc : c < 16) (e : fI c = x) (hx : x.toInt ≠ 0) (hs : s = 8 + c) : WHs (cN fm s) fa fw s := by
  subst hs; exact h c hc (by rw [e]; exact i_nz hx)
/-! the pairs, as the reference numbers them -/
section PRS
variable {P : Nat → Bool} {n cs pg : Nat} {pr pr' : Nat → Int32}
def PRF (P : Nat → Bool) (n cs pg : Nat) (pr : Nat → Int32) : Prop := ∀ w i, w < n → i < cs → pr (96 * pg + 4 * w + i) = if P (4 * w + i) = true then nI (cb P (4 * w + i)) else -4
def PRZ (P : Nat → Bool) (n cs pg i1 w1 : Nat) (pr : Nat → Int32) : Prop := ∀ w i, w < n → i < cs → (i < i1 ∨ i = i1 ∧ w < w1) → pr (96 * pg + 4 * w + i) = if P (4 * w + i) = true then 0 else -4
def PRM (P : Nat → Bool) (n cs pg p : Nat) (pr : Nat → Int32) : Prop := ∀ w i, w < n → i < cs → pr (96 * pg + 4 * w + i) = if P (4 * w + i) = true then (if 4 * w + i < p then nI (cb P (4 * w + i)) else 0) else -4
theorem PRZ.nil : PRZ P n cs pg 0 0 pr := fun w i _ _ h => absurd h (by omega)
theorem PRZ.up {i1 w1 : Nat} (h : PRZ P n cs pg i1 w1 pr) (e : w1 = n) : PRZ P n cs pg (i1 + 1) 0 pr := fun w i a b c => h w i a b (by omega)
theorem PRZ.ext {i1 w1 : Nat} {x : Int32} (h : PRZ P n cs pg i1 w1 pr) (hcs : cs ≤ 4) (hi : i1 < 4) (hx : x = if P (4 * w1 + i1) = true then 0 else -4) (e : upd pr (96 * pg + 4 * w1 + i1) x = pr') : PRZ P n cs pg i1 (w1 + 1) pr' := fun w i a b c => by
  rw [← e]
  by_cases q : 96 * pg + 4 * w + i = 96 * pg + 4 * w1 + i1
  · have e1 : w = w1 := by omega
    have e2 : i = i1 := by omega
    rw [q, pk_us, e1, e2]; exact hx
  · rw [pk_un q]; exact h w i a b (by omega)
theorem PRZ.m {i1 : Nat} (h : PRZ P n cs pg i1 0 pr) (e : i1 = cs) : PRM P n cs pg 0 pr := fun w i a b => by
  rw [h w i a b (by omega), if_neg (show ¬ 4 * w + i < 0 by omega)]
theorem PRM.at_n {p w i : Nat} {x : Int32} (h : PRM P n cs pg p pr) (hn : n ≤ 24) (hcs : cs ≤ 4) (hw : w < n) (hi : i < cs) (ex : pr (96 * pg + 4 * w + i) = x) (hx : x.toInt = -4) : P (4 * w + i) = false := by
  have h1 := h w i hw hi
  have h2 := cb_le P (4 * w + i)
  rw [ex] at h1
  cases hP : P (4 * w + i) with
  | false => rfl
  | true =>
    rw [hP, if_pos rfl] at h1
    by_cases q : 4 * w + i < p
    · rw [if_pos q] at h1; rw [h1, nI_toInt (by omega)] at hx; omega
    · rw [if_neg q] at h1; rw [h1] at hx; exact absurd hx (by decide)
theorem PRM.at_t {p w i : Nat} {x : Int32} (h : PRM P n cs pg p pr) (hw : w < n) (hi : i < cs) (ex : pr (96 * pg + 4 * w + i) = x) (hx : x.toInt ≠ -4) : P (4 * w + i) = true := by
  have h1 := h w i hw hi
  rw [ex] at h1
  cases hP : P (4 * w + i) with
  | true => rfl
  | false =>
    rw [hP, if_neg Bool.false_ne_true] at h1
    rw [h1] at hx; exact absurd (by decide) hx
theorem PRM.t {p w i m : Nat} (h : PRM P n cs pg p pr) (hcs : cs ≤ 4) (hp : p = 4 * w + i) (hi : i < 4) (hP : P (4 * w + i) = true) (hm : m = cb P p) (e : upd pr (96 * pg + 4 * w + i) (nI m) = pr') : PRM P n cs pg (p + 1) pr' := fun w' i' a b => by
  rw [← e]
  by_cases q : 96 * pg + 4 * w' + i' = 96 * pg + 4 * w + i
  · have e1 : w' = w := by omega
    have e2 : i' = i := by omega
    rw [q, pk_us, e1, e2, if_pos hP, if_pos (show 4 * w + i < p + 1 by omega), hm, hp]
  · rw [pk_un q, h w' i' a b]
    by_cases z : 4 * w' + i' < p
    · rw [if_pos z, if_pos (show 4 * w' + i' < p + 1 by omega)]
    · rw [if_neg z, if_neg (show ¬ 4 * w' + i' < p + 1 by omega)]
theorem PRM.fs {p q : Nat} (h : PRM P n cs pg p pr) (hpq : p ≤ q) (hP : ∀ v, p ≤ v → v < q → P v = false) : PRM P n cs pg q pr := fun w i a b => by
  rw [h w i a b]
  cases hc : P (4 * w + i) with
  | false => rfl
  | true =>
    have h0 : ¬ (p ≤ 4 * w + i ∧ 4 * w + i < q) := fun z => by rw [hP _ z.1 z.2] at hc; cases hc
    rw [if_pos rfl, if_pos rfl]
    by_cases z : 4 * w + i < p
    · rw [if_pos z, if_pos (show 4 * w + i < q by omega)]
    · rw [if_neg z, if_neg (show ¬ 4 * w + i < q by omega)]
theorem PRM.f {p w i : Nat} (h : PRM P n cs pg p pr) (hp : p = 4 * w + i) (hP : P (4 * w + i) = false) : PRM P n cs pg (p + 1) pr := h.fs (by omega) (fun v a b => by rw [show v = 4 * w + i by omega]; exact hP)
theorem PRM.fin {p : Nat} (h : PRM P n cs pg p pr) (hp : p = 4 * n) (hcs : cs ≤ 4) : PRF P n cs pg pr := fun w i a b => by
  rw [h w i a b, if_pos (show 4 * w + i < p by omega)]
theorem PRF.or {w i : Nat} (h : PRF P n cs pg pr) (hw : w < n) (hi : i < cs) : (P (4 * w + i) = false ∧ pr (96 * pg + 4 * w + i) = -4) ∨ (P (4 * w + i) = true ∧ pr (96 * pg + 4 * w + i) = nI (cb P (4 * w + i))) := by
  rw [h w i hw hi]
  cases hP : P (4 * w + i) with
  | false => exact Or.inl ⟨rfl, rfl⟩
  | true => exact Or.inr ⟨rfl, rfl⟩
end PRS
/-! rows of the layer -/
section BXS
variable {P R : Nat → Bool} {N i : Nat} {x y z : Int32}
def BXx (P R : Nat → Bool) (N i : Nat) (x : Int32) : Prop := BS x (fun q => decide (q < cb P i) && R (nth P N q))
theorem BXx.nil : BXx P R N 0 0 := BS.z.cg (fun q _ => by
  show false = (decide (q < 0) && R (nth P N q))
  rw [decide_eq_false (Nat.not_lt_zero q), Bool.false_and])
theorem BXx.fs {j : Nat} (h : BXx P R N i x) (hij : i ≤ j) (hP : ∀ p, i ≤ p → p < j → P p = false) : BXx P R N j x := by unfold BXx; rw [cb_flat hij hP]; exact h
theorem BXx.f (h : BXx P R N i x) (hP : P i = false) (e : x ||| (0 : Int32) = z) : BXx P R N (i + 1) z := by unfold BXx; rw [or0 e, cb_f hP]; exact h
theorem BXx.n (h : BXx P R N i x) (hi : i < N) (hP : P i = true) (hR : R i = false) (e : x ||| (0 : Int32) = z) : BXx P R N (i + 1) z := fun q hq => by
  rw [or0 e, h q hq, cb_t hP]
  show (decide (q < cb P i) && R (nth P N q)) = (decide (q < cb P i + 1) && R (nth P N q))
  by_cases w : q = cb P i
  · rw [w, nth_cb hi hP, hR, Bool.and_false, Bool.and_false]
  · rw [dec_cg (show q < cb P i + 1 ↔ q < cb P i by omega)]
theorem BXx.t {t : Nat} (h : BXx P R N i x) (hi : i < N) (h24 : cb P i ≤ 30) (hP : P i = true) (hR : R i = true) (ht : t = cb P i) (ey : (1 : Int32) <<< (nI t &&& 31) = y) (ez : x ||| y = z) : BXx P R N (i + 1) z := fun q hq => by
  rw [← ez, b_or, h q hq, ← ey, ht, one_b h24 q hq, cb_t hP]
  show ((decide (q < cb P i) && R (nth P N q)) || decide (q = cb P i)) = (decide (q < cb P i + 1) && R (nth P N q))
  by_cases w : q = cb P i
  · rw [w, nth_cb hi hP, hR, decide_eq_true rfl, Bool.or_true, decide_eq_true (show cb P i < cb P i + 1 by omega)]; rfl
  · rw [decide_eq_false w, Bool.or_false, dec_cg (show q < cb P i + 1 ↔ q < cb P i by omega)]
end BXS
/-- rows of pairs in their order, knowers within -/
def PRy (P : Nat → Bool) (N i k : Nat) (R : Nat → Nat → Nat → Bool) (g : Nat → Int32) : Prop := ∀ k' p, k' < 4 → p < N → P p = true → (p < i ∨ p = i ∧ k' < k) → BS (g (k' * 24 + cb P p)) (fun j => decide (j < cb P N) && R k' p (nth P N j))
section PRYS
variable {P : Nat → Bool} {N i k : Nat} {R : Nat → Nat → Nat → Bool} {g g' : Nat → Int32}
theorem PRy.nil : PRy P N 0 0 R g := fun k p _ _ _ h => absurd h (by omega)
theorem PRy.up (h : PRy P N i k R g) (e : k = 4) : PRy P N (i + 1) 0 R g := fun k' p a b c d => h k' p a b c (by omega)
theorem PRy.fs {j : Nat} (h : PRy P N i 0 R g) (hij : i ≤ j) (hP : ∀ p, i ≤ p → p < j → P p = false) : PRy P N j 0 R g := fun k' p a b c d => h k' p a b c (by
  rcases Nat.lt_or_ge p i with q | q
  · exact Or.inl q
  · rw [hP p q (by omega)] at c; cases c)
theorem PRy.t {t : Nat} {r : Int32} (h : PRy P N i k R g) (hN : cb P N ≤ 24) (hi : i < N) (hk : k < 4) (hP : P i = true) (ht : t = cb P i) (hr : BS r (fun j => decide (j < cb P N) && R k i (nth P N j))) (e : upd g (k * 24 + t) r = g') : PRy P N i (k + 1) R g' := fun k' p a b c d => by
  have h1 := cb_lt (f := P) b c
  have h2 := cb_lt (f := P) hi hP
  rw [← e]
  by_cases q : k' * 24 + cb P p = k * 24 + t
  · have e1 : k' = k := by omega
    have e2 : p = i := cb_inj c hP (by omega)
    rw [q, pk_us, e1, e2]; exact hr
  · rw [pk_un q]
    refine h k' p a b c ?_
    rcases d with d | d
    · exact Or.inl d
    · right
      refine ⟨d.1, ?_⟩
      rcases Nat.lt_or_ge k' k with z | z
      · exact z
      · exfalso; apply q; rw [d.1]; have : k' = k := by omega
        rw [this, ht]
end PRYS
/-! what was before -/
def XB (P : Nat → Bool) (w rc i : Nat) (x : Int32) : Prop := (x = -4 ∧ P (4 * w + rc) = false ∧ ∀ j, j < i → P (4 * w + j) = false) ∨ (x = nI (bcm P w rc) ∧ ∃ j, j < 4 ∧ P (4 * w + j) = true)
section XBS
variable {P : Nat → Bool} {w rc i : Nat} {x : Int32}
theorem bcm_le (hw : w < 24) (hrc : rc < 4) : bcm P w rc < 100 := by
  unfold bcm
  have h1 := cb_le P (4 * w + rc)
  have h2 := cb_le P (4 * w)
  split <;> omega
theorem m4_no (hw : w < 24) (hrc : rc < 4) (h : (-4 : Int32) = nI (bcm P w rc)) : False := by
  have h1 := congrArg Int32.toInt h
  have h2 := bcm_le (P := P) hw hrc
  rw [nI_toInt (by omega)] at h1
  have h3 : (-4 : Int32).toInt = -4 := rfl
  omega
theorem XB.st_n (hP : P (4 * w + rc) = false) : XB P w rc 0 (-4) := Or.inl ⟨rfl, hP, fun j h => absurd h (Nat.not_lt_zero _)⟩
theorem XB.st_t (hrc : rc < 4) (hP : P (4 * w + rc) = true) : XB P w rc 0 (nI (cb P (4 * w + rc))) := Or.inr ⟨by unfold bcm; rw [if_pos hP], rc, hrc, hP⟩
theorem XB.n (h : XB P w rc i (-4)) (hP : P (4 * w + i) = false) : XB P w rc (i + 1) (-4) := h.imp (fun q => ⟨rfl, q.2.1, fun j hj => by
  by_cases z : j = i
  · rw [z]; exact hP
  · exact q.2.2 j (by omega)⟩) id
theorem XB.t (h : XB P w rc i (-4)) (hw : w < 24) (hrc : rc < 4) (hi : i < 4) (hP : P (4 * w + i) = true) : XB P w rc (i + 1) (nI (cb P (4 * w + i))) := by
  rcases h with ⟨-, h1, h2⟩ | ⟨h1, -⟩
  · right
    refine ⟨?_, i, hi, hP⟩
    unfold bcm
    rw [if_neg (by rw [h1]; exact Bool.false_ne_true), cb_flat (i := 4 * w) (j := 4 * w + i) (by omega) (fun p a b => by rw [show p = 4 * w + (p - 4 * w) by omega]; exact h2 _ (by omega))]
  · exact absurd h1 (fun z => m4_no hw hrc z)
def VBK (P T : Nat → Bool) (rc w : Nat) : Bool := decide (cb P (4 * w + 4) = cb P (4 * w)) || T (bcm P w rc)
theorem vb_1 {T : Nat → Bool} (h1 : ∀ j, j < i → P (4 * w + j) = false) (hi : ∀ j, i ≤ j → j < 4 → P (4 * w + j) = false) : VBK P T rc w = true := by
  unfold VBK
  rw [decide_eq_true (cb_flat (by omega) (fun p a b => by
    rw [show p = 4 * w + (p - 4 * w) by omega]
    rcases Nat.lt_or_ge (p - 4 * w) i with q | q
    · exact h1 _ q
    · exact hi _ q (by omega)))]; rfl
theorem vb_2 {T : Nat → Bool} (h : ∃ j, j < 4 ∧ P (4 * w + j) = true) : VBK P T rc w = T (bcm P w rc) := by
  obtain ⟨j, hj, hP⟩ := h
  unfold VBK
  have h1 := cb_lt (f := P) (n := 4 * w + 4) (show 4 * w + j < 4 * w + 4 by omega) hP
  have h2 := cb_mono P (show 4 * w ≤ 4 * w + j by omega)
  rw [decide_eq_false (by omega), Bool.false_or]
end XBS
theorem vb_bs {m : AM} {ev : EVl} {T : Nat → Bool} {x : Int32} (h : BS x (fun w => decide (w < m.1) && VBK (lyP m ev) T ev.2.1 w)) : BS x (vBack m ev T) := h
theorem m4_of {x : Int32} (h : x.toInt = -4) : x = -4 := Int32.toInt_inj.mp h
theorem XB.n' {P : Nat → Bool} {w rc i : Nat} {x : Int32} (h : XB P w rc i x) (hx : x.toInt = -4) (hP : P (4 * w + i) = false) : XB P w rc (i + 1) (-4) := XB.n (by rw [← m4_of hx]; exact h) hP
theorem XB.t' {P : Nat → Bool} {w rc i : Nat} {x : Int32} (h : XB P w rc i x) (hx : x.toInt = -4) (hw : w < 24) (hrc : rc < 4) (hi : i < 4) (hP : P (4 * w + i) = true) : XB P w rc (i + 1) (nI (cb P (4 * w + i))) := XB.t (by rw [← m4_of hx]; exact h) hw hrc hi hP
theorem vbx_1 {P T : Nat → Bool} {w rc i : Nat} {x : Int32} (h : XB P w rc i x) (hx : x.toInt = -4) (hw : w < 24) (hrc : rc < 4) (hi : ∀ j, i ≤ j → j < 4 → P (4 * w + j) = false) : VBK P T rc w = true := by
  rcases h with ⟨h1, h2, h3⟩ | ⟨h1, h2⟩
  · exact vb_1 h3 hi
  · rw [m4_of hx] at h1; exact absurd h1 (fun z => m4_no hw hrc z)
theorem vbx_2 {P : Nat → Bool} {so y : Int32} {w rc i N j : Nat} {x : Int32} {b : Bool} (h : XB P w rc i x) (hx : x.toInt ≠ -4) (hrc : rc < 4) (hN : 4 * w + 4 ≤ N) (hC : cb P N ≤ 24) (e1 : so >>> (x &&& 31) = y) (e2 : y &&& 1 = nI j) (hj : j < 2) (hb : decide (j = 1) = b) : VBK P (bt so) rc w = b := by
  rcases h with ⟨h1, h2, h3⟩ | ⟨h1, h2⟩
  · rw [h1] at hx; exact absurd (by decide) hx
  · subst h1
    have h3 := bcm_lt (P := P) (w := w) (N := N) hrc hN
    rw [vb_2 h2, ← hb]
    rcases (show j = 0 ∨ j = 1 by omega) with q | q
    · rw [hasb_0 (by omega) e1 e2 q, q]; rfl
    · rw [hasb_1 (by omega) e1 e2 q, q]; rfl
theorem rb_1 {r h : Int32} {u j : Nat} (hj : j < 4) (h1 : bt r u = true) (h2 : bt h j = true) : (bt r ((4 * u + j) / 4) && bt h ((4 * u + j) % 4)) = true := by
  rw [show (4 * u + j) / 4 = u by omega, show (4 * u + j) % 4 = j by omega, h1, h2]; rfl
theorem rb_a {r h : Int32} {u j : Nat} (hj : j < 4) (h1 : bt r u = false) : (bt r ((4 * u + j) / 4) && bt h ((4 * u + j) % 4)) = false := by
  rw [show (4 * u + j) / 4 = u by omega, h1]; rfl
theorem rb_b {r h : Int32} {u j : Nat} (hj : j < 4) (h2 : bt h j = false) : (bt r ((4 * u + j) / 4) && bt h ((4 * u + j) % 4)) = false := by
  rw [show (4 * u + j) % 4 = j by omega, h2, Bool.and_false]
theorem ly_bit {m : AM} {ev : EVl} {w i : Nat} {s : Int32} {b : Bool} (h : BS s (canE m (ev.2.2.1 i))) (hw : w < m.1) (hi : i < ev.1) (h4 : i < 4) (h32 : w < 32) (hb : bt s w = b) : lyP m ev (4 * w + i) = b := by
  rw [lyP_at h4, decide_eq_true hw, decide_eq_true hi, Bool.true_and, Bool.true_and, ← h w h32, hb]
theorem ly_x1 {P : Nat → Bool} {p : Nat} (h : P p = true) : (0 : Int32) = if P p = true then 0 else -4 := by rw [if_pos h]
theorem ly_x0 {P : Nat → Bool} {p : Nat} (h : P p = false) : (-4 : Int32) = if P p = true then 0 else -4 := by rw [if_neg (by rw [h]; exact Bool.false_ne_true)]
section LYR
variable {fm fr ff fp : Nat → Int32} {pa : Nat} {ev : EVl}
theorem lyF_r {fb fg : Nat → Int32} {w i : Nat} {a b c d g x : Int32} (h1 : ev.2.2.2.1 i = fb i) (h2 : ev.2.2.2.2.1 i = fg i) (hw : w < cN fm pa) (hi : i < 4) (e1 : ff (24 * pa + w) = a) (e2 : fg i = b) (e3 : b ^^^ (-1 : Int32) = c) (e4 : a &&& c = d) (e5 : fb i = g) (e6 : d ||| g = x) : x = lyF (pgs fm fr ff fp pa) ev (4 * w + i) := by
  show x = chg ev.2.2.2.1 ev.2.2.2.2.1 ((pgs fm fr ff fp pa).2.2.1 ((4 * w + i) / 4)) ((4 * w + i) % 4)
  rw [show (4 * w + i) / 4 = w by omega, show (4 * w + i) % 4 = i by omega, pg_F hw, e1]
  unfold chg
  rw [h1, h2, e2, e3, e4, e5, e6]
theorem both_ly {P : Nat → Bool} {N k w i : Nat} {r rw_ hd : Int32} (hk : k < 4) (hw : w < cN fm pa) (hi : i < 4) (e1 : fp (96 * pa + 24 * k + w) = rw_) (e2 : ev.2.2.2.2.2 (k * 4 + i) = hd) (h : BS r (fun q => decide (q < cb P N) && (bt rw_ (nth P N q / 4) && bt hd (nth P N q % 4)))) : BS r (fun q => decide (q < cb P N) && lyR (pgs fm fr ff fp pa) ev k (4 * w + i) (nth P N q)) := h.cg (fun q _ => by
  show (decide (q < cb P N) && (bt rw_ (nth P N q / 4) && bt hd (nth P N q % 4))) = (decide (q < cb P N) && ((pgs fm fr ff fp pa).2.2.2 k ((4 * w + i) / 4) (nth P N q / 4) && bt (ev.2.2.2.2.2 (k * 4 + (4 * w + i) % 4)) (nth P N q % 4)))
  rw [show (4 * w + i) / 4 = w by omega, show (4 * w + i) % 4 = i by omega, pg_S hk hw, e1, e2])
theorem pg_lay {fm' fr' ff' fp' : Nat → Int32} (h1 : cN fm' (pa + 1) = cb (lyP (pgs fm fr ff fp pa) ev) (4 * cN fm pa)) (h2 : cN fr' (pa + 1) = if lyP (pgs fm fr ff fp pa) ev (4 * cN fr pa + ev.2.1) = true then cb (lyP (pgs fm fr ff fp pa) ev) (4 * cN fr pa + ev.2.1) else 0) (h24 : cb (lyP (pgs fm fr ff fp pa) ev) (4 * cN fm pa) ≤ 24) (h3 : PFx (lyP (pgs fm fr ff fp pa) ev) (4 * cN fm pa) (lyF (pgs fm fr ff fp pa) ev) (sh (24 * (pa + 1)) ff')) (h4 : PRy (lyP (pgs fm fr ff fp pa) ev) (4 * cN fm pa) (4 * cN fm pa) 0 (lyR (pgs fm fr ff fp pa) ev) (sh (96 * (pa + 1)) fp')) : pgs fm' fr' ff' fp' (pa + 1) = aLay (pgs fm fr ff fp pa) ev := by
  show am (cN fm' (pa + 1)) (cN fr' (pa + 1)) (sh (24 * (pa + 1)) ff') (sh (96 * (pa + 1)) fp') = _
  unfold aLay
  rw [h2]
  exact cmp_am h1 (by omega) h3 (fun k p a b c => h4 k p a b c (Or.inl b))
theorem lay_wf {m : AM} : WFm (aLay m ev) := cmp_wf
end LYR
theorem wf_ff {fm fr ff fp ff' : Nat → Int32} {p : Nat} (h : WFm (pgs fm fr ff fp p)) : WFm (pgs fm fr ff' fp p) := fun k w v hv => h k w v hv
theorem lyC_big {m : AM} {ev : EVl} {p M : Nat} (hM : M = cb (lyP m ev) p) (h24 : 24 ≤ M) (hp : p < 4 * m.1) (hP : lyP m ev p = true) : ¬ lyC m ev ≤ 24 := by
  have h1 := cb_lt (f := lyP m ev) hp hP
  unfold lyC
  omega
theorem ly_0 {m : AM} {ev : EVl} {p : Nat} (h : m.1 = 0) : lyP m ev p = false := by
  unfold lyP; rw [h, decide_eq_false (Nat.not_lt_zero _), Bool.false_and]
