/-! plans -/
def canL (m : AM) (e : EVl) : Bool := lyP m e (4 * m.2.1 + e.2.1) && decide (lyC m e ≤ 24)
def hidO (m : AM) (ev : Nat → EVl) (H : Option SVal) : Bool := match H with
  | none => true
  | some S => vWho m ev S m.2.1
def fstO (f : Nat → Option Nat) : Nat → Option Nat
  | 0 => none
  | n + 1 => match fstO f n with
    | some x => some x
    | none => f n
theorem fstO_s {f : Nat → Option Nat} {i : Nat} (h : fstO f i = none) : fstO f (i + 1) = f i := by
  show (match fstO f i with | some x => some x | none => f i) = f i
  rw [h]
theorem fstO_hit {f : Nat → Option Nat} {i x : Nat} (h : fstO f i = none) (hf : f i = some x) : ∀ d, fstO f (i + 1 + d) = some x
  | 0 => (fstO_s h).trans hf
  | d + 1 => by
    show (match fstO f (i + 1 + d) with | some x => some x | none => f (i + 1 + d)) = some x
    rw [fstO_hit h hf d]
theorem fstO_4 {f : Nat → Option Nat} {i x : Nat} (h : fstO f i = none) (hi : i < 4) (hf : f i = some x) : fstO f 4 = some x := by
  have h1 := fstO_hit h hf (3 - i)
  rw [show i + 1 + (3 - i) = 4 by omega] at h1
  exact h1
def plB (ev : Nat → EVl) (A : SVal) (H : Option SVal) : Nat → AM → Nat → Option Nat
  | 0, m, row => if (hidO m ev H && vWho m ev A m.2.1) = true then some row else none
  | L + 1, m, row => if hidO m ev H = true then fstO (fun i => if canL m (ev i) = true then plB ev A H L (aLay m (ev i)) (row * 10 + i) else none) 4 else none
/-- what one event makes of a row -/
def plE (ev : Nat → EVl) (A : SVal) (H : Option SVal) (L : Nat) (m : AM) (row : Nat) : Nat → Option Nat := fun i => if canL m (ev i) = true then plB ev A H L (aLay m (ev i)) (row * 10 + i) else none
section PL
variable {ev : Nat → EVl} {A : SVal} {H : Option SVal} {m : AM} {row L i x : Nat}
theorem pl_h0 (h : hidO m ev H = false) : plB ev A H L m row = none := by
  cases L with
  | zero => show (if (hidO m ev H && vWho m ev A m.2.1) = true then some row else none) = none; rw [h]; rfl
  | succ L => show (if hidO m ev H = true then _ else none) = none; rw [h]; rfl
theorem pl_01 (h : hidO m ev H = true) (h2 : vWho m ev A m.2.1 = true) (hL : L = 0) : plB ev A H L m row = some row := by
  subst hL
  show (if (hidO m ev H && vWho m ev A m.2.1) = true then some row else none) = some row
  rw [h, h2]; rfl
theorem pl_00 (h2 : vWho m ev A m.2.1 = false) (hL : L = 0) : plB ev A H L m row = none := by
  subst hL
  show (if (hidO m ev H && vWho m ev A m.2.1) = true then some row else none) = none
  rw [h2, Bool.and_false]; rfl
theorem pl_s (h : hidO m ev H = true) (hL : L = i + 1) : plB ev A H L m row = fstO (plE ev A H i m row) 4 := by
  subst hL
  show (if hidO m ev H = true then fstO _ 4 else none) = _
  rw [if_pos h]; rfl
theorem plE_no (h : canL m (ev i) = false) : plE ev A H L m row i = none := by unfold plE; rw [h]; rfl
theorem plE_y (h : canL m (ev i) = true) : plE ev A H L m row i = plB ev A H L (aLay m (ev i)) (row * 10 + i) := by unfold plE; rw [if_pos h]
theorem canL_y {n r cs rc Pp : Nat} {f g : Nat → Int32} {T : Nat → Option SVal} {fb fc fd cf : Nat → Int32} (hM : LYM n (lyP (am n r f g) (cs, rc, T, fb, fc, fd)) cf) (hr : r < n) (hrc : rc < 4) (h : (cN cf r).testBit rc = true) (hP : Pp = lyC (am n r f g) (cs, rc, T, fb, fc, fd)) (h24 : Pp ≤ 24) : canL (am n r f g) (cs, rc, T, fb, fc, fd) = true := by
  unfold canL
  show (lyP (am n r f g) (cs, rc, T, fb, fc, fd) (4 * r + rc) && _) = true
  rw [← hM r rc hr hrc, h, Bool.true_and, decide_eq_true_eq, ← hP]; exact h24
theorem canL_n {n r cs rc : Nat} {f g : Nat → Int32} {T : Nat → Option SVal} {fb fc fd cf : Nat → Int32} (hM : LYM n (lyP (am n r f g) (cs, rc, T, fb, fc, fd)) cf) (hrc : rc < 4) (h : r < n → (cN cf r).testBit rc = false) : canL (am n r f g) (cs, rc, T, fb, fc, fd) = false := by
  unfold canL
  show (lyP (am n r f g) (cs, rc, T, fb, fc, fd) (4 * r + rc) && _) = false
  by_cases q : r < n
  · rw [← hM r rc q hrc, h q, Bool.false_and]
  · rw [lyP_at hrc]
    show ((decide (r < n) && _) && _) = false
    rw [decide_eq_false q, Bool.false_and, Bool.false_and]
theorem canL_m {e : EVl} {Pp : Nat} (hP : Pp = lyC m e) (h : ¬ Pp ≤ 24) : canL m e = false := by
  unfold canL
  rw [decide_eq_false (show ¬ lyC m e ≤ 24 by rw [← hP]; exact h), Bool.and_false]
end PL
def NTD (T : Nat → Option SVal) (k : Int32) : Prop := 0 ≤ k.toInt ∧ k.toInt ≤ 7 ∧ (T (tN k)).isSome = true
/-- what plan answers -/
def PLA (m : AM) (ev : Nat → EVl) (T : Nat → Option SVal) (v0 v1 v2 v3 x : Int32) : Prop :=
  ((¬ NTD T v0 ∨ (v1 ≠ -4 ∧ ¬ NTD T v1) ∨ v2.toInt < 0 ∨ 3 < v2.toInt ∨ v3.toInt < 0 ∨ 1 < v3.toInt) ∧ x = -1) ∨
  ((NTD T v0 ∧ (v1 = -4 ∨ NTD T v1) ∧ 0 ≤ v2.toInt ∧ v2.toInt ≤ 3 ∧ 0 ≤ v3.toInt ∧ v3.toInt ≤ 1) ∧ m.1 = 0 ∧ x = -2) ∨
  ((NTD T v0 ∧ (v1 = -4 ∨ NTD T v1) ∧ 0 ≤ v2.toInt ∧ v2.toInt ≤ 3 ∧ 0 ≤ v3.toInt ∧ v3.toInt ≤ 1) ∧ m.1 ≠ 0 ∧ (((∀ l, l ≤ tN v2 → plB ev ((T (tN v0)).getD sv0) (if v1 = -4 then none else T (tN v1)) l m 1 = none) ∧ x = -4) ∨
    ∃ l row, l ≤ tN v2 ∧ plB ev ((T (tN v0)).getD sv0) (if v1 = -4 then none else T (tN v1)) l m 1 = some row ∧ (∀ k, k < l → plB ev ((T (tN v0)).getD sv0) (if v1 = -4 then none else T (tN v1)) k m 1 = none) ∧ x = if v3.toInt = 0 then nI l else nI row))
/-! rows of events as the reference goes through them -/
def dgt (row l : Nat) : Nat := row / 4 ^ l % 4
theorem dgt_lt {row l : Nat} : dgt row l < 4 := Nat.mod_lt _ (by decide)
theorem dg_tab : ∀ l, l < 3 → ∀ row, row < 64 → (nI row >>> (nI (2 * l) &&& 31)) &&& 3 = nI (dgt row l) := by decide +kernel
theorem dg_of {row l j : Nat} {x : Int32} (hl : l < 3) (hr : row < 64) (e1 : nI row >>> (nI (2 * l) &&& 31) = x) (e2 : x &&& 3 = nI j) (hj : j ≤ 3) : j = dgt row l := by
  have h := dg_tab l hl row hr
  rw [e1, e2] at h
  have h2 := congrArg Int32.toInt h
  have h3 := dgt_lt (row := row) (l := l)
  rw [nI_toInt (by omega), nI_toInt (by omega)] at h2
  omega
section GOB
variable (ev : Nat → EVl) (A : SVal) (H : Option SVal) (d : Nat → Nat)
def gob : Nat → AM → Bool
  | 0, m => hidO m ev H && vWho m ev A m.2.1
  | L + 1, m => hidO m ev H && (canL m (ev (d L)) && gob L (aLay m (ev (d L))))
def figR : Nat → Nat → Nat
  | 0, r => r
  | L + 1, r => figR L (r * 10 + d L)
end GOB
section GOBS
variable {ev : Nat → EVl} {A : SVal} {H : Option SVal} {d d' : Nat → Nat} {m m' : AM} {L r : Nat} {b : Bool}
theorem gob_cg : ∀ {L : Nat} {m : AM}, (∀ l, l < L → d l = d' l) → gob ev A H d L m = gob ev A H d' L m
  | 0, _, _ => rfl
  | L + 1, m, h => by
    show (hidO m ev H && (canL m (ev (d L)) && gob ev A H d L (aLay m (ev (d L))))) = (hidO m ev H && (canL m (ev (d' L)) && gob ev A H d' L (aLay m (ev (d' L)))))
    rw [h L (by omega), gob_cg (fun l hl => h l (by omega))]
theorem figR_cg : ∀ {L r : Nat}, (∀ l, l < L → d l = d' l) → figR d L r = figR d' L r
  | 0, _, _ => rfl
  | L + 1, r, h => by
    show figR d L (r * 10 + d L) = figR d' L (r * 10 + d' L)
    rw [h L (by omega), figR_cg (fun l hl => h l (by omega))]
theorem gob_h (h : hidO m ev H = false) : gob ev A H d L m = false := by
  cases L with
  | zero => show (hidO m ev H && _) = false; rw [h]; rfl
  | succ L => show (hidO m ev H && _) = false; rw [h]; rfl
theorem gob_s {e : Nat} (h : hidO m ev H = true) (he : e = d L) (hc : canL m (ev e) = true) (h2 : m' = aLay m (ev e)) : gob ev A H d (L + 1) m = gob ev A H d L m' := by
  show (hidO m ev H && (canL m (ev (d L)) && gob ev A H d L (aLay m (ev (d L))))) = _
  rw [← he, h, hc, ← h2]; rfl
theorem gob_c {e : Nat} (he : e = d L) (hc : canL m (ev e) = false) : gob ev A H d (L + 1) m = false := by
  show (hidO m ev H && (canL m (ev (d L)) && gob ev A H d L (aLay m (ev (d L))))) = false
  rw [← he, hc, Bool.false_and, Bool.and_false]
theorem gob_0 (h : hidO m ev H = true) (hv : vWho m ev A m.2.1 = b) : gob ev A H d 0 m = b := by
  show (hidO m ev H && vWho m ev A m.2.1) = b
  rw [h, hv, Bool.true_and]
end GOBS
/-! the first of a row of rows -/
theorem fstO_cg {f g : Nat → Option Nat} : ∀ {n : Nat}, (∀ i, i < n → f i = g i) → fstO f n = fstO g n
  | 0, _ => rfl
  | n + 1, h => by
    show (match fstO f n with | some x => some x | none => f n) = (match fstO g n with | some x => some x | none => g n)
    rw [fstO_cg (fun i hi => h i (by omega)), h n (by omega)]
theorem fstO_app {f : Nat → Option Nat} {a : Nat} : ∀ b : Nat, fstO f (a + b) = match fstO f a with
    | some x => some x
    | none => fstO (fun j => f (a + j)) b
  | 0 => by
    show fstO f a = match fstO f a with | some x => some x | none => none
    cases fstO f a <;> rfl
  | b + 1 => by
    show (match fstO f (a + b) with | some x => some x | none => f (a + b)) = match fstO f a with | some x => some x | none => (match fstO (fun j => f (a + j)) b with | some x => some x | none => f (a + b))
    rw [fstO_app b]
    cases fstO f a <;> rfl
theorem fstO_blk {G : Nat → Option Nat} {N : Nat} : ∀ K : Nat, fstO (fun i => fstO (fun j => G (i * N + j)) N) K = fstO G (K * N)
  | 0 => by rw [Nat.zero_mul]; rfl
  | K + 1 => by
    show (match fstO (fun i => fstO (fun j => G (i * N + j)) N) K with | some x => some x | none => fstO (fun j => G (K * N + j)) N) = _
    rw [Nat.succ_mul, fstO_app N, fstO_blk K]
theorem fstO_no {f : Nat → Option Nat} : ∀ {n : Nat}, (∀ i, i < n → f i = none) → fstO f n = none
  | 0, _ => rfl
  | n + 1, h => by rw [fstO_s (fstO_no (fun i hi => h i (by omega)))]; exact h n (by omega)
theorem dgt_top {L i j : Nat} (hi : i < 4) (hj : j < 4 ^ L) : dgt (i * 4 ^ L + j) L = i := by
  unfold dgt
  rw [Nat.mul_comm, Nat.mul_add_div (Nat.pow_pos (by decide)), Nat.div_eq_of_lt hj, Nat.add_zero]
  exact Nat.mod_eq_of_lt hi
theorem dgt_low {L l i j : Nat} (hl : l < L) : dgt (i * 4 ^ L + j) l = dgt j l := by
  unfold dgt
  obtain ⟨t, rfl⟩ : ∃ t, L = l + (t + 1) := ⟨L - l - 1, by omega⟩
  rw [Nat.pow_add, Nat.pow_succ, show i * (4 ^ l * (4 ^ t * 4)) + j = 4 ^ l * (i * 4 ^ t * 4) + j by rw [show i * (4 ^ l * (4 ^ t * 4)) = 4 ^ l * (i * 4 ^ t * 4) by rw [Nat.mul_left_comm]; congr 1; rw [Nat.mul_assoc]], Nat.mul_add_div (Nat.pow_pos (by decide)), Nat.add_comm, Nat.add_mul_mod_self_right]
/-- what one row makes of it -/
def rowO (ev : Nat → EVl) (A : SVal) (H : Option SVal) (L : Nat) (m : AM) (r : Nat) : Nat → Option Nat := fun row => if gob ev A H (dgt row) L m = true then some (figR (dgt row) L r) else none
theorem plB_row {ev : Nat → EVl} {A : SVal} {H : Option SVal} : ∀ (L : Nat) (m : AM) (r : Nat), plB ev A H L m r = fstO (rowO ev A H L m r) (4 ^ L)
  | 0, m, r => rfl
  | L + 1, m, r => by
    have h4 : 4 ^ (L + 1) = 4 * 4 ^ L := by rw [Nat.pow_succ, Nat.mul_comm]
    rw [h4, ← fstO_blk 4]
    show (if hidO m ev H = true then fstO (fun i => if canL m (ev i) = true then plB ev A H L (aLay m (ev i)) (r * 10 + i) else none) 4 else none) = _
    by_cases hh : hidO m ev H = true
    · rw [if_pos hh]
      refine fstO_cg (fun i hi => ?_)
      show (if canL m (ev i) = true then plB ev A H L (aLay m (ev i)) (r * 10 + i) else none) = fstO (fun j => rowO ev A H (L + 1) m r (i * 4 ^ L + j)) (4 ^ L)
      by_cases hc : canL m (ev i) = true
      · rw [if_pos hc, plB_row L]
        refine fstO_cg (fun j hj => ?_)
        unfold rowO
        rw [gob_s hh (dgt_top hi hj).symm hc rfl, gob_cg (d := dgt (i * 4 ^ L + j)) (d' := dgt j) (fun l hl => dgt_low hl)]
        show _ = if _ then some (figR (dgt (i * 4 ^ L + j)) L (r * 10 + dgt (i * 4 ^ L + j) L)) else none
        rw [dgt_top hi hj, figR_cg (d := dgt (i * 4 ^ L + j)) (d' := dgt j) (fun l hl => dgt_low hl)]
      · rw [if_neg hc]
        rw [Bool.not_eq_true] at hc
        refine (fstO_no (fun j hj => ?_)).symm
        unfold rowO
        rw [gob_c (dgt_top hi hj).symm hc]; rfl
    · rw [if_neg hh]
      rw [Bool.not_eq_true] at hh
      refine (fstO_no (fun i _ => fstO_no (fun j _ => ?_))).symm
      unfold rowO
      rw [gob_h hh]; rfl
theorem pow42 (m : Nat) : 2 ^ (2 * m) = 4 ^ m := Nat.pow_mul 2 2 m
section ROWS
variable {ev : Nat → EVl} {A : SVal} {H : Option SVal} {L r row : Nat} {m m' : AM}
theorem ro_n (h : fstO (rowO ev A H L m r) row = none) (em : m' = m) (hg : gob ev A H (dgt row) L m' = false) : fstO (rowO ev A H L m r) (row + 1) = none := by
  rw [fstO_s h]; unfold rowO; rw [← em, hg]; rfl
theorem ro_e (h : fstO (rowO ev A H L m r) row = none) (e : row = 2 ^ (2 * L)) : plB ev A H L m r = none := by rw [plB_row, ← pow42, ← e]; exact h
theorem ro_y {x : Nat} (h : fstO (rowO ev A H L m r) row = none) (em : m' = m) (hg : gob ev A H (dgt row) L m' = true) (hr : row < 2 ^ (2 * L)) (hx : figR (dgt row) L r = x) : plB ev A H L m r = some x := by
  rw [plB_row, ← pow42]
  have h1 : rowO ev A H L m r row = some x := by unfold rowO; rw [← em, if_pos hg, hx]
  have h2 := fstO_hit h h1 (2 ^ (2 * L) - row - 1)
  rw [show row + 1 + (2 ^ (2 * L) - row - 1) = 2 ^ (2 * L) by omega] at h2
  exact h2
end ROWS
/-! whether one event can be laid -/
section CANL
variable {m : AM} {e : EVl}
theorem canL_z (h : e.1 = 0) : canL m e = false := by
  unfold canL lyP
  show ((decide ((4 * m.2.1 + e.2.1) / 4 < m.1) && (decide ((4 * m.2.1 + e.2.1) % 4 < e.1) && _)) && _) = false
  rw [h, decide_eq_false (Nat.not_lt_zero _), Bool.false_and, Bool.and_false, Bool.false_and]
theorem canL_b (hr : m.2.1 < m.1) (hc : e.2.1 < e.1) (h4 : e.2.1 < 4) (h : canE m (e.2.2.1 e.2.1) m.2.1 = false) : canL m e = false := by
  unfold canL
  rw [ly_can hr hc h4 h, Bool.false_and]
theorem canL_f (h : ¬ lyC m e ≤ 24) : canL m e = false := by
  unfold canL
  rw [decide_eq_false h, Bool.and_false]
theorem canL_t (hr : m.2.1 < m.1) (hc : e.2.1 < e.1) (h4 : e.2.1 < 4) (h : canE m (e.2.2.1 e.2.1) m.2.1 = true) (h24 : lyC m e ≤ 24) : canL m e = true := by
  unfold canL
  rw [ly_can hr hc h4 h, decide_eq_true h24]; rfl
theorem canL_in (hr : m.2.1 < m.1) (h4 : e.2.1 < 4) (h : canL m e = true) : (aLay m e).2.1 < (aLay m e).1 := by
  unfold canL at h
  rw [Bool.and_eq_true] at h
  show (if lyP m e (4 * m.2.1 + e.2.1) = true then cb (lyP m e) (4 * m.2.1 + e.2.1) else 0) < cb (lyP m e) (4 * m.1)
  rw [if_pos h.1]
  exact cb_lt (by omega) h.1
end CANL
