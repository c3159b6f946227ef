theorem tn_at {α : Type} {f : Nat → α} {j : Nat} {v : α} (h : j < 2 ^ 31) (e : f (nI j).toNatClampNeg = v) : f j = v := by rw [nI_clamp h] at e; exact e
theorem addf {f : Int32} {i : Nat} (h0 : 0 ≤ f.toInt) (hi : i ≤ 48) (h1 : f.toInt + i < 48) : ∃ j : Nat, f + nI i = nI j ∧ j < 48 ∧ (j : Int) = f.toInt + i := by
  have e : (f + nI i).toInt = f.toInt + i := i_add rfl (nI_toInt (by omega)) (by omega) (by omega)
  obtain ⟨j, e1, e2⟩ := nI_ex (x := f + nI i) (n := 47) (by omega) (by omega)
  rw [e1, nI_toInt (by omega)] at e
  exact ⟨j, e1, by omega, e⟩
/-- the secrets of a person, and what a call makes of them -/
def scf (kn i : Int32) : Int32 := kn >>> ((4 * i) &&& 31) &&& 15
def clf (kn i j : Int32) : Int32 := kn ||| (scf kn i ||| scf kn j) <<< ((4 * i) &&& 31) ||| (scf kn i ||| scf kn j) <<< ((4 * j) &&& 31)
theorem scf_n (kn i : Int32) : ∃ t : Nat, t < 16 ∧ scf kn i = nI t := by
  obtain ⟨t, h1, h2⟩ := pk_andE (kn >>> ((4 * i) &&& 31)) (m := 15) 4 rfl
  exact ⟨t, h1, h2⟩
/-! the worlds with what can be undone: now, how many acts, the models before them (the latest first) -/
abbrev ASt : Type := AM × Nat × (Nat → AM)
def am0 : AM := am 0 0 (fun _ => 0) (fun _ => 0)
def pick8 {α : Type} (a b c d e f g h : α) (k : Nat) : α := match k with | 0 => a | 1 => b | 2 => c | 3 => d | 4 => e | 5 => f | 6 => g | _ => h
def asX (m : AM) (ac np : Nat) (PV : Nat → AM) : ASt := (m, ac, fun j => if j < ac then PV ((np + 7 - j) % 8) else am0)
def aRem (s : ASt) (m : AM) : ASt := (m, min (s.2.1 + 1) 8, fun j => if j < min (s.2.1 + 1) 8 then (if j = 0 then s.1 else s.2.2 (j - 1)) else am0)
def aUndo (s : ASt) : ASt := (s.2.2 0, s.2.1 - 1, fun j => if j < s.2.1 - 1 then s.2.2 (j + 1) else am0)
theorem asX_rem {m m' : AM} {ac np acz npz : Nat} {PV PV' : Nat → AM} (hac : ac ≤ 8) (hnp : np < 8) (e1 : acz = min (ac + 1) 8) (e2 : npz = (np + 1) % 8) (e : ∀ i, i < 8 → PV' i = if i = np then m else PV i) : asX m' acz npz PV' = aRem (asX m ac np PV) m' := by
  subst e1; subst e2
  unfold asX aRem
  refine congrArg _ (congrArg _ ?_)
  funext j
  show (if j < min (ac + 1) 8 then PV' (((np + 1) % 8 + 7 - j) % 8) else am0) = (if j < min (ac + 1) 8 then (if j = 0 then m else (if j - 1 < ac then PV ((np + 7 - (j - 1)) % 8) else am0)) else am0)
  by_cases h : j < min (ac + 1) 8
  · rw [if_pos h, if_pos h, e _ (by omega)]
    by_cases h0 : j = 0
    · rw [if_pos h0, if_pos (by omega)]
    · rw [if_neg h0, if_neg (by omega), if_pos (by omega), show ((np + 1) % 8 + 7 - j) % 8 = (np + 7 - (j - 1)) % 8 by omega]
  · rw [if_neg h, if_neg h]
theorem asX_undo {m m' : AM} {ac np acz npz : Nat} {PV : Nat → AM} (hac : ac ≤ 8) (h0 : 0 < ac) (hnp : np < 8) (e1 : acz = ac - 1) (e2 : npz = (np + 7) % 8) (e : m' = PV npz) : asX m' acz npz PV = aUndo (asX m ac np PV) := by
  subst e1; subst e2; subst e
  unfold asX aUndo
  refine Prod.ext ?_ (Prod.ext rfl (funext fun j => ?_))
  · show PV ((np + 7) % 8) = (if 0 < ac then PV ((np + 7 - 0) % 8) else am0)
    rw [if_pos h0, Nat.sub_zero]
  · show (if j < ac - 1 then PV (((np + 7) % 8 + 7 - j) % 8) else am0) = (if j < ac - 1 then (if j + 1 < ac then PV ((np + 7 - (j + 1)) % 8) else am0) else am0)
    by_cases h : j < ac - 1
    · rw [if_pos h, if_pos h, if_pos (by omega), show ((np + 7) % 8 + 7 - j) % 8 = (np + 7 - (j + 1)) % 8 by omega]
    · rw [if_neg h, if_neg h]
theorem asX_cg {m : AM} {ac np : Nat} {PV PV' : Nat → AM} (e : ∀ i, i < 8 → PV' i = PV i) : asX m ac np PV' = asX m ac np PV := by
  unfold asX
  refine congrArg _ (congrArg _ ?_)
  funext j
  by_cases h : j < ac
  · rw [if_pos h, if_pos h, e _ (by omega)]
  · rw [if_neg h, if_neg h]
def asM (ud : Nat) (PG : Nat → AM) : ASt := (PG 0, ud, fun j => if j < ud then PG (10 + ud - 1 - j) else am0)
/-- a page is remembered: the reference -/
def REM (ud uz : Nat) (PG PG' : Nat → AM) : Prop := uz = min (ud + 1) 8 ∧ ∀ p, 10 ≤ p → p < 10 + uz → PG' p = if p + 1 = 10 + uz then PG 0 else if ud = 8 then PG (p + 1) else PG p
theorem asM_rem {ud uz : Nat} {PG PG' PG2 : Nat → AM} (hu : ud ≤ 8) (h : REM ud uz PG PG') (h2 : ∀ p, 10 ≤ p → p < 18 → PG2 p = PG' p) : asM uz PG2 = aRem (asM ud PG) (PG2 0) := by
  obtain ⟨e1, e⟩ := h
  subst e1
  unfold asM aRem
  refine congrArg _ (congrArg _ ?_)
  funext j
  show (if j < min (ud + 1) 8 then PG2 (10 + min (ud + 1) 8 - 1 - j) else am0) = (if j < min (ud + 1) 8 then (if j = 0 then PG 0 else (if j - 1 < ud then PG (10 + ud - 1 - (j - 1)) else am0)) else am0)
  by_cases h : j < min (ud + 1) 8
  · rw [if_pos h, if_pos h, h2 _ (by omega) (by omega), e _ (by omega) (by omega)]
    by_cases h0 : j = 0
    · rw [if_pos h0, if_pos (by omega)]
    · rw [if_neg h0, if_neg (show ¬ 10 + min (ud + 1) 8 - 1 - j + 1 = 10 + min (ud + 1) 8 by omega), if_pos (show j - 1 < ud by omega)]
      by_cases h8 : ud = 8
      · rw [if_pos h8]; congr 1; omega
      · rw [if_neg h8]; congr 1; omega
  · rw [if_neg h, if_neg h]
theorem asM_undo {ud uz : Nat} {PG PG2 : Nat → AM} (hu : ud ≤ 8) (h0 : 0 < ud) (e : uz = ud - 1) (e0 : PG2 0 = PG (10 + uz)) (h2 : ∀ p, 10 ≤ p → p < 18 → PG2 p = PG p) : asM uz PG2 = aUndo (asM ud PG) := by
  subst e
  unfold asM aUndo
  refine Prod.ext ?_ (Prod.ext rfl (funext fun j => ?_))
  · show PG2 0 = (if 0 < ud then PG (10 + ud - 1 - 0) else am0)
    rw [if_pos h0, e0, show 10 + (ud - 1) = 10 + ud - 1 - 0 by omega]
  · show (if j < ud - 1 then PG2 (10 + (ud - 1) - 1 - j) else am0) = (if j < ud - 1 then (if j + 1 < ud then PG (10 + ud - 1 - (j + 1)) else am0) else am0)
    by_cases h : j < ud - 1
    · rw [if_pos h, if_pos h, if_pos (by omega), h2 _ (by omega) (by omega)]; congr 1; omega
    · rw [if_neg h, if_neg h]
/-- a set of places as a number -/
noncomputable def ofB (P : Nat → Bool) : Int32 := @dite _ (∃ x, BS x P) (Classical.propDecidable _) (fun h => Classical.choose h) (fun _ => 0)
theorem BS.of {x : Int32} {P : Nat → Bool} (h : BS x P) : x = ofB P := by
  unfold ofB
  rw [dif_pos ⟨x, h⟩]
  exact BS.eq h (Classical.choose_spec (⟨x, h⟩ : ∃ x, BS x P))
theorem bit1 {x y : Int32} {v j : Nat} (hv : v < 32) (e1 : x >>> (nI v &&& 31) = y) (e2 : y &&& 1 = nI j) (hj : j < 2) : nI j = if bt x v = true then 1 else 0 := by
  rcases (show j = 0 ∨ j = 1 by omega) with rfl | rfl
  · rw [hasb_0 hv e1 e2 rfl]; rfl
  · rw [hasb_1 hv e1 e2 rfl]; rfl
/-! what each call makes of the worlds, and answers -/
def tN (x : Int32) : Nat := x.toNatClampNeg
theorem tN_n {n : Nat} (h : n < 2 ^ 31) : tN (nI n) = n := nI_clamp h
theorem row_z {x : Int32} : decide (x = 0) = !anyN (bt x) 32 := by
  by_cases q : x = 0
  · rw [decide_eq_true q, q, anyN_no (fun i _ => b_0 i)]; rfl
  · rw [decide_eq_false q, BS.nz (BS.refl x) q]; rfl
theorem p8_all {Q : Nat → Prop} (h0 : Q 0) (h1 : Q 1) (h2 : Q 2) (h3 : Q 3) (h4 : Q 4) (h5 : Q 5) (h6 : Q 6) (h7 : Q 7) : ∀ i, i < 8 → Q i := by
  intro i hi
  rcases (show i = 0 ∨ i = 1 ∨ i = 2 ∨ i = 3 ∨ i = 4 ∨ i = 5 ∨ i = 6 ∨ i = 7 by omega) with rfl | rfl | rfl | rfl | rfl | rfl | rfl | rfl
  · exact h0
  · exact h1
  · exact h2
  · exact h3
  · exact h4
  · exact h5
  · exact h6
  · exact h7
noncomputable def opWorld (s : ASt) (v0 : Int32) : ASt × Int32 := if v0.toInt < 0 ∨ 15 < v0.toInt then (s, -1) else if 24 ≤ s.1.1 then (s, -3) else (aRem s (aAdd s.1 v0), nI s.1.1)
noncomputable def opSees (s : ASt) (v0 v1 v2 v3 v4 : Int32) : ASt × Int32 := if v0.toInt < 0 ∨ 3 < v0.toInt ∨ v1.toInt < 0 ∨ (s.1.1 : Int) ≤ v1.toInt ∨ v2.toInt < 0 ∨ (s.1.1 : Int) ≤ v2.toInt then (s, -1) else (aRem s (if v4.toInt ≠ 0 then aSee (aSee s.1 (tN v0) (tN v1) (tN v2) (decide (v3.toInt ≠ 0))) (tN v0) (tN v2) (tN v1) (decide (v3.toInt ≠ 0)) else aSee s.1 (tN v0) (tN v1) (tN v2) (decide (v3.toInt ≠ 0))), if s.1.2.2.2 (tN v0) (tN v1) (tN v2) = true then 1 else 0)
noncomputable def opBlind (s : ASt) (v0 : Int32) : ASt × Int32 := if v0.toInt < 0 ∨ 65535 < v0.toInt then (s, -1) else (aRem s (aBlind s.1 v0), nI (cBl s.1.1 s.1.2.2.1 v0))
noncomputable def opReal (s : ASt) (v0 : Int32) : ASt × Int32 := if v0.toInt < 0 ∨ (s.1.1 : Int) ≤ v0.toInt then (s, -1) else (aRem s (aReal s.1 (tN v0)), nI s.1.2.1)
noncomputable def opUndo (s : ASt) : ASt × Int32 := if s.2.1 = 0 then (s, -4) else (aUndo s, nI (s.2.1 - 1))
noncomputable def opMelt (s : ASt) : ASt × Int32 := if s.1.1 = 0 then (s, -2) else (aRem s (aMelt s.1), nI (cb (mlP s.1) s.1.1))
noncomputable def ansOf (m : AM) (v0 v1 : Int32) : Int32 := if v0.toInt < 0 ∨ (m.1 : Int) ≤ v0.toInt ∨ v1.toInt < 0 ∨ 6 < v1.toInt then -1 else if v1.toInt = 0 then m.2.2.1 (tN v0) else if v1.toInt = 5 then if tN v0 = m.2.1 then 1 else 0 else if v1.toInt = 6 then ofB (fun k => decide (k < 4) && !anyN (m.2.2.2 k (tN v0)) 32) else ofB (m.2.2.2 (tN v1 - 1) (tN v0))
noncomputable def ansReach (m : AM) (v0 v1 : Int32) : Int32 := if v0.toInt < 0 ∨ 15 < v0.toInt ∨ v1.toInt < 0 ∨ (m.1 : Int) ≤ v1.toInt then -1 else ofB (fw m v0 (tN v1) m.1)
noncomputable def ansClasses (m : AM) : Int32 := nI (cb (mlP m) m.1)
noncomputable def ansClassOf (m : AM) (v0 : Int32) : Int32 := if v0.toInt < 0 ∨ (m.1 : Int) ≤ v0.toInt then -1 else nI (clsS (cm1 m) (tN v0))
