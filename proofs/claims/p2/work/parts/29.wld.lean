theorem dJ6_bitCount_0f7a4_0 : decode cJ6_bitCount_0f7a4 0 = .ok (.iload_n 0, 1) := by decide +kernel
theorem dJ6_bitCount_0f7a4_1 : decode cJ6_bitCount_0f7a4 1 = .ok (.iload_n 0, 1) := by decide +kernel
theorem dJ6_bitCount_0f7a4_2 : decode cJ6_bitCount_0f7a4 2 = .ok (.iconst 1, 1) := by decide +kernel
theorem dJ6_bitCount_0f7a4_3 : decode cJ6_bitCount_0f7a4 3 = .ok (.iushr, 1) := by decide +kernel
theorem dJ6_bitCount_0f7a4_4 : decode cJ6_bitCount_0f7a4 4 = .ok (.ldc_w 265, 3) := by decide +kernel
theorem wv_J6_265 : Cond.constant RJ6 265 1431655765 ∈ TB := tbm (tq2 (List.mem_of_getElem? (i := 200) (by decide +kernel))) (by decide +kernel)
theorem dJ6_bitCount_0f7a4_7 : decode cJ6_bitCount_0f7a4 7 = .ok (.iand, 1) := by decide +kernel
theorem dJ6_bitCount_0f7a4_8 : decode cJ6_bitCount_0f7a4 8 = .ok (.isub, 1) := by decide +kernel
theorem dJ6_bitCount_0f7a4_9 : decode cJ6_bitCount_0f7a4 9 = .ok (.istore_n 0, 1) := by decide +kernel
theorem dJ6_bitCount_0f7a4_10 : decode cJ6_bitCount_0f7a4 10 = .ok (.iload_n 0, 1) := by decide +kernel
theorem dJ6_bitCount_0f7a4_11 : decode cJ6_bitCount_0f7a4 11 = .ok (.ldc_w 266, 3) := by decide +kernel
theorem wv_J6_266 : Cond.constant RJ6 266 858993459 ∈ TB := tbm (tq2 (List.mem_of_getElem? (i := 201) (by decide +kernel))) (by decide +kernel)
theorem dJ6_bitCount_0f7a4_14 : decode cJ6_bitCount_0f7a4 14 = .ok (.iand, 1) := by decide +kernel
theorem dJ6_bitCount_0f7a4_15 : decode cJ6_bitCount_0f7a4 15 = .ok (.iload_n 0, 1) := by decide +kernel
theorem dJ6_bitCount_0f7a4_16 : decode cJ6_bitCount_0f7a4 16 = .ok (.iconst 2, 1) := by decide +kernel
theorem dJ6_bitCount_0f7a4_17 : decode cJ6_bitCount_0f7a4 17 = .ok (.iushr, 1) := by decide +kernel
theorem dJ6_bitCount_0f7a4_18 : decode cJ6_bitCount_0f7a4 18 = .ok (.ldc_w 266, 3) := by decide +kernel
theorem dJ6_bitCount_0f7a4_21 : decode cJ6_bitCount_0f7a4 21 = .ok (.iand, 1) := by decide +kernel
theorem dJ6_bitCount_0f7a4_22 : decode cJ6_bitCount_0f7a4 22 = .ok (.iadd, 1) := by decide +kernel
theorem dJ6_bitCount_0f7a4_23 : decode cJ6_bitCount_0f7a4 23 = .ok (.istore_n 0, 1) := by decide +kernel
theorem dJ6_bitCount_0f7a4_24 : decode cJ6_bitCount_0f7a4 24 = .ok (.iload_n 0, 1) := by decide +kernel
theorem dJ6_bitCount_0f7a4_25 : decode cJ6_bitCount_0f7a4 25 = .ok (.iload_n 0, 1) := by decide +kernel
theorem dJ6_bitCount_0f7a4_26 : decode cJ6_bitCount_0f7a4 26 = .ok (.iconst 4, 1) := by decide +kernel
theorem dJ6_bitCount_0f7a4_27 : decode cJ6_bitCount_0f7a4 27 = .ok (.iushr, 1) := by decide +kernel
theorem dJ6_bitCount_0f7a4_28 : decode cJ6_bitCount_0f7a4 28 = .ok (.iadd, 1) := by decide +kernel
theorem dJ6_bitCount_0f7a4_29 : decode cJ6_bitCount_0f7a4 29 = .ok (.ldc_w 267, 3) := by decide +kernel
theorem wv_J6_267 : Cond.constant RJ6 267 252645135 ∈ TB := tbm (tq2 (List.mem_of_getElem? (i := 202) (by decide +kernel))) (by decide +kernel)
theorem dJ6_bitCount_0f7a4_32 : decode cJ6_bitCount_0f7a4 32 = .ok (.iand, 1) := by decide +kernel
theorem dJ6_bitCount_0f7a4_33 : decode cJ6_bitCount_0f7a4 33 = .ok (.istore_n 0, 1) := by decide +kernel
theorem dJ6_bitCount_0f7a4_34 : decode cJ6_bitCount_0f7a4 34 = .ok (.iload_n 0, 1) := by decide +kernel
theorem dJ6_bitCount_0f7a4_35 : decode cJ6_bitCount_0f7a4 35 = .ok (.iload_n 0, 1) := by decide +kernel
theorem dJ6_bitCount_0f7a4_36 : decode cJ6_bitCount_0f7a4 36 = .ok (.bipush 8, 2) := by decide +kernel
theorem dJ6_bitCount_0f7a4_38 : decode cJ6_bitCount_0f7a4 38 = .ok (.iushr, 1) := by decide +kernel
theorem dJ6_bitCount_0f7a4_39 : decode cJ6_bitCount_0f7a4 39 = .ok (.iadd, 1) := by decide +kernel
theorem dJ6_bitCount_0f7a4_40 : decode cJ6_bitCount_0f7a4 40 = .ok (.istore_n 0, 1) := by decide +kernel
theorem dJ6_bitCount_0f7a4_41 : decode cJ6_bitCount_0f7a4 41 = .ok (.iload_n 0, 1) := by decide +kernel
theorem dJ6_bitCount_0f7a4_42 : decode cJ6_bitCount_0f7a4 42 = .ok (.iload_n 0, 1) := by decide +kernel
theorem dJ6_bitCount_0f7a4_43 : decode cJ6_bitCount_0f7a4 43 = .ok (.bipush 16, 2) := by decide +kernel
theorem dJ6_bitCount_0f7a4_45 : decode cJ6_bitCount_0f7a4 45 = .ok (.iushr, 1) := by decide +kernel
theorem dJ6_bitCount_0f7a4_46 : decode cJ6_bitCount_0f7a4 46 = .ok (.iadd, 1) := by decide +kernel
theorem dJ6_bitCount_0f7a4_47 : decode cJ6_bitCount_0f7a4 47 = .ok (.istore_n 0, 1) := by decide +kernel
theorem dJ6_bitCount_0f7a4_48 : decode cJ6_bitCount_0f7a4 48 = .ok (.iload_n 0, 1) := by decide +kernel
theorem dJ6_bitCount_0f7a4_49 : decode cJ6_bitCount_0f7a4 49 = .ok (.bipush 63, 2) := by decide +kernel
theorem dJ6_bitCount_0f7a4_51 : decode cJ6_bitCount_0f7a4 51 = .ok (.iand, 1) := by decide +kernel
theorem dJ6_bitCount_0f7a4_52 : decode cJ6_bitCount_0f7a4 52 = .ok (.ireturn, 1) := by decide +kernel
set_option maxRecDepth 100000 in
set_option maxHeartbeats 4000000 in
theorem c_bitCount (l : Launch) (E : EV) (ro : va_W) (x0 : Int32)  : CT l yJ6_bitCount_0f7a4 (Cond.code yJ6_bitCount_0f7a4 cJ6_bitCount_0f7a4 1 (some .int) :: TB) ({ frames := 0, cells := 0, slots := 0, locals := 0 }) E ro [.int x0] [] (Qi E (fun (rz : Int32) uz => (rz = (bcf x0) ∧ uz = []))) 0 0 := by
  refine ct_of rfl rfl ?_
  intro X C hT hin hro
  show WW X 1 E 0 [(0, .int x0)] [] [] 0 0
  refine ww_iload_n C dJ6_bitCount_0f7a4_0 0 rfl rfl ?_
  refine ww_iload_n C dJ6_bitCount_0f7a4_1 0 rfl rfl ?_
  refine ww_iconst (v := 1) C dJ6_bitCount_0f7a4_2 rfl ?_
  obtain ⟨x_1, ex_1⟩ : ∃ z : Int32, (x0.toUInt32 >>> ((1 : Int32).toUInt32 &&& Int32.toUInt32 31)).toInt32 = z := ⟨_, rfl⟩
  refine ww_iushr (v := x_1) C dJ6_bitCount_0f7a4_3 ex_1 ?_
  refine ww_ldcw C wv_J6_265 dJ6_bitCount_0f7a4_4 ?_
  obtain ⟨x_2, ex_2⟩ : ∃ z : Int32, x_1 &&& (1431655765 : Int32) = z := ⟨_, rfl⟩
  refine ww_iand (v := x_2) C dJ6_bitCount_0f7a4_7 ex_2 ?_
  obtain ⟨x_3, ex_3⟩ : ∃ z : Int32, x0 - x_2 = z := ⟨_, rfl⟩
  refine ww_isub (v := x_3) C dJ6_bitCount_0f7a4_8 ex_3 ?_
  refine ww_istore_n (lv' := [(0, .int x_3)]) C dJ6_bitCount_0f7a4_9 rfl rfl rfl ?_
  refine ww_iload_n C dJ6_bitCount_0f7a4_10 0 rfl rfl ?_
  refine ww_ldcw C wv_J6_266 dJ6_bitCount_0f7a4_11 ?_
  obtain ⟨x_4, ex_4⟩ : ∃ z : Int32, x_3 &&& (858993459 : Int32) = z := ⟨_, rfl⟩
  refine ww_iand (v := x_4) C dJ6_bitCount_0f7a4_14 ex_4 ?_
  refine ww_iload_n C dJ6_bitCount_0f7a4_15 0 rfl rfl ?_
  refine ww_iconst (v := 2) C dJ6_bitCount_0f7a4_16 rfl ?_
  obtain ⟨x_5, ex_5⟩ : ∃ z : Int32, (x_3.toUInt32 >>> ((2 : Int32).toUInt32 &&& Int32.toUInt32 31)).toInt32 = z := ⟨_, rfl⟩
  refine ww_iushr (v := x_5) C dJ6_bitCount_0f7a4_17 ex_5 ?_
  refine ww_ldcw C wv_J6_266 dJ6_bitCount_0f7a4_18 ?_
  obtain ⟨x_6, ex_6⟩ : ∃ z : Int32, x_5 &&& (858993459 : Int32) = z := ⟨_, rfl⟩
  refine ww_iand (v := x_6) C dJ6_bitCount_0f7a4_21 ex_6 ?_
  obtain ⟨x_7, ex_7⟩ : ∃ z : Int32, x_4 + x_6 = z := ⟨_, rfl⟩
  refine ww_iadd (v := x_7) C dJ6_bitCount_0f7a4_22 ex_7 ?_
  refine ww_istore_n (lv' := [(0, .int x_7)]) C dJ6_bitCount_0f7a4_23 rfl rfl rfl ?_
  refine ww_iload_n C dJ6_bitCount_0f7a4_24 0 rfl rfl ?_
  refine ww_iload_n C dJ6_bitCount_0f7a4_25 0 rfl rfl ?_
  refine ww_iconst (v := 4) C dJ6_bitCount_0f7a4_26 rfl ?_
  obtain ⟨x_8, ex_8⟩ : ∃ z : Int32, (x_7.toUInt32 >>> ((4 : Int32).toUInt32 &&& Int32.toUInt32 31)).toInt32 = z := ⟨_, rfl⟩
  refine ww_iushr (v := x_8) C dJ6_bitCount_0f7a4_27 ex_8 ?_
  obtain ⟨x_9, ex_9⟩ : ∃ z : Int32, x_7 + x_8 = z := ⟨_, rfl⟩
  refine ww_iadd (v := x_9) C dJ6_bitCount_0f7a4_28 ex_9 ?_
  refine ww_ldcw C wv_J6_267 dJ6_bitCount_0f7a4_29 ?_
  obtain ⟨x_10, ex_10⟩ : ∃ z : Int32, x_9 &&& (252645135 : Int32) = z := ⟨_, rfl⟩
  refine ww_iand (v := x_10) C dJ6_bitCount_0f7a4_32 ex_10 ?_
  refine ww_istore_n (lv' := [(0, .int x_10)]) C dJ6_bitCount_0f7a4_33 rfl rfl rfl ?_
  refine ww_iload_n C dJ6_bitCount_0f7a4_34 0 rfl rfl ?_
  refine ww_iload_n C dJ6_bitCount_0f7a4_35 0 rfl rfl ?_
  refine ww_bipush (v := 8) C dJ6_bitCount_0f7a4_36 rfl ?_
  obtain ⟨x_11, ex_11⟩ : ∃ z : Int32, (x_10.toUInt32 >>> ((8 : Int32).toUInt32 &&& Int32.toUInt32 31)).toInt32 = z := ⟨_, rfl⟩
  refine ww_iushr (v := x_11) C dJ6_bitCount_0f7a4_38 ex_11 ?_
  obtain ⟨x_12, ex_12⟩ : ∃ z : Int32, x_10 + x_11 = z := ⟨_, rfl⟩
  refine ww_iadd (v := x_12) C dJ6_bitCount_0f7a4_39 ex_12 ?_
  refine ww_istore_n (lv' := [(0, .int x_12)]) C dJ6_bitCount_0f7a4_40 rfl rfl rfl ?_
  refine ww_iload_n C dJ6_bitCount_0f7a4_41 0 rfl rfl ?_
  refine ww_iload_n C dJ6_bitCount_0f7a4_42 0 rfl rfl ?_
  refine ww_bipush (v := 16) C dJ6_bitCount_0f7a4_43 rfl ?_
  obtain ⟨x_13, ex_13⟩ : ∃ z : Int32, (x_12.toUInt32 >>> ((16 : Int32).toUInt32 &&& Int32.toUInt32 31)).toInt32 = z := ⟨_, rfl⟩
  refine ww_iushr (v := x_13) C dJ6_bitCount_0f7a4_45 ex_13 ?_
  obtain ⟨x_14, ex_14⟩ : ∃ z : Int32, x_12 + x_13 = z := ⟨_, rfl⟩
  refine ww_iadd (v := x_14) C dJ6_bitCount_0f7a4_46 ex_14 ?_
  refine ww_istore_n (lv' := [(0, .int x_14)]) C dJ6_bitCount_0f7a4_47 rfl rfl rfl ?_
  refine ww_iload_n C dJ6_bitCount_0f7a4_48 0 rfl rfl ?_
  refine ww_bipush (v := 63) C dJ6_bitCount_0f7a4_49 rfl ?_
  obtain ⟨x_15, ex_15⟩ : ∃ z : Int32, x_14 &&& (63 : Int32) = z := ⟨_, rfl⟩
  refine ww_iand (v := x_15) C dJ6_bitCount_0f7a4_51 ex_15 ?_
  exact ww_iret (u := []) C hT [] rfl rfl rfl rfl dJ6_bitCount_0f7a4_52 (⟨(by subst_vars; rfl), rfl⟩)
def hbt (x j is : Int32) : Int32 := if is.toInt ≠ 0 then x ||| 1 <<< (j &&& 31) else x &&& ((1 : Int32) <<< (j &&& 31) ^^^ -1)
theorem cb_sub {f g : Nat → Bool} : ∀ n : Nat, (∀ i, i < n → f i = true → g i = true) → cb f n ≤ cb g n
  | 0, _ => Nat.le_refl _
  | n + 1, h => by
    have ih := cb_sub n (fun i hi => h i (by omega))
    rw [cb_s, cb_s]
    cases hf : f n with
    | false => simp; omega
    | true => rw [h n (by omega) hf]; omega
theorem cb_sub_lt {f g : Nat → Bool} : ∀ n : Nat, (∀ i, i < n → f i = true → g i = true) → (∃ i, i < n ∧ f i = false ∧ g i = true) → cb f n < cb g n
  | 0, _, ⟨i, hi, _⟩ => absurd hi (Nat.not_lt_zero _)
  | n + 1, h, ⟨i, hi, h1, h2⟩ => by
    have h0 := cb_sub n (fun i hi => h i (by omega))
    rw [cb_s, cb_s]
    by_cases hn : i = n
    · subst hn; rw [h1, h2]; simp; omega
    · have ih := cb_sub_lt n (fun i hi => h i (by omega)) ⟨i, by omega, h1, h2⟩
      cases hf : f n with
      | false => simp; omega
      | true => rw [h n (by omega) hf]; omega
/-! worlds: sets of places as bits, models by value -/
def anyN (p : Nat → Bool) : Nat → Bool
  | 0 => false
  | i + 1 => anyN p i || p i
theorem anyN_iff {p : Nat → Bool} {n : Nat} : anyN p n = true ↔ ∃ i, i < n ∧ p i = true := by
  induction n with
  | zero => exact ⟨fun h => (Bool.false_ne_true h).elim, fun ⟨i, h, _⟩ => absurd h (Nat.not_lt_zero _)⟩
  | succ n ih =>
    show (anyN p n || p n) = true ↔ _
    rw [Bool.or_eq_true, ih]
    constructor
    · rintro (⟨i, h1, h2⟩ | h)
      · exact ⟨i, by omega, h2⟩
      · exact ⟨n, by omega, h⟩
    · rintro ⟨i, h1, h2⟩
      by_cases q : i = n
      · subst q; exact Or.inr h2
      · exact Or.inl ⟨i, by omega, h2⟩
theorem anyN_no {p : Nat → Bool} {n : Nat} (h : ∀ i, i < n → p i = false) : anyN p n = false := by
  cases q : anyN p n with
  | false => rfl
  | true => obtain ⟨i, h1, h2⟩ := anyN_iff.mp q; rw [h i h1] at h2; cases h2
theorem anyN_f {p : Nat → Bool} {n i : Nat} (h : anyN p n = false) (hi : i < n) : p i = false := by
  cases q : p i with
  | false => rfl
  | true => rw [anyN_iff.mpr ⟨i, hi, q⟩] at h; cases h
theorem anyN_cg {p q : Nat → Bool} {n : Nat} (h : ∀ i, i < n → p i = q i) : anyN p n = anyN q n := by
  induction n with
  | zero => rfl
  | succ n ih => show (anyN p n || p n) = (anyN q n || q n); rw [ih (fun i hi => h i (by omega)), h n (by omega)]
theorem dec_cg {p q : Prop} [Decidable p] [Decidable q] (h : p ↔ q) : decide p = decide q := by
  by_cases k : p
  · rw [decide_eq_true k, decide_eq_true (h.mp k)]
  · rw [decide_eq_false k, decide_eq_false (fun z => k (h.mpr z))]
/-- the places of a set are the bits that are set -/
def BS (x : Int32) (P : Nat → Bool) : Prop := ∀ i, i < 32 → bt x i = P i
theorem BS.eq {x y : Int32} {P : Nat → Bool} (h : BS x P) (k : BS y P) : x = y := b_ext (fun i hi => (h i hi).trans (k i hi).symm)
theorem BS.cg {x : Int32} {P Q : Nat → Bool} (h : BS x P) (e : ∀ i, i < 32 → P i = Q i) : BS x Q := fun i hi => (h i hi).trans (e i hi)
theorem BS.z : BS 0 (fun _ => false) := fun i _ => b_0 i
theorem BS.or {x y z : Int32} {P Q : Nat → Bool} (h : BS x P) (k : BS y Q) (e : x ||| y = z) : BS z (fun v => P v || Q v) := fun i hi => by rw [← e, b_or, h i hi, k i hi]
theorem BS.and {x y z : Int32} {P Q : Nat → Bool} (h : BS x P) (k : BS y Q) (e : x &&& y = z) : BS z (fun v => P v && Q v) := fun i hi => by rw [← e, b_and, h i hi, k i hi]
theorem BS.not {x z : Int32} {P : Nat → Bool} (h : BS x P) (e : x ^^^ (-1 : Int32) = z) : BS z (fun v => !P v) := fun i hi => by rw [← e, b_xor, h i hi, b_m1 i hi, Bool.xor_true]
theorem BS.refl (x : Int32) : BS x (bt x) := fun _ _ => rfl
theorem nz_iff {x : Int32} : x ≠ 0 ↔ ∃ i, i < 32 ∧ bt x i = true := by
  constructor
  · intro h
    cases q : anyN (bt x) 32 with
    | true => exact anyN_iff.mp q
    | false => exact absurd (b_ext (y := 0) (fun i hi => by rw [b_0]; exact anyN_f q hi)) h
  · rintro ⟨i, hi, h⟩ e
    rw [e, b_0] at h; cases h
theorem BS.nz {x : Int32} {P : Nat → Bool} (h : BS x P) (k : ¬ x = 0) : anyN P 32 = true := by
  obtain ⟨i, hi, q⟩ := nz_iff.mp k
  exact anyN_iff.mpr ⟨i, hi, by rw [← h i hi]; exact q⟩
theorem BS.iz {x : Int32} {P : Nat → Bool} (h : BS x P) (k : x = 0) : anyN P 32 = false := anyN_no (fun i hi => by rw [← h i hi, k, b_0])
theorem i_z {x : Int32} (h : x.toInt = 0) : x = 0 := Int32.toInt_inj.mp (by rw [h]; rfl)
theorem i_nz {x : Int32} (h : x.toInt ≠ 0) : ¬ x = 0 := fun e => h (by rw [e]; rfl)
theorem BS.t {x : Int32} {P : Nat → Bool} {i : Nat} (h : BS x P) (hi : i < 32) (k : bt x i = true) : P i = true := by rw [← h i hi]; exact k
theorem BS.f {x : Int32} {P : Nat → Bool} {i : Nat} (h : BS x P) (hi : i < 32) (k : bt x i = false) : P i = false := by rw [← h i hi]; exact k
theorem one_b {i : Nat} (hi : i ≤ 30) : ∀ v, v < 32 → bt ((1 : Int32) <<< (nI i &&& 31)) v = decide (v = i) := by
  intro v hv
  rw [b_shl i (by omega) 1 hv, b_one (v - i) (by omega)]
  by_cases h : v = i
  · subst h; simp
  · rw [decide_eq_false h]
    by_cases h2 : i ≤ v
    · rw [decide_eq_false (show ¬ v - i = 0 by omega), Bool.and_false]
    · rw [decide_eq_false h2, Bool.false_and]
/-- a row that is gathered: those of B, and of the first i places those of P -/
def AC (x : Int32) (B : Nat → Bool) (i : Nat) (P : Nat → Bool) : Prop := BS x (fun v => B v || (decide (v < i) && P v))
abbrev no_ : Nat → Bool := fun _ => false
theorem AC.st {x : Int32} {B P : Nat → Bool} (h : BS x B) : AC x B 0 P := h.cg (fun i _ => by rw [decide_eq_false (Nat.not_lt_zero i), Bool.false_and, Bool.or_false])
theorem AC.nil {P : Nat → Bool} : AC 0 no_ 0 P := AC.st BS.z
theorem AC.t {x y z : Int32} {B P : Nat → Bool} {i : Nat} (h : AC x B i P) (hi : i ≤ 30) (hp : P i = true) (e2 : x ||| y = z) (e1 : (1 : Int32) <<< (nI i &&& 31) = y) : AC z B (i + 1) P := by
  intro v hv
  have h1 : bt x v = (B v || (decide (v < i) && P v)) := h v hv
  show bt z v = (B v || (decide (v < i + 1) && P v))
  rw [← e2, ← e1, b_or, h1, one_b hi v hv]
  by_cases q : v = i
  · subst q; rw [hp, decide_eq_true rfl, decide_eq_true (show v < v + 1 by omega), Bool.or_true, Bool.and_self, Bool.or_true]
  · rw [decide_eq_false q, Bool.or_false, dec_cg (show v < i + 1 ↔ v < i by omega)]
theorem AC.f {x : Int32} {B P : Nat → Bool} {i : Nat} (h : AC x B i P) (hp : P i = false) : AC x B (i + 1) P := by
  intro v hv
  have h1 : bt x v = (B v || (decide (v < i) && P v)) := h v hv
  show bt x v = (B v || (decide (v < i + 1) && P v))
  rw [h1]
  by_cases q : v = i
  · subst q; rw [hp, Bool.and_false, Bool.and_false]
  · rw [dec_cg (show v < i + 1 ↔ v < i by omega)]
theorem AC.z {x z : Int32} {B P : Nat → Bool} {i : Nat} (h : AC x B i P) (hp : P i = false) (e : x ||| (0 : Int32) = z) : AC z B (i + 1) P := by
  have e2 : z = x := by rw [← e]; apply b_ext; intro i _; rw [b_or, b_0, Bool.or_false]
  rw [e2]; exact h.f hp
theorem AC.fin {x : Int32} {P : Nat → Bool} {i n : Nat} (h : AC x no_ i P) (e : i = n) : BS x (fun v => decide (v < n) && P v) := by
  subst e; exact h.cg (fun v _ => by rw [Bool.false_or])
theorem AC.end {x : Int32} {B P : Nat → Bool} {i n : Nat} (h : AC x B i P) (e : i = n) : BS x (fun v => B v || (decide (v < n) && P v)) := by
  subst e; exact h
/-! models by value: how many worlds, the real one, facts, who holds what possible -/
abbrev AM : Type := Nat × Nat × (Nat → Int32) × (Nat → Nat → Nat → Bool)
def am (n r : Nat) (f g : Nat → Int32) : AM := (n, r, fun w => if w < n then f w else 0, fun k w v => decide (k < 4) && (decide (w < n) && bt (g (k * 24 + w)) v))
theorem am_S {n r k w v : Nat} {f g : Nat → Int32} (hk : k < 4) (hw : w < n) : (am n r f g).2.2.2 k w v = bt (g (k * 24 + w)) v := by
  show (decide (k < 4) && (decide (w < n) && bt (g (k * 24 + w)) v)) = _
  rw [decide_eq_true hk, decide_eq_true hw, Bool.true_and, Bool.true_and]
theorem am_F {n r w : Nat} {f g : Nat → Int32} (hw : w < n) : (am n r f g).2.2.1 w = f w := if_pos hw
theorem am_eq {n r : Nat} {f g f' g' : Nat → Int32} (h1 : ∀ w, w < n → f w = f' w) (h2 : ∀ k w, k < 4 → w < n → g (k * 24 + w) = g' (k * 24 + w)) : am n r f g = am n r f' g' := by
  unfold am
  refine congrArg _ (congrArg _ ?_)
  refine Prod.ext ?_ ?_
  · funext w
    show (if w < n then f w else 0) = (if w < n then f' w else 0)
    by_cases h : w < n
    · rw [if_pos h, if_pos h, h1 w h]
    · rw [if_neg h, if_neg h]
  · funext k w v
    show (decide (k < 4) && (decide (w < n) && bt (g (k * 24 + w)) v)) = (decide (k < 4) && (decide (w < n) && bt (g' (k * 24 + w)) v))
    by_cases hk : k < 4
    · by_cases hw : w < n
      · rw [h2 k w hk hw]
      · rw [decide_eq_false hw, Bool.false_and, Bool.false_and]
    · rw [decide_eq_false hk, Bool.false_and, Bool.false_and]
/-- nobody holds a world possible that is not there -/
def WFm (m : AM) : Prop := ∀ k w v, m.2.2.2 k w v = true → v < m.1
/-- worlds with one of these facts -/
def vF (m : AM) (x : Int32) : Nat → Bool := fun w => decide (w < m.1) && decide (¬ (m.2.2.1 w &&& x = 0))
def vAll (m : AM) : Nat → Bool := fun w => decide (w < m.1)
def vNot (m : AM) (P : Nat → Bool) : Nat → Bool := fun w => decide (w < m.1) && !P w
/-- a step of one of a group -/
def nx (m : AM) (gr : Int32) (w v : Nat) : Bool := anyN (fun k => bt gr k && m.2.2.2 k w v) 4
/-- worlds from which 1 to s steps lead to one of these -/
def ld (m : AM) (gr : Int32) (T : Nat → Bool) : Nat → Nat → Bool
  | 0 => fun _ => false
  | s + 1 => fun w => ld m gr T s w || (decide (w < m.1) && anyN (fun v => nx m gr w v && (T v || ld m gr T s v)) 32)
/-- what all of a group hold possible -/
def shr (m : AM) (gr : Int32) (w v : Nat) : Bool := decide (v < m.1) && !anyN (fun k => bt gr k && !m.2.2.2 k w v) 4
def vTog (m : AM) (gr : Int32) (P : Nat → Bool) : Nat → Bool := fun w => decide (w < m.1) && !anyN (fun v => shr m gr w v && !P v) 32
/-- worlds to which 1 to s + 1 steps lead -/
def fw (m : AM) (gr : Int32) (w : Nat) : Nat → Nat → Bool
  | 0 => nx m gr w
  | s + 1 => fun v => fw m gr w s v || anyN (fun u => fw m gr w s u && nx m gr u v) m.1
theorem ld_st {m : AM} {gr : Int32} {T : Nat → Bool} {s : Nat} (h : ∀ v, v < 32 → ld m gr T (s + 1) v = ld m gr T s v) : ∀ d v, v < 32 → ld m gr T (s + d) v = ld m gr T s v := by
  intro d
  induction d with
  | zero => intro v _; rfl
  | succ d ih =>
    intro v hv
    rw [← h v hv]
    show (ld m gr T (s + d) v || (decide (v < m.1) && anyN (fun u => nx m gr v u && (T u || ld m gr T (s + d) u)) 32)) = (ld m gr T s v || (decide (v < m.1) && anyN (fun u => nx m gr v u && (T u || ld m gr T s u)) 32))
    rw [ih v hv, anyN_cg (q := fun u => nx m gr v u && (T u || ld m gr T s u)) (fun u hu => by rw [ih u hu])]
theorem fw_st {m : AM} {gr : Int32} {w s : Nat} (hn : m.1 ≤ 32) (h : ∀ v, v < 32 → fw m gr w (s + 1) v = fw m gr w s v) : ∀ d v, v < 32 → fw m gr w (s + d) v = fw m gr w s v := by
  intro d
  induction d with
  | zero => intro v _; rfl
  | succ d ih =>
    intro v hv
    rw [← h v hv]
    show (fw m gr w (s + d) v || anyN (fun u => fw m gr w (s + d) u && nx m gr u v) m.1) = (fw m gr w s v || anyN (fun u => fw m gr w s u && nx m gr u v) m.1)
    rw [ih v hv, anyN_cg (q := fun u => fw m gr w s u && nx m gr u v) (fun u hu => by rw [ih u (by omega)])]
/-! what is left of a row: the places of P, counted -/
def nth (P : Nat → Bool) : Nat → Nat → Nat
  | 0, _ => 0
  | N + 1, j => if P N = true ∧ cb P N = j then N else nth P N j
theorem nth_cb {P : Nat → Bool} {N p : Nat} (hp : p < N) (h : P p = true) : nth P N (cb P p) = p := by
  induction N with
  | zero => exact absurd hp (Nat.not_lt_zero _)
  | succ N ih =>
    show (if P N = true ∧ cb P N = cb P p then N else nth P N (cb P p)) = p
    by_cases q : p = N
    · subst q; rw [if_pos ⟨h, rfl⟩]
    · have h1 := cb_lt (f := P) (show p < N by omega) h
      rw [if_neg (fun z => by omega)]
      exact ih (by omega)
theorem nth_in {P : Nat → Bool} {N j : Nat} (hj : j < cb P N) : nth P N j < N ∧ P (nth P N j) = true ∧ cb P (nth P N j) = j := by
  induction N with
  | zero => exact absurd hj (Nat.not_lt_zero _)
  | succ N ih =>
    show (if P N = true ∧ cb P N = j then N else nth P N j) < N + 1 ∧ P (if P N = true ∧ cb P N = j then N else nth P N j) = true ∧ cb P (if P N = true ∧ cb P N = j then N else nth P N j) = j
    by_cases q : P N = true ∧ cb P N = j
    · rw [if_pos q]; exact ⟨by omega, q.1, q.2⟩
    · rw [if_neg q]
      have hl : j < cb P N := by
        cases hb : P N with
        | false => rw [cb_f hb] at hj; exact hj
        | true =>
          rw [cb_t hb] at hj
          have : cb P N ≠ j := fun z => q ⟨hb, z⟩
          omega
      have := ih hl
      exact ⟨by omega, this.2⟩
theorem cb_inj {P : Nat → Bool} {p q : Nat} (hp : P p = true) (hq : P q = true) (e : cb P p = cb P q) : p = q := by
  rcases Nat.lt_trichotomy p q with h | h | h
  · have := cb_lt (f := P) h hp; omega
  · exact h
  · have := cb_lt (f := P) h hq; omega
/-- a model of the places of P -/
def cmpS (P : Nat → Bool) (N r : Nat) (F : Nat → Int32) (R : Nat → Nat → Nat → Bool) : AM := (cb P N, r, fun j => if j < cb P N then F (nth P N j) else 0, fun k j i => decide (k < 4) && (decide (j < cb P N) && (decide (i < cb P N) && R k (nth P N j) (nth P N i))))
theorem cmp_am {P : Nat → Bool} {N n r : Nat} {F f g : Nat → Int32} {R : Nat → Nat → Nat → Bool} (hn : n = cb P N) (h24 : n ≤ 32) (h1 : ∀ p, p < N → P p = true → f (cb P p) = F p) (h2 : ∀ k p, k < 4 → p < N → P p = true → BS (g (k * 24 + cb P p)) (fun i => decide (i < cb P N) && R k p (nth P N i))) : am n r f g = cmpS P N r F R := by
  subst hn
  unfold am cmpS
  refine congrArg _ (congrArg _ ?_)
  refine Prod.ext ?_ ?_
  · funext j
    show (if j < cb P N then f j else 0) = (if j < cb P N then F (nth P N j) else 0)
    by_cases h : j < cb P N
    · have q := nth_in h
      rw [if_pos h, if_pos h, ← h1 _ q.1 q.2.1, q.2.2]
    · rw [if_neg h, if_neg h]
  · funext k j i
    show (decide (k < 4) && (decide (j < cb P N) && bt (g (k * 24 + j)) i)) = (decide (k < 4) && (decide (j < cb P N) && (decide (i < cb P N) && R k (nth P N j) (nth P N i))))
    by_cases hk : k < 4
    · by_cases h : j < cb P N
      · have q := nth_in h
        have e := h2 k _ hk q.1 q.2.1
        rw [q.2.2] at e
        by_cases hi : i < 32
        · rw [e i hi]
        · rw [b_big (by omega), decide_eq_false (show ¬ i < cb P N by omega), Bool.false_and]
      · rw [decide_eq_false h, Bool.false_and, Bool.false_and]
    · rw [decide_eq_false hk, Bool.false_and, Bool.false_and]
theorem cmp_wf {P : Nat → Bool} {N r : Nat} {F : Nat → Int32} {R : Nat → Nat → Nat → Bool} : WFm (cmpS P N r F R) := by
  intro k j i h
  have h2 : (decide (k < 4) && (decide (j < cb P N) && (decide (i < cb P N) && R k (nth P N j) (nth P N i)))) = true := h
  simp only [Bool.and_eq_true, decide_eq_true_eq] at h2
  exact h2.2.2.1
/-! operations on models by value -/
def nmz (n r : Nat) (F : Nat → Int32) (S : Nat → Nat → Nat → Bool) : AM := (n, r, fun w => if w < n then F w else 0, fun k w v => decide (k < 4) && (decide (w < n) && (decide (v < n) && S k w v)))
theorem nmz_wf {n r : Nat} {F : Nat → Int32} {S : Nat → Nat → Nat → Bool} : WFm (nmz n r F S) := by
  intro k w v h
  have h2 : (decide (k < 4) && (decide (w < n) && (decide (v < n) && S k w v))) = true := h
  simp only [Bool.and_eq_true, decide_eq_true_eq] at h2
  exact h2.2.2.1
theorem am_nmz {n r N R : Nat} {f g F : Nat → Int32} {S : Nat → Nat → Nat → Bool} (h24 : n ≤ 32) (hn : n = N) (hr : r = R) (h1 : ∀ w, w < n → f w = F w) (h2 : ∀ k w, k < 4 → w < n → BS (g (k * 24 + w)) (fun v => decide (v < n) && S k w v)) : am n r f g = nmz N R F S := by
  subst hn; subst hr
  unfold am nmz
  refine congrArg _ (congrArg _ ?_)
  refine Prod.ext ?_ ?_
  · funext w
    show (if w < n then f w else 0) = (if w < n then F w else 0)
    by_cases h : w < n
    · rw [if_pos h, if_pos h, h1 w h]
    · rw [if_neg h, if_neg h]
  · funext k w v
    show (decide (k < 4) && (decide (w < n) && bt (g (k * 24 + w)) v)) = (decide (k < 4) && (decide (w < n) && (decide (v < n) && S k w v)))
    by_cases hk : k < 4
    · by_cases hw : w < n
      · by_cases hv : v < 32
        · rw [h2 k w hk hw v hv]
        · rw [b_big (by omega), decide_eq_false (show ¬ v < n by omega), Bool.false_and]
      · rw [decide_eq_false hw, Bool.false_and, Bool.false_and]
    · rw [decide_eq_false hk, Bool.false_and, Bool.false_and]
theorem am_rows {n r n' r' : Nat} {f g f' g' : Nat → Int32} (e : am n r f g = am n' r' f' g') : n = n' ∧ r = r' ∧ (∀ w, w < n → f w = f' w) ∧ ∀ k w, k < 4 → w < n → g (k * 24 + w) = g' (k * 24 + w) := by
  have e1 : n = n' := congrArg (fun m : AM => m.1) e
  subst e1
  have e2 : r = r' := congrArg (fun m : AM => m.2.1) e
  refine ⟨rfl, e2, fun w hw => ?_, fun k w hk hw => ?_⟩
  · have h1 : (am n r f g).2.2.1 w = (am n r' f' g').2.2.1 w := by rw [e]
    rw [am_F hw, am_F hw] at h1; exact h1
  · apply b_ext
    intro i _
    have h1 : (am n r f g).2.2.2 k w i = (am n r' f' g').2.2.2 k w i := by rw [e]
    rw [am_S hk hw, am_S hk hw] at h1; exact h1
/-- one world more -/
def aAdd (m : AM) (x : Int32) : AM := (m.1 + 1, m.2.1, va_up m.2.2.1 m.1 x, m.2.2.2)
def RZ (n i : Nat) (g g2 : Nat → Int32) : Prop := ∀ k w, k < 4 → w < 24 → g2 (k * 24 + w) = if w = n ∧ k < i then 0 else g (k * 24 + w)
theorem RZ.nil {n : Nat} {g : Nat → Int32} : RZ n 0 g g := fun k w _ _ => by rw [if_neg (by omega)]
theorem RZ.ext {n i : Nat} {g g1 g2 : Nat → Int32} (h : RZ n i g g1) (hn : n < 24) (e : upd g1 (i * 24 + n) 0 = g2) : RZ n (i + 1) g g2 := by
  intro k w hk hw
  rw [← e]
  by_cases q : k * 24 + w = i * 24 + n
  · rw [q, pk_us, if_pos (by omega)]
  · rw [pk_un q, h k w hk hw]
    by_cases z : w = n ∧ k < i
    · rw [if_pos z, if_pos (by omega)]
    · rw [if_neg z, if_neg (by omega)]
theorem am_add {n r : Nat} {x : Int32} {f g f2 g2 : Nat → Int32} (hn : n < 24) (e : upd f n x = f2) (hz : RZ n 4 g g2) : am (n + 1) r f2 g2 = aAdd (am n r f g) x := by
  unfold am aAdd
  refine congrArg _ (congrArg _ ?_)
  refine Prod.ext ?_ ?_
  · funext w
    show (if w < n + 1 then f2 w else 0) = va_up (fun w => if w < n then f w else 0) n x w
    by_cases q : w = n
    · rw [q, vup_s, if_pos (by omega), ← e, pk_us]
    · rw [vup_n q, ← e, pk_un q]
      by_cases z : w < n
      · rw [if_pos z, if_pos (by omega)]
      · rw [if_neg z, if_neg (by omega)]
  · funext k w v
    show (decide (k < 4) && (decide (w < n + 1) && bt (g2 (k * 24 + w)) v)) = (decide (k < 4) && (decide (w < n) && bt (g (k * 24 + w)) v))
    by_cases hk : k < 4
    · by_cases hw : w < n + 1
      · rw [hz k w hk (by omega)]
        by_cases q : w = n
        · rw [if_pos ⟨q, hk⟩, b_0, decide_eq_false (show ¬ w < n by omega), Bool.and_false, Bool.false_and]
        · rw [if_neg (fun z => q z.1), decide_eq_true hw, decide_eq_true (show w < n by omega)]
      · rw [decide_eq_false hw, decide_eq_false (show ¬ w < n by omega), Bool.false_and, Bool.false_and]
    · rw [decide_eq_false hk, Bool.false_and, Bool.false_and]
theorem aAdd_wf {m : AM} {x : Int32} (h : WFm m) : WFm (aAdd m x) := fun k w v hv => Nat.lt_succ_of_lt (h k w v hv)
/-- a knower holds one possible, or not -/
def aSee (m : AM) (k u v : Nat) (b : Bool) : AM := (m.1, m.2.1, m.2.2.1, fun k' w v' => if k' = k ∧ w = u ∧ v' = v then b else m.2.2.2 k' w v')
theorem hbt_b {x is : Int32} {v i : Nat} (hv : v ≤ 30) (hi : i < 32) : bt (hbt x (nI v) is) i = if i = v then decide (is.toInt ≠ 0) else bt x i := by
  unfold hbt
  by_cases q : is.toInt ≠ 0
  · rw [if_pos q, b_or, one_b hv i hi, decide_eq_true q]
    by_cases z : i = v
    · rw [if_pos z, decide_eq_true z, Bool.or_true]
    · rw [if_neg z, decide_eq_false z, Bool.or_false]
  · rw [if_neg q, b_and, b_xor, one_b hv i hi, b_m1 i hi, decide_eq_false q]
    by_cases z : i = v
    · rw [if_pos z, decide_eq_true z]; simp
    · rw [if_neg z, decide_eq_false z]; simp
theorem am_see {n r k u v : Nat} {f g g2 : Nat → Int32} {is : Int32} (h24 : n ≤ 24) (hk : k < 4) (hu : u < n) (hv : v < n) (e : upd g (k * 24 + u) (hbt (g (k * 24 + u)) (nI v) is) = g2) : am n r f g2 = aSee (am n r f g) k u v (decide (is.toInt ≠ 0)) := by
  unfold am aSee
  refine congrArg _ (congrArg _ (congrArg _ ?_))
  funext k' w v'
  show (decide (k' < 4) && (decide (w < n) && bt (g2 (k' * 24 + w)) v')) = if k' = k ∧ w = u ∧ v' = v then decide (is.toInt ≠ 0) else (decide (k' < 4) && (decide (w < n) && bt (g (k' * 24 + w)) v'))
  by_cases hk' : k' < 4
  · by_cases hw : w < n
    · rw [decide_eq_true hk', decide_eq_true hw, Bool.true_and, Bool.true_and, Bool.true_and, Bool.true_and]
      by_cases q : k' * 24 + w = k * 24 + u
      · rw [q, ← e, pk_us]
        by_cases hi : v' < 32
        · rw [hbt_b (by omega) hi]
          by_cases z : v' = v
          · rw [if_pos z, if_pos ⟨by omega, by omega, z⟩]
          · rw [if_neg z, if_neg (fun y => z y.2.2)]
        · rw [b_big (by omega), b_big (by omega), if_neg (fun y => by omega)]
      · rw [← e, pk_un q, if_neg (fun y => by omega)]
    · rw [decide_eq_false hw, Bool.false_and, Bool.false_and, Bool.and_false, if_neg (fun y => by omega)]
  · rw [decide_eq_false hk', Bool.false_and, Bool.false_and, if_neg (fun y => by omega)]
theorem aSee_wf {m : AM} {k u v : Nat} {b : Bool} (h : WFm m) (hv : v < m.1) : WFm (aSee m k u v b) := by
  intro k' w v' q
  have q2 : (if k' = k ∧ w = u ∧ v' = v then b else m.2.2.2 k' w v') = true := q
  by_cases z : k' = k ∧ w = u ∧ v' = v
  · show v' < m.1; omega
  · rw [if_neg z] at q2; exact h k' w v' q2
/-- who differs in facts of its own alone -/
def ow (x : Int32) (k : Nat) : Int32 := x >>> (nI (4 * k) &&& 31) &&& 15
def alk (f : Nat → Int32) (o : Int32) (u : Nat) : Nat → Bool := fun v => decide ((f u ^^^ f v) &&& (o ^^^ (-1 : Int32)) = 0)
def aBlind (m : AM) (x : Int32) : AM := nmz m.1 m.2.1 m.2.2.1 (fun k u => alk m.2.2.1 (ow x k) u)
def sumN (h : Nat → Nat) : Nat → Nat
  | 0 => 0
  | i + 1 => sumN h i + h i
theorem sumN_cg {h h' : Nat → Nat} {n : Nat} (e : ∀ i, i < n → h i = h' i) : sumN h n = sumN h' n := by
  induction n with
  | zero => rfl
  | succ n ih => show sumN h n + h n = sumN h' n + h' n; rw [ih (fun i hi => e i (by omega)), e n (by omega)]
def cRow (n : Nat) (f : Nat → Int32) (o : Int32) (u : Nat) : Nat := cb (fun v => decide (v < n) && alk f o u v) 32
def cBl (n : Nat) (f : Nat → Int32) (x : Int32) : Nat := sumN (fun k => sumN (fun u => cRow n f (ow x k) u) n) 4
theorem cb_BS {x : Int32} {P : Nat → Bool} (h : BS x P) : cb (bt x) 32 = cb P 32 := cb_congr (fun i hi => h i hi)
/-- the first rows are laid: all of the knowers below k, of knower k those below u -/
def BLR (n : Nat) (f : Nat → Int32) (x : Int32) (k u : Nat) (g : Nat → Int32) : Prop := ∀ k' w, k' < 4 → w < n → (k' < k ∨ k' = k ∧ w < u) → BS (g (k' * 24 + w)) (fun v => decide (v < n) && alk f (ow x k') w v)
theorem BLR.nil {n : Nat} {f g : Nat → Int32} {x : Int32} : BLR n f x 0 0 g := fun k' w _ _ h => absurd h (by omega)
theorem BLR.up {n k i : Nat} {f g : Nat → Int32} {x : Int32} (h : BLR n f x k i g) (e : i = n) : BLR n f x (k + 1) 0 g := fun k' w a b c => h k' w a b (by omega)
theorem BLR.ext {n k i : Nat} {f g g' : Nat → Int32} {x r : Int32} (h : BLR n f x k i g) (h24 : n ≤ 24) (hi : i < n) (hr : BS r (fun v => decide (v < n) && alk f (ow x k) i v)) (e : upd g (k * 24 + i) r = g') : BLR n f x k (i + 1) g' := by
  intro k' w a b c
  rw [← e]
  by_cases q : k' * 24 + w = k * 24 + i
  · have e1 : k' = k := by omega
    have e2 : w = i := by omega
    rw [q, pk_us, e1, e2]; exact hr
  · rw [pk_un q]; exact h k' w a b (by omega)
theorem alk_am {n r : Nat} {f g : Nat → Int32} {o : Int32} {u v : Nat} (hu : u < n) (hv : v < n) : alk (am n r f g).2.2.1 o u v = alk f o u v := by
  unfold alk
  rw [am_F hu, am_F hv]
theorem am_blind {n r k : Nat} {f g g' : Nat → Int32} {x : Int32} (h24 : n ≤ 24) (h : BLR n f x k 0 g') (hk : k = 4) : am n r f g' = aBlind (am n r f g) x := by
  refine am_nmz (by omega) rfl rfl (fun w hw => (am_F hw).symm) (fun k' w hk' hw => (h k' w hk' hw (by omega)).cg (fun v _ => ?_))
  by_cases hv : v < n
  · rw [alk_am hw hv]
  · show (decide (v < n) && _) = (decide (v < n) && _)
    rw [decide_eq_false hv, Bool.false_and, Bool.false_and]
theorem cBl_cg {n : Nat} {f f' : Nat → Int32} {x : Int32} (h : ∀ w, w < n → f w = f' w) : cBl n f x = cBl n f' x := by
  unfold cBl
  refine sumN_cg (fun k _ => sumN_cg (fun u hu => ?_))
  unfold cRow
  refine cb_congr (fun v _ => ?_)
  by_cases hv : v < n
  · unfold alk; rw [h u hu, h v hv]
  · rw [decide_eq_false hv, Bool.false_and, Bool.false_and]
def aReal (m : AM) (w : Nat) : AM := (m.1, w, m.2.2)
/-- steps: what the rows of a group say together -/
theorem nx_am {n r w : Nat} {f g : Nat → Int32} {gr : Int32} {x : Int32} (hw : w < n) (h : BS x (fun v => anyN (fun k => bt gr k && bt (g (k * 24 + w)) v) 4)) : BS x (nx (am n r f g) gr w) := h.cg (fun v _ => by
  show _ = anyN (fun k => bt gr k && (am n r f g).2.2.2 k w v) 4
  exact anyN_cg (fun k hk => by rw [am_S hk hw]))
def NXr (gr : Int32) (g : Nat → Int32) (w i : Nat) (x : Int32) : Prop := BS x (fun v => anyN (fun k => bt gr k && bt (g (k * 24 + w)) v) i)
theorem NXr.nil {gr : Int32} {g : Nat → Int32} {w : Nat} : NXr gr g w 0 0 := BS.z
theorem NXr.t {gr x y z : Int32} {g : Nat → Int32} {w i : Nat} (h : NXr gr g w i x) (hb : bt gr i = true) (ey : g (i * 24 + w) = y) (e : x ||| y = z) : NXr gr g w (i + 1) z := by
  intro v hv
  show bt z v = (anyN (fun k => bt gr k && bt (g (k * 24 + w)) v) i || (bt gr i && bt (g (i * 24 + w)) v))
  rw [← e, b_or, h v hv, hb, ey, Bool.true_and]
theorem NXr.f {gr x : Int32} {g : Nat → Int32} {w i : Nat} (h : NXr gr g w i x) (hb : bt gr i = false) : NXr gr g w (i + 1) x := by
  intro v hv
  show bt x v = (anyN (fun k => bt gr k && bt (g (k * 24 + w)) v) i || (bt gr i && bt (g (i * 24 + w)) v))
  rw [h v hv, hb, Bool.false_and, Bool.or_false]
/-- what all of a group hold possible, the first i knowers -/
def SHr (n : Nat) (gr : Int32) (g : Nat → Int32) (w i : Nat) (x : Int32) : Prop := BS x (fun v => decide (v < n) && !anyN (fun k => bt gr k && !bt (g (k * 24 + w)) v) i)
theorem SHr.nil {n : Nat} {gr x : Int32} {g : Nat → Int32} {w : Nat} (h : ∀ i, i < 32 → bt x i = decide (i < n)) : SHr n gr g w 0 x := fun v hv => by
  show bt x v = (decide (v < n) && !false)
  rw [h v hv, Bool.not_false, Bool.and_true]
theorem SHr.t {n : Nat} {gr x y z : Int32} {g : Nat → Int32} {w i : Nat} (h : SHr n gr g w i x) (hb : bt gr i = true) (ey : g (i * 24 + w) = y) (e : x &&& y = z) : SHr n gr g w (i + 1) z := by
  intro v hv
  show bt z v = (decide (v < n) && !(anyN (fun k => bt gr k && !bt (g (k * 24 + w)) v) i || (bt gr i && !bt (g (i * 24 + w)) v)))
  rw [← e, b_and, h v hv, hb, ey, Bool.true_and, Bool.not_or, Bool.not_not, Bool.and_assoc]
theorem SHr.f {n : Nat} {gr x : Int32} {g : Nat → Int32} {w i : Nat} (h : SHr n gr g w i x) (hb : bt gr i = false) : SHr n gr g w (i + 1) x := by
  intro v hv
  show bt x v = (decide (v < n) && !(anyN (fun k => bt gr k && !bt (g (k * 24 + w)) v) i || (bt gr i && !bt (g (i * 24 + w)) v)))
  rw [h v hv, hb, Bool.false_and, Bool.or_false]
theorem SHr.amx {n r w : Nat} {f g : Nat → Int32} {gr x : Int32} (hw : w < n) (h : SHr n gr g w 4 x) : BS x (shr (am n r f g) gr w) := h.cg (fun v _ => by
  show _ = (decide (v < n) && !anyN (fun k => bt gr k && !(am n r f g).2.2.2 k w v) 4)
  rw [anyN_cg (q := fun k => bt gr k && !(am n r f g).2.2.2 k w v) (fun k hk => by rw [am_S hk hw])])
theorem ld_cg {m : AM} {gr : Int32} {T T' : Nat → Bool} (h : ∀ v, v < 32 → T v = T' v) : ∀ s, ld m gr T s = ld m gr T' s
  | 0 => rfl
  | s + 1 => by
    funext w
    show (ld m gr T s w || (decide (w < m.1) && anyN (fun v => nx m gr w v && (T v || ld m gr T s v)) 32)) = (ld m gr T' s w || (decide (w < m.1) && anyN (fun v => nx m gr w v && (T' v || ld m gr T' s v)) 32))
    rw [ld_cg h s, anyN_cg (q := fun v => nx m gr w v && (T' v || ld m gr T' s v)) (fun v hv => by rw [h v hv])]
theorem ld_b {m : AM} {gr wd : Int32} {P : Nat → Bool} {s : Nat} {x : Int32} (h : BS x (ld m gr (bt wd) s)) (hP : BS wd P) : BS x (ld m gr P s) := by
  rw [ld_cg (T := P) (T' := bt wd) (fun v hv => (hP v hv).symm)]; exact h
theorem vTog_b {m : AM} {gr wd : Int32} {P : Nat → Bool} {x : Int32} (h : BS x (vTog m gr (bt wd))) (hP : BS wd P) : BS x (vTog m gr P) := h.cg (fun w _ => by
  show (decide (w < m.1) && !anyN (fun v => shr m gr w v && !bt wd v) 32) = (decide (w < m.1) && !anyN (fun v => shr m gr w v && !P v) 32)
  rw [anyN_cg (q := fun v => shr m gr w v && !P v) (fun v hv => by rw [hP v hv])])
/-- a round comes to rest -/
theorem ld_end {m : AM} {gr x : Int32} {T : Nat → Bool} {s st : Nat} (h : BS x (ld m gr T s)) (h1 : BS x (ld m gr T (s + 1))) (hs : s ≤ st) : BS x (ld m gr T st) := by
  obtain ⟨d, rfl⟩ : ∃ d, st = s + d := ⟨st - s, by omega⟩
  exact h.cg (fun v hv => (ld_st (fun v hv => (h1 v hv).symm.trans (h v hv)) d v hv).symm)
theorem fw_end {m : AM} {gr x : Int32} {w s st : Nat} (hn : m.1 ≤ 32) (h : BS x (fw m gr w s)) (h1 : BS x (fw m gr w (s + 1))) (hs : s ≤ st) : BS x (fw m gr w st) := by
  obtain ⟨d, rfl⟩ : ∃ d, st = s + d := ⟨st - s, by omega⟩
  exact h.cg (fun v hv => (fw_st hn (fun v hv => (h1 v hv).symm.trans (h v hv)) d v hv).symm)
/-- the worlds of a set, and where they lead: the first i are taken -/
def FWr (m : AM) (gr : Int32) (A : Nat → Bool) (i : Nat) (x : Int32) : Prop := BS x (fun v => A v || anyN (fun u => A u && nx m gr u v) i)
theorem FWr.nil {m : AM} {gr x : Int32} {A : Nat → Bool} (h : BS x A) : FWr m gr A 0 x := h.cg (fun v _ => (Bool.or_false _).symm)
theorem FWr.t {m : AM} {gr x y z : Int32} {A : Nat → Bool} {i : Nat} (h : FWr m gr A i x) (ha : A i = true) (hy : BS y (nx m gr i)) (e : x ||| y = z) : FWr m gr A (i + 1) z := by
  intro v hv
  show bt z v = (A v || (anyN (fun u => A u && nx m gr u v) i || (A i && nx m gr i v)))
  rw [← e, b_or, h v hv, hy v hv, ha, Bool.true_and, Bool.or_assoc]
theorem FWr.f {m : AM} {gr x : Int32} {A : Nat → Bool} {i : Nat} (h : FWr m gr A i x) (ha : A i = false) : FWr m gr A (i + 1) x := by
  intro v hv
  show bt x v = (A v || (anyN (fun u => A u && nx m gr u v) i || (A i && nx m gr i v)))
  rw [h v hv, ha, Bool.false_and, Bool.or_false]
/-- a row squeezed to the places of a set -/
def SQr (bi sy : Int32) (i : Nat) (x : Int32) : Prop := BS x (fun j => decide (j < cb (bt sy) i) && bt bi (nth (bt sy) 24 j))
theorem SQr.nil {bi sy : Int32} : SQr bi sy 0 0 := fun v hv => by
  show bt 0 v = (decide (v < 0) && _)
  rw [b_0, decide_eq_false (Nat.not_lt_zero v), Bool.false_and]
theorem SQr.f {bi sy x : Int32} {i : Nat} (h : SQr bi sy i x) (hb : bt sy i = false) : SQr bi sy (i + 1) x := by
  unfold SQr; rw [cb_f hb]; exact h
theorem SQr.t {bi sy x y z s : Int32} {i j pl : Nat} (h : SQr bi sy i x) (hi : i < 24) (hb : bt sy i = true) (hp : pl = cb (bt sy) i) (e1 : bi >>> (nI i &&& 31) = s) (e2 : s &&& 1 = nI j) (hj : j < 2) (e3 : nI j <<< (nI pl &&& 31) = y) (e : x ||| y = z) : SQr bi sy (i + 1) z := by
  have hpl : pl < 24 := by have := cb_le (bt sy) i; omega
  have hjb : decide (j = 1) = bt bi i := by
    rcases (show j = 0 ∨ j = 1 by omega) with rfl | rfl
    · rw [hasb_0 (by omega) e1 e2 rfl]; rfl
    · rw [hasb_1 (by omega) e1 e2 rfl]; rfl
  intro v hv
  have h0 : bt x v = (decide (v < cb (bt sy) i) && bt bi (nth (bt sy) 24 v)) := h v hv
  show bt z v = (decide (v < cb (bt sy) (i + 1)) && bt bi (nth (bt sy) 24 v))
  rw [cb_t hb, ← e, b_or, h0, ← e3, b_shl pl (by omega) _ hv, bt_nI (by omega), ← hp]
  rcases Nat.lt_trichotomy v pl with q | q | q
  · rw [decide_eq_true q, decide_eq_true (show v < pl + 1 by omega), decide_eq_false (show ¬ pl ≤ v by omega), Bool.false_and, Bool.or_false]
  · subst q
    rw [decide_eq_false (Nat.lt_irrefl v), decide_eq_true (show v < v + 1 by omega), decide_eq_true (Nat.le_refl v), Bool.false_and, Bool.false_or, Bool.true_and, Bool.true_and, Nat.sub_self, hp, nth_cb hi hb, ← hjb]
    rcases (show j = 0 ∨ j = 1 by omega) with rfl | rfl <;> rfl
  · rw [decide_eq_false (show ¬ v < pl by omega), decide_eq_false (show ¬ v < pl + 1 by omega), decide_eq_true (show pl ≤ v by omega), Bool.false_and, Bool.false_or, Bool.true_and]
    obtain ⟨d, hd⟩ : ∃ d, v - pl = d + 1 := ⟨v - pl - 1, by omega⟩
    rw [hd]
    rcases (show j = 0 ∨ j = 1 by omega) with rfl | rfl
    · exact Nat.zero_testBit _
    · exact Nat.testBit_lt_two_pow (show 1 < 2 ^ (d + 1) from Nat.lt_of_lt_of_le (by decide : 1 < 2 ^ 1) (Nat.pow_le_pow_right (by decide) (by omega)))
theorem nth_up {P : Nat → Bool} {n N j : Nat} (hn : n ≤ N) (hj : j < cb P n) : nth P N j = nth P n j := by
  have h := nth_in hj
  have h1 := nth_cb (N := N) (show nth P n j < N by omega) h.2.1
  rw [h.2.2] at h1
  exact h1
theorem nth_ge {P : Nat → Bool} {n N j : Nat} (h1 : cb P n ≤ j) (h2 : j < cb P N) : n ≤ nth P N j := by
  have h := nth_in h2
  rcases Nat.lt_or_ge (nth P N j) n with q | q
  · have h3 := cb_lt (f := P) q h.2.1
    omega
  · exact q
/-- some worlds stay -/
def aCut (m : AM) (P : Nat → Bool) : AM := cmpS P m.1 (cb P m.2.1) m.2.2.1 m.2.2.2
/-- the first i worlds are cut -/
def CUf (n i : Nat) (P : Nat → Bool) (f f1 : Nat → Int32) : Prop := (∀ p, p < i → P p = true → f1 (cb P p) = f p) ∧ ∀ p, i ≤ p → f1 p = f p
theorem CUf.nil {n : Nat} {P : Nat → Bool} {f : Nat → Int32} : CUf n 0 P f f := ⟨fun p h => absurd h (Nat.not_lt_zero _), fun _ _ => rfl⟩
theorem CUf.f {n i : Nat} {P : Nat → Bool} {f f1 : Nat → Int32} (h : CUf n i P f f1) (hb : P i = false) : CUf n (i + 1) P f f1 :=
  ⟨fun p hp hP => h.1 p (Nat.lt_of_le_of_ne (by omega) (fun q => by rw [q, hb] at hP; cases hP)) hP, fun p hp => h.2 p (by omega)⟩
theorem CUf.t {n i le : Nat} {P : Nat → Bool} {f f1 f2 : Nat → Int32} {x : Int32} (h : CUf n i P f f1) (hb : P i = true) (hl : le = cb P i) (ex : f1 i = x) (e : upd f1 le x = f2) : CUf n (i + 1) P f f2 := by
  have h0 := cb_le P i
  refine ⟨fun p hp hP => ?_, fun p hp => ?_⟩
  · rw [← e]
    by_cases q : p = i
    · rw [q, hl, pk_us, ← ex, h.2 i (Nat.le_refl _)]
    · have h1 := cb_lt (f := P) (show p < i by omega) hP
      rw [pk_un (by omega)]; exact h.1 p (by omega) hP
  · rw [← e, pk_un (by omega)]; exact h.2 p (by omega)
/-- the first i worlds' rows are laid at their new places, of world i those of the first k knowers -/
def CUG (n i k : Nat) (P : Nat → Bool) (Rw : Nat → Nat → Nat → Bool) (g g1 : Nat → Int32) : Prop := (∀ k' p, k' < 4 → p < n → (p < i ∨ p = i ∧ k' < k) → P p = true → BS (g1 (k' * 24 + cb P p)) (Rw k' p)) ∧ ∀ k' p, k' < 4 → p < n → (i < p ∨ p = i ∧ k ≤ k') → g1 (k' * 24 + p) = g (k' * 24 + p)
section CUGS
variable {n i k : Nat} {P : Nat → Bool} {Rw : Nat → Nat → Nat → Bool} {g g1 g2 : Nat → Int32}
theorem CUG.nil : CUG n 0 0 P Rw g g := ⟨fun k p _ _ h => absurd h (by omega), fun _ _ _ _ _ => rfl⟩
theorem CUG.f (h : CUG n i 0 P Rw g g1) (hb : P i = false) : CUG n (i + 1) 0 P Rw g g1 :=
  ⟨fun k p hk hp hq hP => h.1 k p hk hp (Or.inl (hq.elim (fun q => Nat.lt_of_le_of_ne (by omega) (fun z => by rw [z, hb] at hP; cases hP)) (fun q => by omega))) hP, fun k p hk hp hq => h.2 k p hk hp (by omega)⟩
theorem CUG.up (h : CUG n i k P Rw g g1) (hk : k = 4) : CUG n (i + 1) 0 P Rw g g1 :=
  ⟨fun k' p a b c d => h.1 k' p a b (by omega) d, fun k' p a b c => h.2 k' p a b (by omega)⟩
theorem CUG.at (h : CUG n i k P Rw g g1) (hi : i < n) (hk : k < 4) : g1 (k * 24 + i) = g (k * 24 + i) := h.2 k i hk hi (by omega)
theorem CUG.t {le : Nat} {r : Int32} (h : CUG n i k P Rw g g1) (h24 : n ≤ 24) (hi : i < n) (hk : k < 4) (hb : P i = true) (hl : le = cb P i) (hr : BS r (Rw k i)) (e : upd g1 (k * 24 + le) r = g2) : CUG n i (k + 1) P Rw g g2 := by
  have h0 := cb_le P i
  refine ⟨fun k' p a b c d => ?_, fun k' p a b c => ?_⟩
  · have h1 := cb_le P p
    rw [← e]
    by_cases q : k' * 24 + cb P p = k * 24 + le
    · have e1 : k' = k := by omega
      have e2 : cb P p = cb P i := by omega
      have e3 : p = i := cb_inj d hb e2
      rw [q, pk_us, e1, e3]; exact hr
    · rw [pk_un q]
      refine h.1 k' p a b ?_ d
      rcases c with c | c
      · exact Or.inl c
      · refine Or.inr ⟨c.1, ?_⟩
        apply Classical.byContradiction
        intro z
        apply q
        rw [show k' = k by omega, c.1, hl]
  · rw [← e, pk_un (by omega)]; exact h.2 k' p a b (by omega)
end CUGS
abbrev SQw (sy : Int32) (g : Nat → Int32) : Nat → Nat → Nat → Bool := fun k p j => decide (j < cb (bt sy) 24) && bt (g (k * 24 + p)) (nth (bt sy) 24 j)
abbrev CUg (n i k : Nat) (sy : Int32) (g g1 : Nat → Int32) : Prop := CUG n i k (bt sy) (SQw sy g) g g1
theorem CUg.t {n i k le : Nat} {sy : Int32} {g g1 g2 : Nat → Int32} {x r : Int32} (h : CUg n i k sy g g1) (h24 : n ≤ 24) (hi : i < n) (hk : k < 4) (hb : bt sy i = true) (hl : le = cb (bt sy) i) (ex : g1 (k * 24 + i) = x) (hr : SQr x sy 24 r) (e : upd g1 (k * 24 + le) r = g2) : CUg n i (k + 1) sy g g2 :=
  CUG.t h h24 hi hk hb hl (by
    have h2 := CUG.at h hi hk
    show BS r (fun j => decide (j < cb (bt sy) 24) && bt (g (k * 24 + i)) (nth (bt sy) 24 j))
    rw [← h2, ex]; exact hr) e
theorem am_cut {n r n2 r2 i : Nat} {f g f2 g2 : Nat → Int32} {sy : Int32} (h24 : n ≤ 24) (hw : WFm (am n r f g)) (h1 : CUf n i (bt sy) f f2) (h2 : CUg n i 0 sy g g2) (hi : i = n) (hn : n2 = cb (bt sy) n) (hr : r2 = cb (bt sy) r) : am n2 r2 f2 g2 = aCut (am n r f g) (bt sy) := by
  subst hi
  have hc := cb_le (bt sy) i
  unfold aCut
  rw [hr]
  refine cmp_am hn (by omega) (fun p hp hP => ?_) (fun k p hk hp hP => (h2.1 k p hk hp (Or.inl hp) hP).cg (fun j _ => ?_))
  · rw [am_F (show p < i from hp)]; exact h1.1 p hp hP
  · have hp2 : p < i := hp
    show (decide (j < cb (bt sy) 24) && bt (g (k * 24 + p)) (nth (bt sy) 24 j)) = (decide (j < cb (bt sy) i) && (am i r f g).2.2.2 k p (nth (bt sy) i j))
    rw [am_S hk hp2]
    by_cases q : j < cb (bt sy) i
    · rw [decide_eq_true q, nth_up h24 q, decide_eq_true (Nat.lt_of_lt_of_le q (cb_mono (bt sy) h24))]
    · rw [decide_eq_false q, Bool.false_and]
      by_cases z : j < cb (bt sy) 24
      · rw [decide_eq_true z, Bool.true_and]
        have h3 := nth_ge (N := 24) (show cb (bt sy) i ≤ j by omega) z
        cases hb : bt (g (k * 24 + p)) (nth (bt sy) 24 j) with
        | false => rfl
        | true =>
          have h4 := hw k p (nth (bt sy) 24 j) (by rw [am_S hk hp2]; exact hb)
          have h5 : nth (bt sy) 24 j < i := h4
          omega
      · rw [decide_eq_false z, Bool.false_and]
