theorem uw_of {C : String} {T : u_T} {N : Nat} (ps : List Nat) (h : ∀ k, k < N → (ps[k]?.bind (fun i => tables_1[i]?)) = some (u_lay C T k)) (g : ∀ k, k < N → goodWord (u_lay C T k) = true) : ∀ w ∈ u_ws C T N, w ∈ TB := by
  intro w hw
  obtain ⟨k, hk, rfl⟩ := List.mem_map.mp hw
  have hk := List.mem_range.mp hk
  have h1 := h k hk
  cases hp : ps[k]? with
  | none => rw [hp] at h1; cases h1
  | some i => rw [hp] at h1; exact tbm (List.mem_append_right _ (List.mem_of_getElem? h1)) (g k hk)
theorem vup_s {α : Type} {f : Nat → α} {k : Nat} {v : α} : va_up f k v k = v := by simp [va_up]
theorem vup_n {α : Type} {f : Nat → α} {k j : Nat} {v : α} (h : j ≠ k) : va_up f k v j = f j := by simp [va_up, h]
theorem lc_v (x y : Int64) : (x.toInt < y.toInt ∧ lg_cmp x y = -1) ∨ (x.toInt = y.toInt ∧ lg_cmp x y = 0) ∨ (y.toInt < x.toInt ∧ lg_cmp x y = 1) := by
  unfold lg_cmp
  simp only [gt_iff_lt, Int64.lt_iff_toInt_lt, ← Int64.toInt_inj]
  by_cases h1 : y.toInt < x.toInt
  · exact Or.inr (Or.inr ⟨h1, by simp [h1]⟩)
  · by_cases h2 : x.toInt = y.toInt
    · exact Or.inr (Or.inl ⟨h2, by simp [h2]⟩)
    · exact Or.inl ⟨by omega, by simp [h1, h2]⟩
theorem lc_lt_t {x y : Int64} {a b : Int} (hx : x.toInt = a) (hy : y.toInt = b) (h : lg_cmp x y < 0) : a < b := by
  subst hx; subst hy
  rcases lc_v x y with ⟨h1, h2⟩ | ⟨h1, h2⟩ | ⟨h1, h2⟩ <;> rw [h2] at h <;> first | omega | (exact absurd h (by decide))
theorem lc_lt_f {x y : Int64} {a b : Int} (hx : x.toInt = a) (hy : y.toInt = b) (h : ¬ (lg_cmp x y < 0)) : a ≥ b := by
  subst hx; subst hy
  rcases lc_v x y with ⟨h1, h2⟩ | ⟨h1, h2⟩ | ⟨h1, h2⟩ <;> rw [h2] at h <;> first | omega | (exact absurd h (by decide))
theorem lc_ge_t {x y : Int64} {a b : Int} (hx : x.toInt = a) (hy : y.toInt = b) (h : 0 ≤ lg_cmp x y) : a ≥ b := by
  subst hx; subst hy
  rcases lc_v x y with ⟨h1, h2⟩ | ⟨h1, h2⟩ | ⟨h1, h2⟩ <;> rw [h2] at h <;> first | omega | (exact absurd h (by decide))
theorem lc_ge_f {x y : Int64} {a b : Int} (hx : x.toInt = a) (hy : y.toInt = b) (h : ¬ (0 ≤ lg_cmp x y)) : a < b := by
  subst hx; subst hy
  rcases lc_v x y with ⟨h1, h2⟩ | ⟨h1, h2⟩ | ⟨h1, h2⟩ <;> rw [h2] at h <;> first | omega | (exact absurd h (by decide))
theorem lc_gt_t {x y : Int64} {a b : Int} (hx : x.toInt = a) (hy : y.toInt = b) (h : 0 < lg_cmp x y) : a > b := by
  subst hx; subst hy
  rcases lc_v x y with ⟨h1, h2⟩ | ⟨h1, h2⟩ | ⟨h1, h2⟩ <;> rw [h2] at h <;> first | omega | (exact absurd h (by decide))
theorem lc_gt_f {x y : Int64} {a b : Int} (hx : x.toInt = a) (hy : y.toInt = b) (h : ¬ (0 < lg_cmp x y)) : a ≤ b := by
  subst hx; subst hy
  rcases lc_v x y with ⟨h1, h2⟩ | ⟨h1, h2⟩ | ⟨h1, h2⟩ <;> rw [h2] at h <;> first | omega | (exact absurd h (by decide))
theorem lc_le_t {x y : Int64} {a b : Int} (hx : x.toInt = a) (hy : y.toInt = b) (h : lg_cmp x y ≤ 0) : a ≤ b := by
  subst hx; subst hy
  rcases lc_v x y with ⟨h1, h2⟩ | ⟨h1, h2⟩ | ⟨h1, h2⟩ <;> rw [h2] at h <;> first | omega | (exact absurd h (by decide))
theorem lc_le_f {x y : Int64} {a b : Int} (hx : x.toInt = a) (hy : y.toInt = b) (h : ¬ (lg_cmp x y ≤ 0)) : a > b := by
  subst hx; subst hy
  rcases lc_v x y with ⟨h1, h2⟩ | ⟨h1, h2⟩ | ⟨h1, h2⟩ <;> rw [h2] at h <;> first | omega | (exact absurd h (by decide))
theorem lc_eq_t {x y : Int64} {a b : Int} (hx : x.toInt = a) (hy : y.toInt = b) (h : lg_cmp x y = 0) : a = b := by
  subst hx; subst hy
  rcases lc_v x y with ⟨h1, h2⟩ | ⟨h1, h2⟩ | ⟨h1, h2⟩ <;> rw [h2] at h <;> first | omega | (exact absurd h (by decide))
theorem lc_eq_f {x y : Int64} {a b : Int} (hx : x.toInt = a) (hy : y.toInt = b) (h : ¬ (lg_cmp x y = 0)) : a ≠ b := by
  subst hx; subst hy
  rcases lc_v x y with ⟨h1, h2⟩ | ⟨h1, h2⟩ | ⟨h1, h2⟩ <;> rw [h2] at h <;> first | omega | (exact absurd h (by decide))
theorem lc_ne_t {x y : Int64} {a b : Int} (hx : x.toInt = a) (hy : y.toInt = b) (h : ¬ lg_cmp x y = 0) : a ≠ b := by
  subst hx; subst hy
  rcases lc_v x y with ⟨h1, h2⟩ | ⟨h1, h2⟩ | ⟨h1, h2⟩ <;> rw [h2] at h <;> first | omega | (exact absurd h (by decide))
theorem lc_ne_f {x y : Int64} {a b : Int} (hx : x.toInt = a) (hy : y.toInt = b) (h : lg_cmp x y = 0) : a = b := by
  subst hx; subst hy
  rcases lc_v x y with ⟨h1, h2⟩ | ⟨h1, h2⟩ | ⟨h1, h2⟩ <;> rw [h2] at h <;> first | omega | (exact absurd h (by decide))
theorem sp_0_1 {x : Int32} (h0 : (0 : Int) ≤ x.toInt) (h1 : x.toInt ≤ 1) : x = 0 ∨ x = 1 := by
  simp only [← Int32.toInt_inj]
  have e : ∀ c : Int32, c.toInt = c.toInt := fun _ => rfl
  have e0 : (0 : Int32).toInt = 0 := rfl
  have e1 : (1 : Int32).toInt = 1 := rfl
  omega
theorem sp_0_2 {x : Int32} (h0 : (0 : Int) ≤ x.toInt) (h1 : x.toInt ≤ 2) : x = 0 ∨ x = 1 ∨ x = 2 := by
  simp only [← Int32.toInt_inj]
  have e : ∀ c : Int32, c.toInt = c.toInt := fun _ => rfl
  have e0 : (0 : Int32).toInt = 0 := rfl
  have e1 : (1 : Int32).toInt = 1 := rfl
  have e2 : (2 : Int32).toInt = 2 := rfl
  omega
theorem sp_0_3 {x : Int32} (h0 : (0 : Int) ≤ x.toInt) (h1 : x.toInt ≤ 3) : x = 0 ∨ x = 1 ∨ x = 2 ∨ x = 3 := by
  simp only [← Int32.toInt_inj]
  have e : ∀ c : Int32, c.toInt = c.toInt := fun _ => rfl
  have e0 : (0 : Int32).toInt = 0 := rfl
  have e1 : (1 : Int32).toInt = 1 := rfl
  have e2 : (2 : Int32).toInt = 2 := rfl
  have e3 : (3 : Int32).toInt = 3 := rfl
  omega
theorem sp_0_7 {x : Int32} (h0 : (0 : Int) ≤ x.toInt) (h1 : x.toInt ≤ 7) : x = 0 ∨ x = 1 ∨ x = 2 ∨ x = 3 ∨ x = 4 ∨ x = 5 ∨ x = 6 ∨ x = 7 := by
  simp only [← Int32.toInt_inj]
  have e : ∀ c : Int32, c.toInt = c.toInt := fun _ => rfl
  have e0 : (0 : Int32).toInt = 0 := rfl
  have e1 : (1 : Int32).toInt = 1 := rfl
  have e2 : (2 : Int32).toInt = 2 := rfl
  have e3 : (3 : Int32).toInt = 3 := rfl
  have e4 : (4 : Int32).toInt = 4 := rfl
  have e5 : (5 : Int32).toInt = 5 := rfl
  have e6 : (6 : Int32).toInt = 6 := rfl
  have e7 : (7 : Int32).toInt = 7 := rfl
  omega
theorem sp_0_8 {x : Int32} (h0 : (0 : Int) ≤ x.toInt) (h1 : x.toInt ≤ 8) : x = 0 ∨ x = 1 ∨ x = 2 ∨ x = 3 ∨ x = 4 ∨ x = 5 ∨ x = 6 ∨ x = 7 ∨ x = 8 := by
  simp only [← Int32.toInt_inj]
  have e : ∀ c : Int32, c.toInt = c.toInt := fun _ => rfl
  have e0 : (0 : Int32).toInt = 0 := rfl
  have e1 : (1 : Int32).toInt = 1 := rfl
  have e2 : (2 : Int32).toInt = 2 := rfl
  have e3 : (3 : Int32).toInt = 3 := rfl
  have e4 : (4 : Int32).toInt = 4 := rfl
  have e5 : (5 : Int32).toInt = 5 := rfl
  have e6 : (6 : Int32).toInt = 6 := rfl
  have e7 : (7 : Int32).toInt = 7 := rfl
  have e8 : (8 : Int32).toInt = 8 := rfl
  omega
theorem sp_1_4 {x : Int32} (h0 : (1 : Int) ≤ x.toInt) (h1 : x.toInt ≤ 4) : x = 1 ∨ x = 2 ∨ x = 3 ∨ x = 4 := by
  simp only [← Int32.toInt_inj]
  have e : ∀ c : Int32, c.toInt = c.toInt := fun _ => rfl
  have e1 : (1 : Int32).toInt = 1 := rfl
  have e2 : (2 : Int32).toInt = 2 := rfl
  have e3 : (3 : Int32).toInt = 3 := rfl
  have e4 : (4 : Int32).toInt = 4 := rfl
  omega
theorem sp_2_4 {x : Int32} (h0 : (2 : Int) ≤ x.toInt) (h1 : x.toInt ≤ 4) : x = 2 ∨ x = 3 ∨ x = 4 := by
  simp only [← Int32.toInt_inj]
  have e : ∀ c : Int32, c.toInt = c.toInt := fun _ => rfl
  have e2 : (2 : Int32).toInt = 2 := rfl
  have e3 : (3 : Int32).toInt = 3 := rfl
  have e4 : (4 : Int32).toInt = 4 := rfl
  omega
theorem sp_0_37 {x : Int32} (h0 : (0 : Int) ≤ x.toInt) (h1 : x.toInt ≤ 37) : x = 0 ∨ x = 1 ∨ x = 2 ∨ x = 3 ∨ x = 4 ∨ x = 5 ∨ x = 6 ∨ x = 7 ∨ x = 8 ∨ x = 9 ∨ x = 10 ∨ x = 11 ∨ x = 12 ∨ x = 13 ∨ x = 14 ∨ x = 15 ∨ x = 16 ∨ x = 17 ∨ x = 18 ∨ x = 19 ∨ x = 20 ∨ x = 21 ∨ x = 22 ∨ x = 23 ∨ x = 24 ∨ x = 25 ∨ x = 26 ∨ x = 27 ∨ x = 28 ∨ x = 29 ∨ x = 30 ∨ x = 31 ∨ x = 32 ∨ x = 33 ∨ x = 34 ∨ x = 35 ∨ x = 36 ∨ x = 37 := by
  simp only [← Int32.toInt_inj]
  have e : ∀ c : Int32, c.toInt = c.toInt := fun _ => rfl
  have e0 : (0 : Int32).toInt = 0 := rfl
  have e1 : (1 : Int32).toInt = 1 := rfl
  have e2 : (2 : Int32).toInt = 2 := rfl
  have e3 : (3 : Int32).toInt = 3 := rfl
  have e4 : (4 : Int32).toInt = 4 := rfl
  have e5 : (5 : Int32).toInt = 5 := rfl
  have e6 : (6 : Int32).toInt = 6 := rfl
  have e7 : (7 : Int32).toInt = 7 := rfl
  have e8 : (8 : Int32).toInt = 8 := rfl
  have e9 : (9 : Int32).toInt = 9 := rfl
  have e10 : (10 : Int32).toInt = 10 := rfl
  have e11 : (11 : Int32).toInt = 11 := rfl
  have e12 : (12 : Int32).toInt = 12 := rfl
  have e13 : (13 : Int32).toInt = 13 := rfl
  have e14 : (14 : Int32).toInt = 14 := rfl
  have e15 : (15 : Int32).toInt = 15 := rfl
  have e16 : (16 : Int32).toInt = 16 := rfl
  have e17 : (17 : Int32).toInt = 17 := rfl
  have e18 : (18 : Int32).toInt = 18 := rfl
  have e19 : (19 : Int32).toInt = 19 := rfl
  have e20 : (20 : Int32).toInt = 20 := rfl
  have e21 : (21 : Int32).toInt = 21 := rfl
  have e22 : (22 : Int32).toInt = 22 := rfl
  have e23 : (23 : Int32).toInt = 23 := rfl
  have e24 : (24 : Int32).toInt = 24 := rfl
  have e25 : (25 : Int32).toInt = 25 := rfl
  have e26 : (26 : Int32).toInt = 26 := rfl
  have e27 : (27 : Int32).toInt = 27 := rfl
  have e28 : (28 : Int32).toInt = 28 := rfl
  have e29 : (29 : Int32).toInt = 29 := rfl
  have e30 : (30 : Int32).toInt = 30 := rfl
  have e31 : (31 : Int32).toInt = 31 := rfl
  have e32 : (32 : Int32).toInt = 32 := rfl
  have e33 : (33 : Int32).toInt = 33 := rfl
  have e34 : (34 : Int32).toInt = 34 := rfl
  have e35 : (35 : Int32).toInt = 35 := rfl
  have e36 : (36 : Int32).toInt = 36 := rfl
  have e37 : (37 : Int32).toInt = 37 := rfl
  omega
theorem sp_0_6 {x : Int32} (h0 : (0 : Int) ≤ x.toInt) (h1 : x.toInt ≤ 6) : x = 0 ∨ x = 1 ∨ x = 2 ∨ x = 3 ∨ x = 4 ∨ x = 5 ∨ x = 6 := by
  simp only [← Int32.toInt_inj]
  have e : ∀ c : Int32, c.toInt = c.toInt := fun _ => rfl
  have e0 : (0 : Int32).toInt = 0 := rfl
  have e1 : (1 : Int32).toInt = 1 := rfl
  have e2 : (2 : Int32).toInt = 2 := rfl
  have e3 : (3 : Int32).toInt = 3 := rfl
  have e4 : (4 : Int32).toInt = 4 := rfl
  have e5 : (5 : Int32).toInt = 5 := rfl
  have e6 : (6 : Int32).toInt = 6 := rfl
  omega
theorem sp_10_13 {x : Int32} (h0 : (10 : Int) ≤ x.toInt) (h1 : x.toInt ≤ 13) : x = 10 ∨ x = 11 ∨ x = 12 ∨ x = 13 := by
  simp only [← Int32.toInt_inj]
  have e : ∀ c : Int32, c.toInt = c.toInt := fun _ => rfl
  have e10 : (10 : Int32).toInt = 10 := rfl
  have e11 : (11 : Int32).toInt = 11 := rfl
  have e12 : (12 : Int32).toInt = 12 := rfl
  have e13 : (13 : Int32).toInt = 13 := rfl
  omega
theorem sp_1_15 {x : Int32} (h0 : (1 : Int) ≤ x.toInt) (h1 : x.toInt ≤ 15) : x = 1 ∨ x = 2 ∨ x = 3 ∨ x = 4 ∨ x = 5 ∨ x = 6 ∨ x = 7 ∨ x = 8 ∨ x = 9 ∨ x = 10 ∨ x = 11 ∨ x = 12 ∨ x = 13 ∨ x = 14 ∨ x = 15 := by
  obtain ⟨j, hj, rfl⟩ := i_nat (N := 15) (by omega) h1
  have h2 := nI_toInt (n := j) (by omega)
  rw [h2] at h0
  have h3 : j = 1 ∨ j = 2 ∨ j = 3 ∨ j = 4 ∨ j = 5 ∨ j = 6 ∨ j = 7 ∨ j = 8 ∨ j = 9 ∨ j = 10 ∨ j = 11 ∨ j = 12 ∨ j = 13 ∨ j = 14 ∨ j = 15 := by omega
  rcases h3 with rfl | rfl | rfl | rfl | rfl | rfl | rfl | rfl | rfl | rfl | rfl | rfl | rfl | rfl | rfl <;> decide
theorem nb4 {x : Int32} (h0 : (1 : Int) ≤ x.toInt) (h1 : x.toInt ≤ 15) (a0 : x >>> ((0 : Int32) &&& 31) &&& 1 = 0) (a1 : x >>> ((1 : Int32) &&& 31) &&& 1 = 0) (a2 : x >>> ((2 : Int32) &&& 31) &&& 1 = 0) (a3 : x >>> ((3 : Int32) &&& 31) &&& 1 = 0) : False := by
  rcases sp_1_15 h0 h1 with rfl | rfl | rfl | rfl | rfl | rfl | rfl | rfl | rfl | rfl | rfl | rfl | rfl | rfl | rfl <;> first | exact absurd a0 (by decide) | exact absurd a1 (by decide) | exact absurd a2 (by decide) | exact absurd a3 (by decide)
theorem nb4e {x a0 a1 a2 a3 b0 b1 b2 b3 : Int32} (h0 : (1 : Int) ≤ x.toInt) (h1 : x.toInt ≤ 15) (e0 : x >>> ((0 : Int32) &&& 31) = a0) (e1 : x >>> ((1 : Int32) &&& 31) = a1) (e2 : x >>> ((2 : Int32) &&& 31) = a2) (e3 : x >>> ((3 : Int32) &&& 31) = a3) (f0 : a0 &&& (1 : Int32) = b0) (f1 : a1 &&& (1 : Int32) = b1) (f2 : a2 &&& (1 : Int32) = b2) (f3 : a3 &&& (1 : Int32) = b3) (g0 : b0 = 0) (g1 : b1 = 0) (g2 : b2 = 0) (g3 : b3 = 0) : False := by
  subst e0; subst e1; subst e2; subst e3; subst f0; subst f1; subst f2; subst f3
  exact nb4 h0 h1 g0 g1 g2 g3
theorem i_sub {x y : Int32} {a b : Int} (hx : x.toInt = a) (hy : y.toInt = b) (h1 : -2147483648 ≤ a - b) (h2 : a - b < 2147483648) : (x - y).toInt = a - b := by
  subst hx; subst hy
  rw [Int32.toInt_sub, Int.bmod_eq_of_le (by omega) (by omega)]
theorem i_add {x y : Int32} {a b : Int} (hx : x.toInt = a) (hy : y.toInt = b) (h1 : -2147483648 ≤ a + b) (h2 : a + b < 2147483648) : (x + y).toInt = a + b := by
  subst hx; subst hy
  rw [Int32.toInt_add, Int.bmod_eq_of_le (by omega) (by omega)]
theorem nI_min {a b : Nat} (ha : a < 2 ^ 31) (hb : b < 2 ^ 31) : (if nI b < nI a then nI b else nI a) = nI (min a b) := by
  by_cases h : b < a
  · rw [if_pos (nI_lt h ha), Nat.min_eq_right (Nat.le_of_lt h)]
  · rw [if_neg (nI_nlt (by omega) hb), Nat.min_eq_left (by omega)]
theorem has_0 {b p x : Int32} {j : Nat} (e : b >>> (p &&& 31) = x) (ej : x &&& 1 = nI j) (hz : j = 0) : b >>> (p &&& 31) &&& 1 = 0 := by
  subst e; rw [ej, hz]; rfl
theorem has_1 {b p x : Int32} {j : Nat} (e : b >>> (p &&& 31) = x) (ej : x &&& 1 = nI j) (hz : j = 1) : ¬ (b >>> (p &&& 31) &&& 1 = 0) := by
  subst e; rw [ej, hz]; decide
theorem nI_subc {a c : Nat} {m : Int32} (h : c ≤ a) (hm : m = -nI c) : nI a + m = nI (a - c) := by
  rw [hm, ← pk_sub h, Int32.sub_eq_add_neg]
theorem nI_ex {x : Int32} {n : Nat} (h0 : 0 ≤ x.toInt) (h1 : x.toInt ≤ n) : ∃ j : Nat, x = nI j ∧ j ≤ n := by
  obtain ⟨j, h2, h3⟩ := i_nat h0 h1
  exact ⟨j, h3, h2⟩
theorem ldn {α : Type} {f : Nat → α} {j : Nat} {v : α} (h : j < 2 ^ 31) (e : f j = v) : f (nI j).toNatClampNeg = v := by rw [nI_clamp h]; exact e
theorem ldn2 {α β : Type} {F : (Nat → α) → Nat → β → (Nat → α)} {f g : Nat → α} {j : Nat} {v : β} (h : j < 2 ^ 31) (e : F f j v = g) : F f (nI j).toNatClampNeg v = g := by rw [nI_clamp h]; exact e
theorem i_dec {x y : Int32} {a c : Int} (hx : x.toInt = a) (hy : y.toInt = -c) (h1 : -2147483648 ≤ a - c) (h2 : a - c < 2147483648) : (x + y).toInt = a - c := by
  have := i_add hx hy (by omega) (by omega)
  omega
