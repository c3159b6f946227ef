/-! ===== Int32 by its bits: bt x i ===== -/
def bt (x : Int32) (i : Nat) : Bool := x.toBitVec.getLsbD i
theorem b_ext {x y : Int32} (h : ∀ i, i < 32 → bt x i = bt y i) : x = y := Int32.toBitVec_inj.mp (BitVec.eq_of_getLsbD_eq (fun i hi => h i hi))
theorem b_or (x y : Int32) (i : Nat) : bt (x ||| y) i = (bt x i || bt y i) := by unfold bt; rw [Int32.toBitVec_or, BitVec.getLsbD_or]
theorem b_and (x y : Int32) (i : Nat) : bt (x &&& y) i = (bt x i && bt y i) := by unfold bt; rw [Int32.toBitVec_and, BitVec.getLsbD_and]
theorem b_xor (x y : Int32) (i : Nat) : bt (x ^^^ y) i = (bt x i ^^ bt y i) := by unfold bt; rw [Int32.toBitVec_xor, BitVec.getLsbD_xor]
theorem b_big {x : Int32} {i : Nat} (h : 32 ≤ i) : bt x i = false := BitVec.getLsbD_of_ge _ _ h
theorem b_255 (i : Nat) : bt 255 i = decide (i < 8) := by
  rcases Nat.lt_or_ge i 32 with h | h
  · exact (by decide +kernel : ∀ i, i < 32 → bt 255 i = decide (i < 8)) i h
  · rw [b_big h, decide_eq_false (by omega)]
theorem b_65535 (i : Nat) : bt 65535 i = decide (i < 16) := by
  rcases Nat.lt_or_ge i 32 with h | h
  · exact (by decide +kernel : ∀ i, i < 32 → bt 65535 i = decide (i < 16)) i h
  · rw [b_big h, decide_eq_false (by omega)]
theorem b_m1 : ∀ i, i < 32 → bt (-1) i = true := by decide +kernel
theorem b_0 (i : Nat) : bt 0 i = false := BitVec.getLsbD_zero
theorem s_l : ∀ n, n < 32 → ((nI n &&& 31).toBitVec.smod 32).toNat = n := by decide +kernel
theorem s_u : ∀ n, n < 32 → (((nI n).toUInt32 &&& Int32.toUInt32 31).toBitVec % 32).toNat = n := by decide +kernel
theorem b_shl (n : Nat) (hn : n < 32) (x : Int32) {i : Nat} (hi : i < 32) : bt (x <<< (nI n &&& 31)) i = (decide (n ≤ i) && bt x (i - n)) := by
  unfold bt
  rw [Int32.toBitVec_shiftLeft]
  show (x.toBitVec <<< ((nI n &&& 31).toBitVec.smod 32).toNat).getLsbD i = _
  rw [s_l n hn, BitVec.getLsbD_shiftLeft]
  rcases Nat.lt_or_ge i n with h | h
  · simp [h, Nat.not_le.mpr h]
  · simp [hi, h, Nat.not_lt.mpr h]
theorem b_ushr (n : Nat) (hn : n < 32) (x : Int32) (i : Nat) : bt ((x.toUInt32 >>> ((nI n).toUInt32 &&& Int32.toUInt32 31)).toInt32) i = bt x (n + i) := by
  show (x.toUInt32 >>> ((nI n).toUInt32 &&& Int32.toUInt32 31)).toBitVec.getLsbD i = x.toUInt32.toBitVec.getLsbD (n + i)
  rw [UInt32.toBitVec_shiftRight]
  show (x.toUInt32.toBitVec >>> (((nI n).toUInt32 &&& Int32.toUInt32 31).toBitVec % 32).toNat).getLsbD i = _
  rw [s_u n hn, BitVec.getLsbD_ushiftRight]
theorem b_sshr (n : Nat) (hn : n < 32) (x : Int32) {i : Nat} (hi : i < 32) : bt (x >>> (nI n &&& 31)) i = if n + i < 32 then bt x (n + i) else bt x 31 := by
  unfold bt
  rw [Int32.toBitVec_shiftRight]
  show (x.toBitVec.sshiftRight ((nI n &&& 31).toBitVec.smod 32).toNat).getLsbD i = _
  rw [s_l n hn, BitVec.getLsbD_sshiftRight, BitVec.msb_eq_getLsbD_last]
  simp [hi]
theorem b_shl8 (x : Int32) {i : Nat} (hi : i < 32) : bt (x <<< ((8 : Int32) &&& 31)) i = (decide (8 ≤ i) && bt x (i - 8)) := b_shl 8 (by omega) x hi
theorem b_shl16 (x : Int32) {i : Nat} (hi : i < 32) : bt (x <<< ((16 : Int32) &&& 31)) i = (decide (16 ≤ i) && bt x (i - 16)) := b_shl 16 (by omega) x hi
theorem b_shl24 (x : Int32) {i : Nat} (hi : i < 32) : bt (x <<< ((24 : Int32) &&& 31)) i = (decide (24 ≤ i) && bt x (i - 24)) := b_shl 24 (by omega) x hi
theorem b_sshr8 (x : Int32) {i : Nat} (hi : i < 32) : bt (x >>> ((8 : Int32) &&& 31)) i = if 8 + i < 32 then bt x (8 + i) else bt x 31 := b_sshr 8 (by omega) x hi

theorem bt_nI {n i : Nat} (h : n < 2 ^ 32) : bt (nI n) i = n.testBit i := by
  unfold bt
  rw [← BitVec.testBit_toNat, pk_tn h]
theorem b_one : ∀ i, i < 32 → bt 1 i = decide (i = 0) := by decide +kernel
theorem and1_0 (x : Int32) : x &&& 1 = 0 ↔ bt x 0 = false := by
  constructor
  · intro h
    have h1 := b_and x 1 0
    rw [h, b_0, b_one 0 (by omega)] at h1
    simpa using h1.symm
  · intro h
    apply b_ext
    intro i hi
    rw [b_and, b_0, b_one i hi]
    by_cases h0 : i = 0
    · rw [h0, h]; rfl
    · simp [h0]
theorem shr_b (x : Int32) {p : Nat} (hp : p < 32) : bt (x >>> (nI p &&& 31)) 0 = bt x p := by
  rw [b_sshr p hp x (by omega), if_pos (by omega)]; rfl
theorem hasb_0 {b x : Int32} {p j : Nat} (hp : p < 32) (e : b >>> (nI p &&& 31) = x) (ej : x &&& 1 = nI j) (hz : j = 0) : bt b p = false := by
  subst e; rw [hz] at ej; rw [← shr_b b hp]; exact (and1_0 _).mp ej
theorem hasb_1 {b x : Int32} {p j : Nat} (hp : p < 32) (e : b >>> (nI p &&& 31) = x) (ej : x &&& 1 = nI j) (hz : j = 1) : bt b p = true := by
  subst e; rw [hz] at ej; rw [← shr_b b hp]
  cases hb : bt (b >>> (nI p &&& 31)) 0 with
  | true => rfl
  | false => rw [(and1_0 _).mpr hb] at ej; exact absurd ej (by decide)
/-! how many bits are set: Integer.bitCount counts them -/
def cb (f : Nat → Bool) : Nat → Nat
  | 0 => 0
  | n + 1 => cb f n + (if f n then 1 else 0)
theorem cb_le (f : Nat → Bool) (n : Nat) : cb f n ≤ n := by
  induction n with
  | zero => exact Nat.le_refl _
  | succ n ih => simp only [cb]; split <;> omega
theorem cb_congr {f g : Nat → Bool} {n : Nat} (h : ∀ i, i < n → f i = g i) : cb f n = cb g n := by
  induction n with
  | zero => rfl
  | succ n ih => simp only [cb]; rw [ih (fun i hi => h i (by omega)), h n (by omega)]
theorem cb_add (f : Nat → Bool) (m n : Nat) : cb f (m + n) = cb f m + cb (fun i => f (m + i)) n := by
  induction n with
  | zero => rfl
  | succ n ih =>
    show cb f (m + n) + (if f (m + n) then 1 else 0) = cb f m + (cb (fun i => f (m + i)) n + (if f (m + n) then 1 else 0))
    rw [ih]; omega
theorem cb_zero {f : Nat → Bool} {n : Nat} (h : ∀ i, i < n → f i = false) : cb f n = 0 := by
  induction n with
  | zero => rfl
  | succ n ih => simp only [cb]; rw [ih (fun i hi => h i (by omega)), h n (by omega)]; simp
theorem and_dig {u v m M : Nat} (hu : u < 256) (hm : m < 256) : (u + 256 * v) &&& (m + 256 * M) = (u &&& m) + 256 * (v &&& M) := by
  have e1 : u + 256 * v = 2 ^ 8 * v + u := by omega
  have e2 : m + 256 * M = 2 ^ 8 * M + m := by omega
  have e3 : (u &&& m) + 256 * (v &&& M) = 2 ^ 8 * (v &&& M) + (u &&& m) := by omega
  have h3 : u &&& m < 2 ^ 8 := Nat.lt_of_le_of_lt Nat.and_le_left (by omega)
  rw [e1, e2, e3]
  apply Nat.eq_of_testBit_eq
  intro i
  rw [Nat.testBit_and, Nat.testBit_two_pow_mul_add _ (by omega), Nat.testBit_two_pow_mul_add _ (by omega), Nat.testBit_two_pow_mul_add _ h3]
  split
  · rw [Nat.testBit_and]
  · rw [Nat.testBit_and]
def p8 (t : Nat) : Nat := (t / 2) &&& 0x55
def q8 (t : Nat) : Nat := t - p8 t
def r8 (t : Nat) : Nat := (q8 t &&& 0x33) + ((q8 t / 4) &&& 0x33)
def c8 (t : Nat) : Nat := (r8 t + r8 t / 16) &&& 0x0f
theorem t_p8 : ∀ a, a < 256 → ∀ e, e < 2 → (a / 2 + 128 * e) &&& 0x55 = p8 a := by decide +kernel
theorem t_p8le : ∀ a, a < 256 → p8 a ≤ a ∧ q8 a < 256 := by decide +kernel
theorem t_q8 : ∀ a, a < 256 → ∀ e, e < 4 → (q8 a / 4 + 64 * e) &&& 0x33 = (q8 a / 4) &&& 0x33 := by decide +kernel
theorem t_r8 : ∀ a, a < 256 → r8 a ≤ 68 ∧ r8 a % 16 ≤ 4 ∧ r8 a / 16 ≤ 4 := by decide +kernel
theorem t_c8 : ∀ a, a < 256 → ∀ e, e < 5 → (r8 a + r8 a / 16 + 16 * e) &&& 0x0f = c8 a := by decide +kernel
theorem t_c8b : ∀ a, a < 256 → c8 a = cb a.testBit 8 ∧ c8 a ≤ 8 := by decide +kernel
theorem s_1 {a b c d : Nat} (ha : a < 256) (hb : b < 256) (hc : c < 256) (hd : d < 256) : ((a + 256 * (b + 256 * (c + 256 * d))) / 2) &&& 1431655765 = p8 a + 256 * (p8 b + 256 * (p8 c + 256 * p8 d)) := by
  have e1 : (a + 256 * (b + 256 * (c + 256 * d))) / 2 = (a / 2 + 128 * (b % 2)) + 256 * ((b / 2 + 128 * (c % 2)) + 256 * ((c / 2 + 128 * (d % 2)) + 256 * (d / 2))) := by omega
  have e2 : (1431655765 : Nat) = 0x55 + 256 * (0x55 + 256 * (0x55 + 256 * 0x55)) := by decide
  rw [e1, e2, and_dig (by omega) (by omega), and_dig (by omega) (by omega), and_dig (by omega) (by omega), t_p8 a ha _ (by omega), t_p8 b hb _ (by omega), t_p8 c hc _ (by omega)]
  rfl
theorem s_2 {a b c d : Nat} (ha : a < 256) (hb : b < 256) (hc : c < 256) (hd : d < 256) : ((q8 a + 256 * (q8 b + 256 * (q8 c + 256 * q8 d))) &&& 858993459) + (((q8 a + 256 * (q8 b + 256 * (q8 c + 256 * q8 d))) / 4) &&& 858993459) = r8 a + 256 * (r8 b + 256 * (r8 c + 256 * r8 d)) := by
  have ia := (t_p8le a ha).2
  have ib := (t_p8le b hb).2
  have ic := (t_p8le c hc).2
  have id' := (t_p8le d hd).2
  have e1 : (q8 a + 256 * (q8 b + 256 * (q8 c + 256 * q8 d))) / 4 = (q8 a / 4 + 64 * (q8 b % 4)) + 256 * ((q8 b / 4 + 64 * (q8 c % 4)) + 256 * ((q8 c / 4 + 64 * (q8 d % 4)) + 256 * (q8 d / 4))) := by omega
  have e2 : (858993459 : Nat) = 0x33 + 256 * (0x33 + 256 * (0x33 + 256 * 0x33)) := by decide
  rw [e1, e2, and_dig ia (by omega), and_dig ib (by omega), and_dig ic (by omega), and_dig (by omega) (by omega), and_dig (by omega) (by omega), and_dig (by omega) (by omega), t_q8 a ha _ (by omega), t_q8 b hb _ (by omega), t_q8 c hc _ (by omega)]
  unfold r8
  omega
theorem s_3 {a b c d : Nat} (ha : a < 256) (hb : b < 256) (hc : c < 256) (hd : d < 256) : ((r8 a + 256 * (r8 b + 256 * (r8 c + 256 * r8 d))) + (r8 a + 256 * (r8 b + 256 * (r8 c + 256 * r8 d))) / 16) &&& 252645135 = c8 a + 256 * (c8 b + 256 * (c8 c + 256 * c8 d)) := by
  have ia := t_r8 a ha
  have ib := t_r8 b hb
  have ic := t_r8 c hc
  have id' := t_r8 d hd
  have e1 : (r8 a + 256 * (r8 b + 256 * (r8 c + 256 * r8 d))) + (r8 a + 256 * (r8 b + 256 * (r8 c + 256 * r8 d))) / 16 = (r8 a + r8 a / 16 + 16 * (r8 b % 16)) + 256 * ((r8 b + r8 b / 16 + 16 * (r8 c % 16)) + 256 * ((r8 c + r8 c / 16 + 16 * (r8 d % 16)) + 256 * (r8 d + r8 d / 16))) := by omega
  have e2 : (252645135 : Nat) = 0x0f + 256 * (0x0f + 256 * (0x0f + 256 * 0x0f)) := by decide
  rw [e1, e2, and_dig (by omega) (by omega), and_dig (by omega) (by omega), and_dig (by omega) (by omega), t_c8 a ha _ (by omega), t_c8 b hb _ (by omega), t_c8 c hc _ (by omega)]
  rfl
theorem nI_tn {n : Nat} (h : n < 2 ^ 32) : (nI n).toBitVec.toNat = n := pk_tn h
theorem i_ext {x y : Int32} (h : x.toBitVec.toNat = y.toBitVec.toNat) : x = y := by
  apply Int32.toBitVec_inj.mp
  exact BitVec.eq_of_toNat_eq h
theorem nI_and {a b : Nat} (ha : a < 2 ^ 32) (hb : b < 2 ^ 32) : nI a &&& nI b = nI (a &&& b) := by
  apply i_ext
  rw [nI_tn (Nat.lt_of_le_of_lt Nat.and_le_left ha)]
  show ((nI a).toBitVec &&& (nI b).toBitVec).toNat = _
  rw [BitVec.toNat_and, nI_tn ha, nI_tn hb]
theorem i_nI (x : Int32) : ∃ n : Nat, n < 2 ^ 32 ∧ x = nI n := ⟨x.toBitVec.toNat, x.toBitVec.isLt, i_ext (nI_tn x.toBitVec.isLt).symm⟩
theorem i_mask {a k : Nat} (ha : a < 2 ^ 32) : a % 64 < 2 ^ 32 := by omega
theorem fin_sum {A B C D : Nat} (hA : A ≤ 8) (hB : B ≤ 8) (hC : C ≤ 8) (hD : D ≤ 8) : (A + 256 * (B + 256 * (C + 256 * D)) + (A + 256 * (B + 256 * (C + 256 * D))) / 256 + (A + 256 * (B + 256 * (C + 256 * D)) + (A + 256 * (B + 256 * (C + 256 * D))) / 256) / 65536) % 64 = A + B + C + D := by
  have e1 : (A + 256 * (B + 256 * (C + 256 * D))) / 256 = B + 256 * (C + 256 * D) := by omega
  rw [e1]
  have e2 : (A + 256 * (B + 256 * (C + 256 * D)) + (B + 256 * (C + 256 * D))) / 65536 = C + D + 256 * D := by omega
  rw [e2]
  have e3 : A + 256 * (B + 256 * (C + 256 * D)) + (B + 256 * (C + 256 * D)) + (C + D + 256 * D) = (A + B + C + D) + 64 * (4 * (B + C + D + 256 * (C + D + 256 * D))) := by omega
  rw [e3]
  omega
theorem dX11_within_0 : decode cX11_within 0 = .ok (.iload_n 0, 1) := by decide +kernel
theorem dX11_within_1 : decode cX11_within 1 = .ok (.iload_n 1, 1) := by decide +kernel
theorem dX11_within_2 : decode cX11_within 2 = .ok (.if_icmp .lt 12, 3) := by decide +kernel
theorem dX11_within_14 : decode cX11_within 14 = .ok (.iconst 0, 1) := by decide +kernel
theorem dX11_within_15 : decode cX11_within 15 = .ok (.ireturn, 1) := by decide +kernel
theorem dX11_within_5 : decode cX11_within 5 = .ok (.iload_n 0, 1) := by decide +kernel
theorem dX11_within_6 : decode cX11_within 6 = .ok (.iload_n 2, 1) := by decide +kernel
theorem dX11_within_7 : decode cX11_within 7 = .ok (.if_icmp .gt 7, 3) := by decide +kernel
theorem dX11_within_10 : decode cX11_within 10 = .ok (.iconst 1, 1) := by decide +kernel
theorem dX11_within_11 : decode cX11_within 11 = .ok (.goto 4, 3) := by decide +kernel
set_option maxRecDepth 100000 in
set_option maxHeartbeats 4000000 in
theorem c_within (l : Launch) (E : EV) (ro : va_W) (v : Int32) (lo : Int32) (hi : Int32) (zv : Int) (zl : Int) (zh : Int) (hz_zv : v.toInt = zv) (hz_zl : lo.toInt = zl) (hz_zh : hi.toInt = zh) : CT l yX11_within (Cond.code yX11_within cX11_within 3 (some .boolean) :: TB) ({ frames := 0, cells := 0, slots := 0, locals := 0 }) E ro [.int v, .int lo, .int hi] [] (Qi E (fun (rz : Int32) uz => (rz = 1 ∧ uz = [] ∧ (zl ≤ zv) ∧ (zv ≤ zh)) ∨ (rz = 0 ∧ uz = [] ∧ (zv < zl ∨ zh < zv)))) 0 0 := by
  refine ct_of rfl rfl ?_
  intro X C hT hin hro
  show WW X 3 E 0 [(0, .int v), (1, .int lo), (2, .int hi)] [] [] 0 0
  refine ww_iload_n C dX11_within_0 0 rfl rfl ?_
  refine ww_iload_n C dX11_within_1 1 rfl rfl ?_
  refine ww_icmp_lt (tgt := 14) C dX11_within_2 (by decide) (fun c_1 => ?_) (fun c_1 => ?_)
  · have zc_1 : v.toInt < lo.toInt := i_lt rfl rfl c_1
    refine ww_iconst (v := 0) C dX11_within_14 rfl ?_
    exact ww_zret (u := []) C hT [] rfl rfl rfl rfl rfl dX11_within_15 (Or.inr ⟨rfl, rfl, (by first | assumption | omega | decide)⟩)
  · have zc_1 : v.toInt ≥ lo.toInt := i_nlt rfl rfl c_1
    refine ww_iload_n C dX11_within_5 0 rfl rfl ?_
    refine ww_iload_n C dX11_within_6 2 rfl rfl ?_
    refine ww_icmp_gt (tgt := 14) C dX11_within_7 (by decide) (fun c_2 => ?_) (fun c_2 => ?_)
    · have zc_2 : v.toInt > hi.toInt := i_lt rfl rfl c_2
      refine ww_iconst (v := 0) C dX11_within_14 rfl ?_
      exact ww_zret (u := []) C hT [] rfl rfl rfl rfl rfl dX11_within_15 (Or.inr ⟨rfl, rfl, (by first | assumption | omega | decide)⟩)
    · have zc_2 : v.toInt ≤ hi.toInt := i_nlt rfl rfl c_2
      refine ww_iconst (v := 1) C dX11_within_10 rfl ?_
      refine ww_goto (tgt := 15) C dX11_within_11 (by decide) ?_
      exact ww_zret (u := []) C hT [] rfl rfl rfl rfl rfl dX11_within_15 (Or.inl ⟨rfl, rfl, (by first | assumption | omega | decide), (by first | assumption | omega | decide)⟩)
theorem dX11_has_0 : decode cX11_has 0 = .ok (.iload_n 0, 1) := by decide +kernel
theorem dX11_has_1 : decode cX11_has 1 = .ok (.iload_n 1, 1) := by decide +kernel
theorem dX11_has_2 : decode cX11_has 2 = .ok (.ishr, 1) := by decide +kernel
theorem dX11_has_3 : decode cX11_has 3 = .ok (.iconst 1, 1) := by decide +kernel
theorem dX11_has_4 : decode cX11_has 4 = .ok (.iand, 1) := by decide +kernel
theorem dX11_has_5 : decode cX11_has 5 = .ok (.ifCond .eq 7, 3) := by decide +kernel
theorem dX11_has_12 : decode cX11_has 12 = .ok (.iconst 0, 1) := by decide +kernel
theorem dX11_has_13 : decode cX11_has 13 = .ok (.ireturn, 1) := by decide +kernel
theorem dX11_has_8 : decode cX11_has 8 = .ok (.iconst 1, 1) := by decide +kernel
theorem dX11_has_9 : decode cX11_has 9 = .ok (.goto 4, 3) := by decide +kernel
set_option maxRecDepth 100000 in
set_option maxHeartbeats 4000000 in
theorem c_hasN (l : Launch) (E : EV) (ro : va_W) (b : Int32) (p : Nat) (hp : p < 32) : CT l yX11_has (Cond.code yX11_has cX11_has 2 (some .boolean) :: TB) ({ frames := 0, cells := 0, slots := 0, locals := 0 }) E ro [.int b, .int (nI p)] [] (Qi E (fun (rz : Int32) uz => (rz = 1 ∧ uz = [] ∧ (bt b p = true)) ∨ (rz = 0 ∧ uz = [] ∧ (bt b p = false)))) 0 0 := by
  refine ct_of rfl rfl ?_
  intro X C hT hin hro
  show WW X 2 E 0 [(0, .int b), (1, .int (nI p))] [] [] 0 0
  refine ww_iload_n C dX11_has_0 0 rfl rfl ?_
  refine ww_iload_n C dX11_has_1 1 rfl rfl ?_
  obtain ⟨x_1, ex_1⟩ : ∃ z : Int32, b >>> ((nI p) &&& 31) = z := ⟨_, rfl⟩
  refine ww_ishr (v := x_1) C dX11_has_2 ex_1 ?_
  refine ww_iconst (v := 1) C dX11_has_3 rfl ?_
  obtain ⟨j_2, hj_2, ej_2⟩ := pk_andE x_1 (m := 1) 1 rfl
  refine ww_iand (v := (nI j_2)) C dX11_has_4 ej_2 ?_
  refine ww_if_eq (tgt := 12) C dX11_has_5 (by decide) (fun c_3 => ?_) (fun c_3 => ?_)
  · have zc_3 : ((j_2 : Nat) : Int) = 0 := i_eq (nI_toInt (n := j_2) (by omega)) rfl c_3
    refine ww_iconst (v := 0) C dX11_has_12 rfl ?_
    exact ww_zret (u := []) C hT [] rfl rfl rfl rfl rfl dX11_has_13 (Or.inr ⟨rfl, rfl, (hasb_0 hp (by assumption) (by assumption) (by omega))⟩)
  · have zc_3 : ((j_2 : Nat) : Int) ≠ 0 := i_ne (nI_toInt (n := j_2) (by omega)) rfl c_3
    refine ww_iconst (v := 1) C dX11_has_8 rfl ?_
    refine ww_goto (tgt := 13) C dX11_has_9 (by decide) ?_
    exact ww_zret (u := []) C hT [] rfl rfl rfl rfl rfl dX11_has_13 (Or.inl ⟨rfl, rfl, (hasb_1 hp (by assumption) (by assumption) (by omega))⟩)
set_option maxRecDepth 100000 in
set_option maxHeartbeats 4000000 in
theorem c_has (l : Launch) (E : EV) (ro : va_W) (b : Int32) (p : Int32)  : CT l yX11_has (Cond.code yX11_has cX11_has 2 (some .boolean) :: TB) ({ frames := 0, cells := 0, slots := 0, locals := 0 }) E ro [.int b, .int p] [] (Qi E (fun (rz : Int32) uz => (rz = 1 ∧ uz = [] ∧ (¬ (b >>> (p &&& 31) &&& 1 = 0))) ∨ (rz = 0 ∧ uz = [] ∧ (b >>> (p &&& 31) &&& 1 = 0)))) 0 0 := by
  refine ct_of rfl rfl ?_
  intro X C hT hin hro
  show WW X 2 E 0 [(0, .int b), (1, .int p)] [] [] 0 0
  refine ww_iload_n C dX11_has_0 0 rfl rfl ?_
  refine ww_iload_n C dX11_has_1 1 rfl rfl ?_
  obtain ⟨x_1, ex_1⟩ : ∃ z : Int32, b >>> (p &&& 31) = z := ⟨_, rfl⟩
  refine ww_ishr (v := x_1) C dX11_has_2 ex_1 ?_
  refine ww_iconst (v := 1) C dX11_has_3 rfl ?_
  obtain ⟨j_2, hj_2, ej_2⟩ := pk_andE x_1 (m := 1) 1 rfl
  refine ww_iand (v := (nI j_2)) C dX11_has_4 ej_2 ?_
  refine ww_if_eq (tgt := 12) C dX11_has_5 (by decide) (fun c_3 => ?_) (fun c_3 => ?_)
  · have zc_3 : ((j_2 : Nat) : Int) = 0 := i_eq (nI_toInt (n := j_2) (by omega)) rfl c_3
    refine ww_iconst (v := 0) C dX11_has_12 rfl ?_
    exact ww_zret (u := []) C hT [] rfl rfl rfl rfl rfl dX11_has_13 (Or.inr ⟨rfl, rfl, (has_0 (by assumption) (by assumption) (by omega))⟩)
  · have zc_3 : ((j_2 : Nat) : Int) ≠ 0 := i_ne (nI_toInt (n := j_2) (by omega)) rfl c_3
    refine ww_iconst (v := 1) C dX11_has_8 rfl ?_
    refine ww_goto (tgt := 13) C dX11_has_9 (by decide) ?_
    exact ww_zret (u := []) C hT [] rfl rfl rfl rfl rfl dX11_has_13 (Or.inl ⟨rfl, rfl, (has_1 (by assumption) (by assumption) (by omega))⟩)
theorem dX11_under_0 : decode cX11_under 0 = .ok (.iload_n 0, 1) := by decide +kernel
theorem dX11_under_1 : decode cX11_under 1 = .ok (.ifCond .eq 8, 3) := by decide +kernel
theorem dX11_under_9 : decode cX11_under 9 = .ok (.iconst 0, 1) := by decide +kernel
theorem dX11_under_10 : decode cX11_under 10 = .ok (.ireturn, 1) := by decide +kernel
theorem dX11_under_4 : decode cX11_under 4 = .ok (.iload_n 0, 1) := by decide +kernel
theorem dX11_under_5 : decode cX11_under 5 = .ok (.iconst 1, 1) := by decide +kernel
theorem dX11_under_6 : decode cX11_under 6 = .ok (.if_icmp .ne 5, 3) := by decide +kernel
theorem dX11_under_11 : decode cX11_under 11 = .ok (.iload_n 0, 1) := by decide +kernel
theorem dX11_under_12 : decode cX11_under 12 = .ok (.iconst 3, 1) := by decide +kernel
theorem dX11_under_13 : decode cX11_under 13 = .ok (.if_icmp .eq 8, 3) := by decide +kernel
theorem dX11_under_21 : decode cX11_under 21 = .ok (.iconst 2, 1) := by decide +kernel
theorem dX11_under_22 : decode cX11_under 22 = .ok (.goto 4, 3) := by decide +kernel
theorem dX11_under_26 : decode cX11_under 26 = .ok (.ireturn, 1) := by decide +kernel
theorem dX11_under_16 : decode cX11_under 16 = .ok (.iload_n 0, 1) := by decide +kernel
theorem dX11_under_17 : decode cX11_under 17 = .ok (.iconst 4, 1) := by decide +kernel
theorem dX11_under_18 : decode cX11_under 18 = .ok (.if_icmp .ne 7, 3) := by decide +kernel
theorem dX11_under_25 : decode cX11_under 25 = .ok (.iconst 1, 1) := by decide +kernel
set_option maxRecDepth 100000 in
set_option maxHeartbeats 4000000 in
theorem c_under (l : Launch) (E : EV) (ro : va_W) (op : Int32)  : CT l yX11_under (Cond.code yX11_under cX11_under 1 (some .int) :: TB) ({ frames := 0, cells := 0, slots := 0, locals := 0 }) E ro [.int op] [] (Qi E (fun (rz : Int32) uz => (rz = 0 ∧ uz = [] ∧ (op.toInt = 0 ∨ op.toInt = 1)) ∨ (rz = 2 ∧ uz = [] ∧ (op.toInt = 3 ∨ op.toInt = 4)) ∨ (rz = 1 ∧ uz = [] ∧ (op.toInt ≠ 0 ∧ op.toInt ≠ 1 ∧ op.toInt ≠ 3 ∧ op.toInt ≠ 4)))) 0 0 := by
  refine ct_of rfl rfl ?_
  intro X C hT hin hro
  show WW X 1 E 0 [(0, .int op)] [] [] 0 0
  refine ww_iload_n C dX11_under_0 0 rfl rfl ?_
  refine ww_if_eq (tgt := 9) C dX11_under_1 (by decide) (fun c_1 => ?_) (fun c_1 => ?_)
  · have zc_1 : op.toInt = 0 := i_eq rfl rfl c_1
    refine ww_iconst (v := 0) C dX11_under_9 rfl ?_
    exact ww_iret (u := []) C hT [] rfl rfl rfl rfl dX11_under_10 (Or.inl ⟨rfl, rfl, (by first | assumption | omega | decide)⟩)
  · have zc_1 : op.toInt ≠ 0 := i_ne rfl rfl c_1
    refine ww_iload_n C dX11_under_4 0 rfl rfl ?_
    refine ww_iconst (v := 1) C dX11_under_5 rfl ?_
    refine ww_icmp_ne (tgt := 11) C dX11_under_6 (by decide) (fun c_2 => ?_) (fun c_2 => ?_)
    · have zc_2 : op.toInt ≠ 1 := i_ne rfl rfl c_2
      refine ww_iload_n C dX11_under_11 0 rfl rfl ?_
      refine ww_iconst (v := 3) C dX11_under_12 rfl ?_
      refine ww_icmp_eq (tgt := 21) C dX11_under_13 (by decide) (fun c_3 => ?_) (fun c_3 => ?_)
      · have zc_3 : op.toInt = 3 := i_eq rfl rfl c_3
        refine ww_iconst (v := 2) C dX11_under_21 rfl ?_
        refine ww_goto (tgt := 26) C dX11_under_22 (by decide) ?_
        exact ww_iret (u := []) C hT [] rfl rfl rfl rfl dX11_under_26 (Or.inr (Or.inl ⟨rfl, rfl, (by first | assumption | omega | decide)⟩))
      · have zc_3 : op.toInt ≠ 3 := i_ne rfl rfl c_3
        refine ww_iload_n C dX11_under_16 0 rfl rfl ?_
        refine ww_iconst (v := 4) C dX11_under_17 rfl ?_
        refine ww_icmp_ne (tgt := 25) C dX11_under_18 (by decide) (fun c_4 => ?_) (fun c_4 => ?_)
        · have zc_4 : op.toInt ≠ 4 := i_ne rfl rfl c_4
          refine ww_iconst (v := 1) C dX11_under_25 rfl ?_
          exact ww_iret (u := []) C hT [] rfl rfl rfl rfl dX11_under_26 (Or.inr (Or.inr ⟨rfl, rfl, (by first | assumption | omega | decide)⟩))
        · have zc_4 : op.toInt = 4 := i_eq rfl rfl c_4
          refine ww_iconst (v := 2) C dX11_under_21 rfl ?_
          refine ww_goto (tgt := 26) C dX11_under_22 (by decide) ?_
          exact ww_iret (u := []) C hT [] rfl rfl rfl rfl dX11_under_26 (Or.inr (Or.inl ⟨rfl, rfl, (by first | assumption | omega | decide)⟩))
    · have zc_2 : op.toInt = 1 := i_eq rfl rfl c_2
      refine ww_iconst (v := 0) C dX11_under_9 rfl ?_
      exact ww_iret (u := []) C hT [] rfl rfl rfl rfl dX11_under_10 (Or.inl ⟨rfl, rfl, (by first | assumption | omega | decide)⟩)
def bcf (x0 : Int32) : Int32 :=
  let x1 := x0 - ((x0.toUInt32 >>> ((1 : Int32).toUInt32 &&& Int32.toUInt32 31)).toInt32 &&& (1431655765 : Int32))
  let x2 := (x1 &&& (858993459 : Int32)) + ((x1.toUInt32 >>> ((2 : Int32).toUInt32 &&& Int32.toUInt32 31)).toInt32 &&& (858993459 : Int32))
  let x3 := (x2 + (x2.toUInt32 >>> ((4 : Int32).toUInt32 &&& Int32.toUInt32 31)).toInt32) &&& (252645135 : Int32)
  let x4 := x3 + (x3.toUInt32 >>> ((8 : Int32).toUInt32 &&& Int32.toUInt32 31)).toInt32
  let x5 := x4 + (x4.toUInt32 >>> ((16 : Int32).toUInt32 &&& Int32.toUInt32 31)).toInt32
  x5 &&& (63 : Int32)
theorem bcf_nI {n : Nat} (hn : n < 2 ^ 32) : bcf (nI n) = nI (cb n.testBit 32) := by
  obtain ⟨a, b, c, d, ha, hb, hc, hd, rfl⟩ : ∃ a b c d : Nat, a < 256 ∧ b < 256 ∧ c < 256 ∧ d < 256 ∧ n = a + 256 * (b + 256 * (c + 256 * d)) :=
    ⟨n % 256, n / 256 % 256, n / 65536 % 256, n / 16777216, by omega, by omega, by omega, by omega, by omega⟩
  have pa := t_p8le a ha
  have pb := t_p8le b hb
  have pc := t_p8le c hc
  have pd := t_p8le d hd
  have ra := t_r8 a ha
  have rb := t_r8 b hb
  have rc := t_r8 c hc
  have rd := t_r8 d hd
  have ca := t_c8b a ha
  have cb' := t_c8b b hb
  have cc := t_c8b c hc
  have cd := t_c8b d hd
  have e1 := s_1 ha hb hc hd
  have e2 := s_2 ha hb hc hd
  have e3 := s_3 ha hb hc hd
  have l1 : ((1431655765 : Int32)) = nI 1431655765 := rfl
  have l2 : ((858993459 : Int32)) = nI 858993459 := rfl
  have l3 : ((252645135 : Int32)) = nI 252645135 := rfl
  have l4 : ((63 : Int32)) = nI 63 := rfl
  have hx1 : nI (a + 256 * (b + 256 * (c + 256 * d))) - (((nI (a + 256 * (b + 256 * (c + 256 * d)))).toUInt32 >>> ((1 : Int32).toUInt32 &&& Int32.toUInt32 31)).toInt32 &&& (1431655765 : Int32)) = nI (q8 a + 256 * (q8 b + 256 * (q8 c + 256 * q8 d))) := by
    rw [pk_ushrN hn 1 1 rfl, l1, nI_and (by omega) (by omega), Nat.pow_one, e1, pk_sub (by omega)]
    congr 1
    unfold q8
    omega
  unfold bcf
  simp only []
  rw [hx1]
  generalize hX1 : q8 a + 256 * (q8 b + 256 * (q8 c + 256 * q8 d)) = X1 at *
  have hX1l : X1 < 2 ^ 32 := by rw [← hX1]; omega
  have hx2 : (nI X1 &&& (858993459 : Int32)) + (((nI X1).toUInt32 >>> ((2 : Int32).toUInt32 &&& Int32.toUInt32 31)).toInt32 &&& (858993459 : Int32)) = nI (r8 a + 256 * (r8 b + 256 * (r8 c + 256 * r8 d))) := by
    rw [pk_ushrN hX1l 2 2 rfl, l2, nI_and (by omega) (by omega), nI_and (by omega) (by omega), nI_add, show (2 : Nat) ^ 2 = 4 from rfl, e2]
  rw [hx2]
  generalize hX2 : r8 a + 256 * (r8 b + 256 * (r8 c + 256 * r8 d)) = X2 at *
  have hX2l : X2 < 2 ^ 31 := by rw [← hX2]; omega
  have hx3 : (nI X2 + ((nI X2).toUInt32 >>> ((4 : Int32).toUInt32 &&& Int32.toUInt32 31)).toInt32) &&& (252645135 : Int32) = nI (c8 a + 256 * (c8 b + 256 * (c8 c + 256 * c8 d))) := by
    rw [pk_ushrN (by omega) 4 4 rfl, l3, nI_add, nI_and (by omega) (by omega), show (2 : Nat) ^ 4 = 16 from rfl, e3]
  rw [hx3]
  have hX3l : c8 a + 256 * (c8 b + 256 * (c8 c + 256 * c8 d)) < 2 ^ 28 := by omega
  rw [pk_ushrN (by omega) 8 8 rfl, nI_add, pk_ushrN (by omega) 16 16 rfl, nI_add, l4, nI_and (by omega) (by omega)]
  have e6 : ∀ z : Nat, z &&& 63 = z % 64 := fun z => Nat.and_two_pow_sub_one_eq_mod z 6
  rw [e6]
  have hbits : cb (a + 256 * (b + 256 * (c + 256 * d))).testBit 32 = c8 a + c8 b + c8 c + c8 d := by
    have key : ∀ (u v : Nat), u < 256 → ∀ i, (u + 256 * v).testBit (8 + i) = v.testBit i := by
      intro u v hu i
      rw [show u + 256 * v = 2 ^ 8 * v + u by omega, Nat.testBit_two_pow_mul_add _ (by omega), if_neg (by omega)]
      congr 1
      omega
    have low : ∀ (u v : Nat), u < 256 → ∀ i, i < 8 → (u + 256 * v).testBit i = u.testBit i := by
      intro u v hu i hi
      rw [show u + 256 * v = 2 ^ 8 * v + u by omega, Nat.testBit_two_pow_mul_add _ (by omega), if_pos hi]
    have st : ∀ (u v m : Nat), u < 256 → cb (u + 256 * v).testBit (8 + m) = c8 u + cb v.testBit m := by
      intro u v m hu
      rw [cb_add, cb_congr (low u v hu), (t_c8b u hu).1]
      congr 1
      exact cb_congr (fun i _ => key u v hu i)
    rw [show (32 : Nat) = 8 + (8 + (8 + 8)) from rfl, st _ _ _ ha, st _ _ _ hb, st _ _ _ hc, (t_c8b d hd).1]
    omega
  rw [hbits]
  congr 1
  rw [show (2 : Nat) ^ 8 = 256 from rfl, show (2 : Nat) ^ 16 = 65536 from rfl]
  exact fin_sum ca.2 cb'.2 cc.2 cd.2
theorem cb_small {n r m : Nat} (h : n < 2 ^ r) (hm : r ≤ m) : cb n.testBit m = cb n.testBit r := by
  obtain ⟨k, rfl⟩ : ∃ k, m = r + k := ⟨m - r, by omega⟩
  have hz : cb (fun i => n.testBit (r + i)) k = 0 := cb_zero (fun i _ => Nat.testBit_lt_two_pow (Nat.lt_of_lt_of_le h (Nat.pow_le_pow_right (by omega) (Nat.le_add_right r i))))
  rw [cb_add, hz, Nat.add_zero]
/-- bits below place r: at most r of them -/
theorem bcf_low {x : Int32} {r : Nat} (hr : r ≤ 30) : ∃ j : Nat, j ≤ r ∧ bcf (x &&& (nI (2 ^ r) - 1)) = nI j := by
  obtain ⟨n, hn, rfl⟩ := i_nI x
  have h1 : (1 : Int32) = nI 1 := rfl
  have hp : 2 ^ r ≤ 2 ^ 30 := Nat.pow_le_pow_right (by omega) hr
  have hp0 : 0 < 2 ^ r := Nat.two_pow_pos r
  rw [h1, pk_sub (by omega), nI_and hn (by omega)]
  have hl : n &&& (2 ^ r - 1) < 2 ^ r := Nat.lt_of_le_of_lt Nat.and_le_right (by omega)
  rw [bcf_nI (by omega), cb_small hl (by omega)]
  exact ⟨_, cb_le _ _, rfl⟩
theorem shl_1 {r : Nat} (hr : r ≤ 30) : (1 : Int32) <<< (nI r &&& 31) = nI (2 ^ r) := by
  have h : ∀ r, r ≤ 30 → (1 : Int32) <<< (nI r &&& 31) = nI (2 ^ r) := by decide +kernel
  exact h r hr
theorem bcf_bt (x : Int32) : bcf x = nI (cb (bt x) 32) := by
  obtain ⟨n, hn, rfl⟩ := i_nI x
  rw [bcf_nI hn]
  congr 1
  exact cb_congr (fun i _ => (bt_nI hn).symm)
theorem cb_s (f : Nat → Bool) (n : Nat) : cb f (n + 1) = cb f n + (if f n then 1 else 0) := rfl
theorem cb_t {f : Nat → Bool} {n : Nat} (h : f n = true) : cb f (n + 1) = cb f n + 1 := by rw [cb_s, h]; rfl
theorem cb_f {f : Nat → Bool} {n : Nat} (h : f n = false) : cb f (n + 1) = cb f n := by rw [cb_s, h]; rfl
theorem cb_mono (f : Nat → Bool) {a b : Nat} (h : a ≤ b) : cb f a ≤ cb f b := by
  obtain ⟨d, rfl⟩ : ∃ d, b = a + d := ⟨b - a, by omega⟩
  rw [cb_add]; omega
theorem cb_lt {f : Nat → Bool} {r n : Nat} (hr : r < n) (h : f r = true) : cb f r < cb f n := by
  have h1 := cb_t h
  have h2 := cb_mono f (show r + 1 ≤ n by omega)
  omega
theorem m_bits {r : Nat} (hr : r ≤ 30) : ∀ i, i < 32 → bt (nI (2 ^ r) - 1) i = decide (i < r) := by
  have h : ∀ r, r ≤ 30 → ∀ i, i < 32 → bt (nI (2 ^ r) - 1) i = decide (i < r) := by decide +kernel
  exact h r hr
theorem bcf_lowx {x : Int32} {r : Nat} (hr : r ≤ 30) : bcf (x &&& (nI (2 ^ r) - 1)) = nI (cb (bt x) r) := by
  rw [bcf_bt]
  congr 1
  have e1 : cb (bt (x &&& (nI (2 ^ r) - 1))) 32 = cb (bt (x &&& (nI (2 ^ r) - 1))) r + cb (fun i => bt (x &&& (nI (2 ^ r) - 1)) (r + i)) (32 - r) := by
    rw [← cb_add]; congr 1; omega
  rw [e1, cb_zero (f := fun i => bt (x &&& (nI (2 ^ r) - 1)) (r + i)) (fun i hi => by rw [b_and, m_bits hr _ (by omega)]; simp), Nat.add_zero]
  exact cb_congr (fun i hi => by rw [b_and, m_bits hr _ (by omega)]; simp [hi])
theorem all_b {n : Nat} {x y : Int32} (hn : n ≤ 24) (ex : (1 : Int32) <<< (nI n &&& 31) = x) (ey : x - (1 : Int32) = y) : ∀ i, i < 32 → bt y i = decide (i < n) := by
  subst ey; subst ex
  intro i hi
  rw [shl_1 (by omega)]
  exact m_bits (by omega) i hi
theorem and_bt {a b c : Int32} {r : Nat} (h1 : bt a r = true) (h2 : bt b r = true) (e : a &&& b = c) : bt c r = true := by rw [← e, b_and, h1, h2]; rfl
theorem not_bt {b x : Int32} {r : Nat} (hr : r < 32) (h : bt b r = false) (e : b ^^^ (-1 : Int32) = x) : bt x r = true := by rw [← e, b_xor, h, b_m1 r hr]; rfl
theorem cut_r {st : Int32} {n r n2 r2 : Nat} (hr : r < n ∨ r = 0) (h : r < n → bt st r = true) (e1 : n2 = cb (bt st) n) (e2 : r2 = cb (bt st) r) : n2 ≤ n ∧ (r2 < n2 ∨ r2 = 0) := by
  have h1 := cb_le (bt st) n
  refine ⟨by omega, ?_⟩
  by_cases hn : r < n
  · left; rw [e1, e2]; exact cb_lt hn (h hn)
  · right; rw [e2, show r = 0 by omega]; rfl
