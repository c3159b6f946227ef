section
/-! ===== Int32 by its bits: bt x i ===== -/
def bt (x : Int32) (i : Nat) : Bool := x.toBitVec.getLsbD i
theorem b_ext {x y : Int32} (h : ∀ i, i < 32 → bt x i = bt y i) : x = y := Int32.toBitVec_inj.mp (BitVec.eq_of_getLsbD_eq (fun i hi => h i hi))
theorem b_or (x y : Int32) (i : Nat) : bt (x ||| y) i = (bt x i || bt y i) := by unfold bt; rw [Int32.toBitVec_or, BitVec.getLsbD_or]
theorem b_and (x y : Int32) (i : Nat) : bt (x &&& y) i = (bt x i && bt y i) := by unfold bt; rw [Int32.toBitVec_and, BitVec.getLsbD_and]
theorem b_xor (x y : Int32) (i : Nat) : bt (x ^^^ y) i = (bt x i ^^ bt y i) := by unfold bt; rw [Int32.toBitVec_xor, BitVec.getLsbD_xor]
theorem b_big {x : Int32} {i : Nat} (h : 32 ≤ i) : bt x i = false := BitVec.getLsbD_of_ge _ _ h
theorem b_255 (i : Nat) : bt 255 i = decide (i < 8) := by
  rcases Nat.lt_or_ge i 32 with h | h
  · exact (by decide +kernel : ∀ i, i < 32 → bt 255 i = decide (i < 8)) i h
  · rw [b_big h, decide_eq_false (by omega)]
theorem b_65535 (i : Nat) : bt 65535 i = decide (i < 16) := by
  rcases Nat.lt_or_ge i 32 with h | h
  · exact (by decide +kernel : ∀ i, i < 32 → bt 65535 i = decide (i < 16)) i h
  · rw [b_big h, decide_eq_false (by omega)]
theorem b_m1 : ∀ i, i < 32 → bt (-1) i = true := by decide +kernel
theorem b_0 (i : Nat) : bt 0 i = false := BitVec.getLsbD_zero
theorem s_l : ∀ n, n < 32 → ((nI n &&& 31).toBitVec.smod 32).toNat = n := by decide +kernel
theorem s_u : ∀ n, n < 32 → (((nI n).toUInt32 &&& Int32.toUInt32 31).toBitVec % 32).toNat = n := by decide +kernel
theorem b_shl (n : Nat) (hn : n < 32) (x : Int32) {i : Nat} (hi : i < 32) : bt (x <<< (nI n &&& 31)) i = (decide (n ≤ i) && bt x (i - n)) := by
  unfold bt
  rw [Int32.toBitVec_shiftLeft]
  show (x.toBitVec <<< ((nI n &&& 31).toBitVec.smod 32).toNat).getLsbD i = _
  rw [s_l n hn, BitVec.getLsbD_shiftLeft]
  rcases Nat.lt_or_ge i n with h | h
  · simp [h, Nat.not_le.mpr h]
  · simp [hi, h, Nat.not_lt.mpr h]
theorem b_ushr (n : Nat) (hn : n < 32) (x : Int32) (i : Nat) : bt ((x.toUInt32 >>> ((nI n).toUInt32 &&& Int32.toUInt32 31)).toInt32) i = bt x (n + i) := by
  show (x.toUInt32 >>> ((nI n).toUInt32 &&& Int32.toUInt32 31)).toBitVec.getLsbD i = x.toUInt32.toBitVec.getLsbD (n + i)
  rw [UInt32.toBitVec_shiftRight]
  show (x.toUInt32.toBitVec >>> (((nI n).toUInt32 &&& Int32.toUInt32 31).toBitVec % 32).toNat).getLsbD i = _
  rw [s_u n hn, BitVec.getLsbD_ushiftRight]
theorem b_sshr (n : Nat) (hn : n < 32) (x : Int32) {i : Nat} (hi : i < 32) : bt (x >>> (nI n &&& 31)) i = if n + i < 32 then bt x (n + i) else bt x 31 := by
  unfold bt
  rw [Int32.toBitVec_shiftRight]
  show (x.toBitVec.sshiftRight ((nI n &&& 31).toBitVec.smod 32).toNat).getLsbD i = _
  rw [s_l n hn, BitVec.getLsbD_sshiftRight, BitVec.msb_eq_getLsbD_last]
  simp [hi]
theorem b_shl8 (x : Int32) {i : Nat} (hi : i < 32) : bt (x <<< ((8 : Int32) &&& 31)) i = (decide (8 ≤ i) && bt x (i - 8)) := b_shl 8 (by omega) x hi
theorem b_shl16 (x : Int32) {i : Nat} (hi : i < 32) : bt (x <<< ((16 : Int32) &&& 31)) i = (decide (16 ≤ i) && bt x (i - 16)) := b_shl 16 (by omega) x hi
theorem b_shl24 (x : Int32) {i : Nat} (hi : i < 32) : bt (x <<< ((24 : Int32) &&& 31)) i = (decide (24 ≤ i) && bt x (i - 24)) := b_shl 24 (by omega) x hi
theorem b_sshr8 (x : Int32) {i : Nat} (hi : i < 32) : bt (x >>> ((8 : Int32) &&& 31)) i = if 8 + i < 32 then bt x (8 + i) else bt x 31 := b_sshr 8 (by omega) x hi

theorem bt_nI {n i : Nat} (h : n < 2 ^ 32) : bt (nI n) i = n.testBit i := by
  unfold bt
  rw [← BitVec.testBit_toNat, pk_tn h]
theorem b_one : ∀ i, i < 32 → bt 1 i = decide (i = 0) := by decide +kernel
theorem and1_0 (x : Int32) : x &&& 1 = 0 ↔ bt x 0 = false := by
  constructor
  · intro h
    have h1 := b_and x 1 0
    rw [h, b_0, b_one 0 (by omega)] at h1
    simpa using h1.symm
  · intro h
    apply b_ext
    intro i hi
    rw [b_and, b_0, b_one i hi]
    by_cases h0 : i = 0
    · rw [h0, h]; rfl
    · simp [h0]
theorem shr_b (x : Int32) {p : Nat} (hp : p < 32) : bt (x >>> (nI p &&& 31)) 0 = bt x p := by
  rw [b_sshr p hp x (by omega), if_pos (by omega)]; rfl
theorem hasb_0 {b x : Int32} {p j : Nat} (hp : p < 32) (e : b >>> (nI p &&& 31) = x) (ej : x &&& 1 = nI j) (hz : j = 0) : bt b p = false := by
  subst e; rw [hz] at ej; rw [← shr_b b hp]; exact (and1_0 _).mp ej
theorem hasb_1 {b x : Int32} {p j : Nat} (hp : p < 32) (e : b >>> (nI p &&& 31) = x) (ej : x &&& 1 = nI j) (hz : j = 1) : bt b p = true := by
  subst e; rw [hz] at ej; rw [← shr_b b hp]
  cases hb : bt (b >>> (nI p &&& 31)) 0 with
  | true => rfl
  | false => rw [(and1_0 _).mpr hb] at ej; exact absurd ej (by decide)
/-! how many bits are set: Integer.bitCount counts them -/
def cb (f : Nat → Bool) : Nat → Nat
  | 0 => 0
  | n + 1 => cb f n + (if f n then 1 else 0)
theorem cb_le (f : Nat → Bool) (n : Nat) : cb f n ≤ n := by
  induction n with
  | zero => exact Nat.le_refl _
  | succ n ih => simp only [cb]; split <;> omega
theorem cb_congr {f g : Nat → Bool} {n : Nat} (h : ∀ i, i < n → f i = g i) : cb f n = cb g n := by
  induction n with
  | zero => rfl
  | succ n ih => simp only [cb]; rw [ih (fun i hi => h i (by omega)), h n (by omega)]
theorem cb_add (f : Nat → Bool) (m n : Nat) : cb f (m + n) = cb f m + cb (fun i => f (m + i)) n := by
  induction n with
  | zero => rfl
  | succ n ih =>
    show cb f (m + n) + (if f (m + n) then 1 else 0) = cb f m + (cb (fun i => f (m + i)) n + (if f (m + n) then 1 else 0))
    rw [ih]; omega
theorem cb_zero {f : Nat → Bool} {n : Nat} (h : ∀ i, i < n → f i = false) : cb f n = 0 := by
  induction n with
  | zero => rfl
  | succ n ih => simp only [cb]; rw [ih (fun i hi => h i (by omega)), h n (by omega)]; simp
theorem and_dig {u v m M : Nat} (hu : u < 256) (hm : m < 256) : (u + 256 * v) &&& (m + 256 * M) = (u &&& m) + 256 * (v &&& M) := by
  have e1 : u + 256 * v = 2 ^ 8 * v + u := by omega
  have e2 : m + 256 * M = 2 ^ 8 * M + m := by omega
  have e3 : (u &&& m) + 256 * (v &&& M) = 2 ^ 8 * (v &&& M) + (u &&& m) := by omega
  have h3 : u &&& m < 2 ^ 8 := Nat.lt_of_le_of_lt Nat.and_le_left (by omega)
  rw [e1, e2, e3]
  apply Nat.eq_of_testBit_eq
  intro i
  rw [Nat.testBit_and, Nat.testBit_two_pow_mul_add _ (by omega), Nat.testBit_two_pow_mul_add _ (by omega), Nat.testBit_two_pow_mul_add _ h3]
  split
  · rw [Nat.testBit_and]
  · rw [Nat.testBit_and]
def p8 (t : Nat) : Nat := (t / 2) &&& 0x55
def q8 (t : Nat) : Nat := t - p8 t
def r8 (t : Nat) : Nat := (q8 t &&& 0x33) + ((q8 t / 4) &&& 0x33)
def c8 (t : Nat) : Nat := (r8 t + r8 t / 16) &&& 0x0f
theorem t_p8 : ∀ a, a < 256 → ∀ e, e < 2 → (a / 2 + 128 * e) &&& 0x55 = p8 a := by decide +kernel
theorem t_p8le : ∀ a, a < 256 → p8 a ≤ a ∧ q8 a < 256 := by decide +kernel
theorem t_q8 : ∀ a, a < 256 → ∀ e, e < 4 → (q8 a / 4 + 64 * e) &&& 0x33 = (q8 a / 4) &&& 0x33 := by decide +kernel
theorem t_r8 : ∀ a, a < 256 → r8 a ≤ 68 ∧ r8 a % 16 ≤ 4 ∧ r8 a / 16 ≤ 4 := by decide +kernel
theorem t_c8 : ∀ a, a < 256 → ∀ e, e < 5 → (r8 a + r8 a / 16 + 16 * e) &&& 0x0f = c8 a := by decide +kernel
theorem t_c8b : ∀ a, a < 256 → c8 a = cb a.testBit 8 ∧ c8 a ≤ 8 := by decide +kernel
theorem s_1 {a b c d : Nat} (ha : a < 256) (hb : b < 256) (hc : c < 256) (hd : d < 256) : ((a + 256 * (b + 256 * (c + 256 * d))) / 2) &&& 1431655765 = p8 a + 256 * (p8 b + 256 * (p8 c + 256 * p8 d)) := by
  have e1 : (a + 256 * (b + 256 * (c + 256 * d))) / 2 = (a / 2 + 128 * (b % 2)) + 256 * ((b / 2 + 128 * (c % 2)) + 256 * ((c / 2 + 128 * (d % 2)) + 256 * (d / 2))) := by omega
  have e2 : (1431655765 : Nat) = 0x55 + 256 * (0x55 + 256 * (0x55 + 256 * 0x55)) := by decide
  rw [e1, e2, and_dig (by omega) (by omega), and_dig (by omega) (by omega), and_dig (by omega) (by omega), t_p8 a ha _ (by omega), t_p8 b hb _ (by omega), t_p8 c hc _ (by omega)]
  rfl
theorem s_2 {a b c d : Nat} (ha : a < 256) (hb : b < 256) (hc : c < 256) (hd : d < 256) : ((q8 a + 256 * (q8 b + 256 * (q8 c + 256 * q8 d))) &&& 858993459) + (((q8 a + 256 * (q8 b + 256 * (q8 c + 256 * q8 d))) / 4) &&& 858993459) = r8 a + 256 * (r8 b + 256 * (r8 c + 256 * r8 d)) := by
  have ia := (t_p8le a ha).2
  have ib := (t_p8le b hb).2
  have ic := (t_p8le c hc).2
  have id' := (t_p8le d hd).2
  have e1 : (q8 a + 256 * (q8 b + 256 * (q8 c + 256 * q8 d))) / 4 = (q8 a / 4 + 64 * (q8 b % 4)) + 256 * ((q8 b / 4 + 64 * (q8 c % 4)) + 256 * ((q8 c / 4 + 64 * (q8 d % 4)) + 256 * (q8 d / 4))) := by omega
  have e2 : (858993459 : Nat) = 0x33 + 256 * (0x33 + 256 * (0x33 + 256 * 0x33)) := by decide
  rw [e1, e2, and_dig ia (by omega), and_dig ib (by omega), and_dig ic (by omega), and_dig (by omega) (by omega), and_dig (by omega) (by omega), and_dig (by omega) (by omega), t_q8 a ha _ (by omega), t_q8 b hb _ (by omega), t_q8 c hc _ (by omega)]
  unfold r8
  omega
theorem s_3 {a b c d : Nat} (ha : a < 256) (hb : b < 256) (hc : c < 256) (hd : d < 256) : ((r8 a + 256 * (r8 b + 256 * (r8 c + 256 * r8 d))) + (r8 a + 256 * (r8 b + 256 * (r8 c + 256 * r8 d))) / 16) &&& 252645135 = c8 a + 256 * (c8 b + 256 * (c8 c + 256 * c8 d)) := by
  have ia := t_r8 a ha
  have ib := t_r8 b hb
  have ic := t_r8 c hc
  have id' := t_r8 d hd
  have e1 : (r8 a + 256 * (r8 b + 256 * (r8 c + 256 * r8 d))) + (r8 a + 256 * (r8 b + 256 * (r8 c + 256 * r8 d))) / 16 = (r8 a + r8 a / 16 + 16 * (r8 b % 16)) + 256 * ((r8 b + r8 b / 16 + 16 * (r8 c % 16)) + 256 * ((r8 c + r8 c / 16 + 16 * (r8 d % 16)) + 256 * (r8 d + r8 d / 16))) := by omega
  have e2 : (252645135 : Nat) = 0x0f + 256 * (0x0f + 256 * (0x0f + 256 * 0x0f)) := by decide
  rw [e1, e2, and_dig (by omega) (by omega), and_dig (by omega) (by omega), and_dig (by omega) (by omega), t_c8 a ha _ (by omega), t_c8 b hb _ (by omega), t_c8 c hc _ (by omega)]
  rfl
theorem nI_tn {n : Nat} (h : n < 2 ^ 32) : (nI n).toBitVec.toNat = n := pk_tn h
theorem i_ext {x y : Int32} (h : x.toBitVec.toNat = y.toBitVec.toNat) : x = y := by
  apply Int32.toBitVec_inj.mp
  exact BitVec.eq_of_toNat_eq h
theorem nI_and {a b : Nat} (ha : a < 2 ^ 32) (hb : b < 2 ^ 32) : nI a &&& nI b = nI (a &&& b) := by
  apply i_ext
  rw [nI_tn (Nat.lt_of_le_of_lt Nat.and_le_left ha)]
  show ((nI a).toBitVec &&& (nI b).toBitVec).toNat = _
  rw [BitVec.toNat_and, nI_tn ha, nI_tn hb]
theorem i_nI (x : Int32) : ∃ n : Nat, n < 2 ^ 32 ∧ x = nI n := ⟨x.toBitVec.toNat, x.toBitVec.isLt, i_ext (nI_tn x.toBitVec.isLt).symm⟩
theorem i_mask {a k : Nat} (ha : a < 2 ^ 32) : a % 64 < 2 ^ 32 := by omega
theorem fin_sum {A B C D : Nat} (hA : A ≤ 8) (hB : B ≤ 8) (hC : C ≤ 8) (hD : D ≤ 8) : (A + 256 * (B + 256 * (C + 256 * D)) + (A + 256 * (B + 256 * (C + 256 * D))) / 256 + (A + 256 * (B + 256 * (C + 256 * D)) + (A + 256 * (B + 256 * (C + 256 * D))) / 256) / 65536) % 64 = A + B + C + D := by
  have e1 : (A + 256 * (B + 256 * (C + 256 * D))) / 256 = B + 256 * (C + 256 * D) := by omega
  rw [e1]
  have e2 : (A + 256 * (B + 256 * (C + 256 * D)) + (B + 256 * (C + 256 * D))) / 65536 = C + D + 256 * D := by omega
  rw [e2]
  have e3 : A + 256 * (B + 256 * (C + 256 * D)) + (B + 256 * (C + 256 * D)) + (C + D + 256 * D) = (A + B + C + D) + 64 * (4 * (B + C + D + 256 * (C + D + 256 * D))) := by omega
  rw [e3]
  omega
theorem dX11_within_0 : decode cX11_within 0 = .ok (.iload_n 0, 1) := dl_26 (by decide +kernel)
theorem dX11_within_1 : decode cX11_within 1 = .ok (.iload_n 1, 1) := dl_27 (by decide +kernel)
theorem dX11_within_2 : decode cX11_within 2 = .ok (.if_icmp .lt 12, 3) := dl_161 (by decide +kernel)
theorem dX11_within_14 : decode cX11_within 14 = .ok (.iconst 0, 1) := dl_3 (by decide +kernel)
theorem dX11_within_15 : decode cX11_within 15 = .ok (.ireturn, 1) := dl_172 (by decide +kernel)
theorem dX11_within_5 : decode cX11_within 5 = .ok (.iload_n 0, 1) := dl_26 (by decide +kernel)
theorem dX11_within_6 : decode cX11_within 6 = .ok (.iload_n 2, 1) := dl_28 (by decide +kernel)
theorem dX11_within_7 : decode cX11_within 7 = .ok (.if_icmp .gt 7, 3) := dl_163 (by decide +kernel)
theorem dX11_within_10 : decode cX11_within 10 = .ok (.iconst 1, 1) := dl_4 (by decide +kernel)
theorem dX11_within_11 : decode cX11_within 11 = .ok (.goto 4, 3) := dl_167 (by decide +kernel)
set_option maxRecDepth 100000 in
set_option maxHeartbeats 4000000 in
theorem c_within (l : Launch) (E : EV) (ro : va_W) (v : Int32) (lo : Int32) (hi : Int32) (zv : Int) (zl : Int) (zh : Int) (hz_zv : v.toInt = zv) (hz_zl : lo.toInt = zl) (hz_zh : hi.toInt = zh) : CT l yX11_within (Cond.code yX11_within cX11_within 3 (some .boolean) :: TB) ({ frames := 0, cells := 0, slots := 0, locals := 0 }) E ro [.int v, .int lo, .int hi] [] (Qi E (fun (rz : Int32) uz => (rz = 1 ∧ uz = [] ∧ (zl ≤ zv) ∧ (zv ≤ zh)) ∨ (rz = 0 ∧ uz = [] ∧ (zv < zl ∨ zh < zv)))) 0 0 := by
  refine ct_of rfl rfl ?_
  intro X C hT hin hro
  show WW X 3 E 0 [(0, .int v), (1, .int lo), (2, .int hi)] [] [] 0 0
  refine ww_iload_n C dX11_within_0 0 rfl rfl ?_
  refine ww_iload_n C dX11_within_1 1 rfl rfl ?_
  refine ww_icmp_lt (tgt := 14) C dX11_within_2 (by decide) (fun c_1 => ?_) (fun c_1 => ?_)
  · have zc_1 : v.toInt < lo.toInt := i_lt rfl rfl c_1
    refine ww_iconst (v := 0) C dX11_within_14 rfl ?_
    exact ww_zret (u := []) C hT [] rfl rfl rfl rfl rfl dX11_within_15 (Or.inr ⟨rfl, rfl, (by first | assumption | omega | decide)⟩)
  · have zc_1 : v.toInt ≥ lo.toInt := i_nlt rfl rfl c_1
    refine ww_iload_n C dX11_within_5 0 rfl rfl ?_
    refine ww_iload_n C dX11_within_6 2 rfl rfl ?_
    refine ww_icmp_gt (tgt := 14) C dX11_within_7 (by decide) (fun c_2 => ?_) (fun c_2 => ?_)
    · have zc_2 : v.toInt > hi.toInt := i_lt rfl rfl c_2
      refine ww_iconst (v := 0) C dX11_within_14 rfl ?_
      exact ww_zret (u := []) C hT [] rfl rfl rfl rfl rfl dX11_within_15 (Or.inr ⟨rfl, rfl, (by first | assumption | omega | decide)⟩)
    · have zc_2 : v.toInt ≤ hi.toInt := i_nlt rfl rfl c_2
      refine ww_iconst (v := 1) C dX11_within_10 rfl ?_
      refine ww_goto (tgt := 15) C dX11_within_11 (by decide) ?_
      exact ww_zret (u := []) C hT [] rfl rfl rfl rfl rfl dX11_within_15 (Or.inl ⟨rfl, rfl, (by first | assumption | omega | decide), (by first | assumption | omega | decide)⟩)
theorem dX11_has_0 : decode cX11_has 0 = .ok (.iload_n 0, 1) := dl_26 (by decide +kernel)
theorem dX11_has_1 : decode cX11_has 1 = .ok (.iload_n 1, 1) := dl_27 (by decide +kernel)
theorem dX11_has_2 : decode cX11_has 2 = .ok (.ishr, 1) := dl_122 (by decide +kernel)
theorem dX11_has_3 : decode cX11_has 3 = .ok (.iconst 1, 1) := dl_4 (by decide +kernel)
theorem dX11_has_4 : decode cX11_has 4 = .ok (.iand, 1) := dl_126 (by decide +kernel)
theorem dX11_has_5 : decode cX11_has 5 = .ok (.ifCond .eq 7, 3) := dl_153 (by decide +kernel)
theorem dX11_has_12 : decode cX11_has 12 = .ok (.iconst 0, 1) := dl_3 (by decide +kernel)
theorem dX11_has_13 : decode cX11_has 13 = .ok (.ireturn, 1) := dl_172 (by decide +kernel)
theorem dX11_has_8 : decode cX11_has 8 = .ok (.iconst 1, 1) := dl_4 (by decide +kernel)
theorem dX11_has_9 : decode cX11_has 9 = .ok (.goto 4, 3) := dl_167 (by decide +kernel)
set_option maxRecDepth 100000 in
set_option maxHeartbeats 4000000 in
theorem c_hasN (l : Launch) (E : EV) (ro : va_W) (b : Int32) (p : Nat) (hp : p < 32) : CT l yX11_has (Cond.code yX11_has cX11_has 2 (some .boolean) :: TB) ({ frames := 0, cells := 0, slots := 0, locals := 0 }) E ro [.int b, .int (nI p)] [] (Qi E (fun (rz : Int32) uz => (rz = 1 ∧ uz = [] ∧ (bt b p = true)) ∨ (rz = 0 ∧ uz = [] ∧ (bt b p = false)))) 0 0 := by
  refine ct_of rfl rfl ?_
  intro X C hT hin hro
  show WW X 2 E 0 [(0, .int b), (1, .int (nI p))] [] [] 0 0
  refine ww_iload_n C dX11_has_0 0 rfl rfl ?_
  refine ww_iload_n C dX11_has_1 1 rfl rfl ?_
  obtain ⟨x_1, ex_1⟩ : ∃ z : Int32, b >>> ((nI p) &&& 31) = z := ⟨_, rfl⟩
  refine ww_ishr (v := x_1) C dX11_has_2 ex_1 ?_
  refine ww_iconst (v := 1) C dX11_has_3 rfl ?_
  obtain ⟨j_2, hj_2, ej_2⟩ := pk_andE x_1 (m := 1) 1 rfl
  refine ww_iand (v := (nI j_2)) C dX11_has_4 ej_2 ?_
  refine ww_if_eq (tgt := 12) C dX11_has_5 (by decide) (fun c_3 => ?_) (fun c_3 => ?_)
  · have zc_3 : ((j_2 : Nat) : Int) = 0 := i_eq (nI_toInt (n := j_2) (by omega)) rfl c_3
    refine ww_iconst (v := 0) C dX11_has_12 rfl ?_
    exact ww_zret (u := []) C hT [] rfl rfl rfl rfl rfl dX11_has_13 (Or.inr ⟨rfl, rfl, (hasb_0 hp (by assumption) (by assumption) (by omega))⟩)
  · have zc_3 : ((j_2 : Nat) : Int) ≠ 0 := i_ne (nI_toInt (n := j_2) (by omega)) rfl c_3
    refine ww_iconst (v := 1) C dX11_has_8 rfl ?_
    refine ww_goto (tgt := 13) C dX11_has_9 (by decide) ?_
    exact ww_zret (u := []) C hT [] rfl rfl rfl rfl rfl dX11_has_13 (Or.inl ⟨rfl, rfl, (hasb_1 hp (by assumption) (by assumption) (by omega))⟩)
set_option maxRecDepth 100000 in
set_option maxHeartbeats 4000000 in
theorem c_has (l : Launch) (E : EV) (ro : va_W) (b : Int32) (p : Int32)  : CT l yX11_has (Cond.code yX11_has cX11_has 2 (some .boolean) :: TB) ({ frames := 0, cells := 0, slots := 0, locals := 0 }) E ro [.int b, .int p] [] (Qi E (fun (rz : Int32) uz => (rz = 1 ∧ uz = [] ∧ (¬ (b >>> (p &&& 31) &&& 1 = 0))) ∨ (rz = 0 ∧ uz = [] ∧ (b >>> (p &&& 31) &&& 1 = 0)))) 0 0 := by
  refine ct_of rfl rfl ?_
  intro X C hT hin hro
  show WW X 2 E 0 [(0, .int b), (1, .int p)] [] [] 0 0
  refine ww_iload_n C dX11_has_0 0 rfl rfl ?_
  refine ww_iload_n C dX11_has_1 1 rfl rfl ?_
  obtain ⟨x_1, ex_1⟩ : ∃ z : Int32, b >>> (p &&& 31) = z := ⟨_, rfl⟩
  refine ww_ishr (v := x_1) C dX11_has_2 ex_1 ?_
  refine ww_iconst (v := 1) C dX11_has_3 rfl ?_
  obtain ⟨j_2, hj_2, ej_2⟩ := pk_andE x_1 (m := 1) 1 rfl
  refine ww_iand (v := (nI j_2)) C dX11_has_4 ej_2 ?_
  refine ww_if_eq (tgt := 12) C dX11_has_5 (by decide) (fun c_3 => ?_) (fun c_3 => ?_)
  · have zc_3 : ((j_2 : Nat) : Int) = 0 := i_eq (nI_toInt (n := j_2) (by omega)) rfl c_3
    refine ww_iconst (v := 0) C dX11_has_12 rfl ?_
    exact ww_zret (u := []) C hT [] rfl rfl rfl rfl rfl dX11_has_13 (Or.inr ⟨rfl, rfl, (has_0 (by assumption) (by assumption) (by omega))⟩)
  · have zc_3 : ((j_2 : Nat) : Int) ≠ 0 := i_ne (nI_toInt (n := j_2) (by omega)) rfl c_3
    refine ww_iconst (v := 1) C dX11_has_8 rfl ?_
    refine ww_goto (tgt := 13) C dX11_has_9 (by decide) ?_
    exact ww_zret (u := []) C hT [] rfl rfl rfl rfl rfl dX11_has_13 (Or.inl ⟨rfl, rfl, (has_1 (by assumption) (by assumption) (by omega))⟩)
theorem dX11_under_0 : decode cX11_under 0 = .ok (.iload_n 0, 1) := dl_26 (by decide +kernel)
theorem dX11_under_1 : decode cX11_under 1 = .ok (.ifCond .eq 8, 3) := dl_153 (by decide +kernel)
theorem dX11_under_9 : decode cX11_under 9 = .ok (.iconst 0, 1) := dl_3 (by decide +kernel)
theorem dX11_under_10 : decode cX11_under 10 = .ok (.ireturn, 1) := dl_172 (by decide +kernel)
theorem dX11_under_4 : decode cX11_under 4 = .ok (.iload_n 0, 1) := dl_26 (by decide +kernel)
theorem dX11_under_5 : decode cX11_under 5 = .ok (.iconst 1, 1) := dl_4 (by decide +kernel)
theorem dX11_under_6 : decode cX11_under 6 = .ok (.if_icmp .ne 5, 3) := dl_160 (by decide +kernel)
theorem dX11_under_11 : decode cX11_under 11 = .ok (.iload_n 0, 1) := dl_26 (by decide +kernel)
theorem dX11_under_12 : decode cX11_under 12 = .ok (.iconst 3, 1) := dl_6 (by decide +kernel)
theorem dX11_under_13 : decode cX11_under 13 = .ok (.if_icmp .eq 8, 3) := dl_159 (by decide +kernel)
theorem dX11_under_21 : decode cX11_under 21 = .ok (.iconst 2, 1) := dl_5 (by decide +kernel)
theorem dX11_under_22 : decode cX11_under 22 = .ok (.goto 4, 3) := dl_167 (by decide +kernel)
theorem dX11_under_26 : decode cX11_under 26 = .ok (.ireturn, 1) := dl_172 (by decide +kernel)
theorem dX11_under_16 : decode cX11_under 16 = .ok (.iload_n 0, 1) := dl_26 (by decide +kernel)
theorem dX11_under_17 : decode cX11_under 17 = .ok (.iconst 4, 1) := dl_7 (by decide +kernel)
theorem dX11_under_18 : decode cX11_under 18 = .ok (.if_icmp .ne 7, 3) := dl_160 (by decide +kernel)
theorem dX11_under_25 : decode cX11_under 25 = .ok (.iconst 1, 1) := dl_4 (by decide +kernel)
set_option maxRecDepth 100000 in
set_option maxHeartbeats 4000000 in
theorem c_under (l : Launch) (E : EV) (ro : va_W) (op : Int32)  : CT l yX11_under (Cond.code yX11_under cX11_under 1 (some .int) :: TB) ({ frames := 0, cells := 0, slots := 0, locals := 0 }) E ro [.int op] [] (Qi E (fun (rz : Int32) uz => (rz = 0 ∧ uz = [] ∧ (op.toInt = 0 ∨ op.toInt = 1)) ∨ (rz = 2 ∧ uz = [] ∧ (op.toInt = 3 ∨ op.toInt = 4)) ∨ (rz = 1 ∧ uz = [] ∧ (op.toInt ≠ 0 ∧ op.toInt ≠ 1 ∧ op.toInt ≠ 3 ∧ op.toInt ≠ 4)))) 0 0 := by
  refine ct_of rfl rfl ?_
  intro X C hT hin hro
  show WW X 1 E 0 [(0, .int op)] [] [] 0 0
  refine ww_iload_n C dX11_under_0 0 rfl rfl ?_
  refine ww_if_eq (tgt := 9) C dX11_under_1 (by decide) (fun c_1 => ?_) (fun c_1 => ?_)
  · have zc_1 : op.toInt = 0 := i_eq rfl rfl c_1
    refine ww_iconst (v := 0) C dX11_under_9 rfl ?_
    exact ww_iret (u := []) C hT [] rfl rfl rfl rfl dX11_under_10 (Or.inl ⟨rfl, rfl, (by first | assumption | omega | decide)⟩)
  · have zc_1 : op.toInt ≠ 0 := i_ne rfl rfl c_1
    refine ww_iload_n C dX11_under_4 0 rfl rfl ?_
    refine ww_iconst (v := 1) C dX11_under_5 rfl ?_
    refine ww_icmp_ne (tgt := 11) C dX11_under_6 (by decide) (fun c_2 => ?_) (fun c_2 => ?_)
    · have zc_2 : op.toInt ≠ 1 := i_ne rfl rfl c_2
      refine ww_iload_n C dX11_under_11 0 rfl rfl ?_
      refine ww_iconst (v := 3) C dX11_under_12 rfl ?_
      refine ww_icmp_eq (tgt := 21) C dX11_under_13 (by decide) (fun c_3 => ?_) (fun c_3 => ?_)
      · have zc_3 : op.toInt = 3 := i_eq rfl rfl c_3
        refine ww_iconst (v := 2) C dX11_under_21 rfl ?_
        refine ww_goto (tgt := 26) C dX11_under_22 (by decide) ?_
        exact ww_iret (u := []) C hT [] rfl rfl rfl rfl dX11_under_26 (Or.inr (Or.inl ⟨rfl, rfl, (by first | assumption | omega | decide)⟩))
      · have zc_3 : op.toInt ≠ 3 := i_ne rfl rfl c_3
        refine ww_iload_n C dX11_under_16 0 rfl rfl ?_
        refine ww_iconst (v := 4) C dX11_under_17 rfl ?_
        refine ww_icmp_ne (tgt := 25) C dX11_under_18 (by decide) (fun c_4 => ?_) (fun c_4 => ?_)
        · have zc_4 : op.toInt ≠ 4 := i_ne rfl rfl c_4
          refine ww_iconst (v := 1) C dX11_under_25 rfl ?_
          exact ww_iret (u := []) C hT [] rfl rfl rfl rfl dX11_under_26 (Or.inr (Or.inr ⟨rfl, rfl, (by first | assumption | omega | decide)⟩))
        · have zc_4 : op.toInt = 4 := i_eq rfl rfl c_4
          refine ww_iconst (v := 2) C dX11_under_21 rfl ?_
          refine ww_goto (tgt := 26) C dX11_under_22 (by decide) ?_
          exact ww_iret (u := []) C hT [] rfl rfl rfl rfl dX11_under_26 (Or.inr (Or.inl ⟨rfl, rfl, (by first | assumption | omega | decide)⟩))
    · have zc_2 : op.toInt = 1 := i_eq rfl rfl c_2
      refine ww_iconst (v := 0) C dX11_under_9 rfl ?_
      exact ww_iret (u := []) C hT [] rfl rfl rfl rfl dX11_under_10 (Or.inl ⟨rfl, rfl, (by first | assumption | omega | decide)⟩)
def bcf (x0 : Int32) : Int32 :=
  let x1 := x0 - ((x0.toUInt32 >>> ((1 : Int32).toUInt32 &&& Int32.toUInt32 31)).toInt32 &&& (1431655765 : Int32))
  let x2 := (x1 &&& (858993459 : Int32)) + ((x1.toUInt32 >>> ((2 : Int32).toUInt32 &&& Int32.toUInt32 31)).toInt32 &&& (858993459 : Int32))
  let x3 := (x2 + (x2.toUInt32 >>> ((4 : Int32).toUInt32 &&& Int32.toUInt32 31)).toInt32) &&& (252645135 : Int32)
  let x4 := x3 + (x3.toUInt32 >>> ((8 : Int32).toUInt32 &&& Int32.toUInt32 31)).toInt32
  let x5 := x4 + (x4.toUInt32 >>> ((16 : Int32).toUInt32 &&& Int32.toUInt32 31)).toInt32
  x5 &&& (63 : Int32)
theorem bcf_nI {n : Nat} (hn : n < 2 ^ 32) : bcf (nI n) = nI (cb n.testBit 32) := by
  obtain ⟨a, b, c, d, ha, hb, hc, hd, rfl⟩ : ∃ a b c d : Nat, a < 256 ∧ b < 256 ∧ c < 256 ∧ d < 256 ∧ n = a + 256 * (b + 256 * (c + 256 * d)) :=
    ⟨n % 256, n / 256 % 256, n / 65536 % 256, n / 16777216, by omega, by omega, by omega, by omega, by omega⟩
  have pa := t_p8le a ha
  have pb := t_p8le b hb
  have pc := t_p8le c hc
  have pd := t_p8le d hd
  have ra := t_r8 a ha
  have rb := t_r8 b hb
  have rc := t_r8 c hc
  have rd := t_r8 d hd
  have ca := t_c8b a ha
  have cb' := t_c8b b hb
  have cc := t_c8b c hc
  have cd := t_c8b d hd
  have e1 := s_1 ha hb hc hd
  have e2 := s_2 ha hb hc hd
  have e3 := s_3 ha hb hc hd
  have l1 : ((1431655765 : Int32)) = nI 1431655765 := rfl
  have l2 : ((858993459 : Int32)) = nI 858993459 := rfl
  have l3 : ((252645135 : Int32)) = nI 252645135 := rfl
  have l4 : ((63 : Int32)) = nI 63 := rfl
  have hx1 : nI (a + 256 * (b + 256 * (c + 256 * d))) - (((nI (a + 256 * (b + 256 * (c + 256 * d)))).toUInt32 >>> ((1 : Int32).toUInt32 &&& Int32.toUInt32 31)).toInt32 &&& (1431655765 : Int32)) = nI (q8 a + 256 * (q8 b + 256 * (q8 c + 256 * q8 d))) := by
    rw [pk_ushrN hn 1 1 rfl, l1, nI_and (by omega) (by omega), Nat.pow_one, e1, pk_sub (by omega)]
    congr 1
    unfold q8
    omega
  unfold bcf
  simp only []
  rw [hx1]
  generalize hX1 : q8 a + 256 * (q8 b + 256 * (q8 c + 256 * q8 d)) = X1 at *
  have hX1l : X1 < 2 ^ 32 := by rw [← hX1]; omega
  have hx2 : (nI X1 &&& (858993459 : Int32)) + (((nI X1).toUInt32 >>> ((2 : Int32).toUInt32 &&& Int32.toUInt32 31)).toInt32 &&& (858993459 : Int32)) = nI (r8 a + 256 * (r8 b + 256 * (r8 c + 256 * r8 d))) := by
    rw [pk_ushrN hX1l 2 2 rfl, l2, nI_and (by omega) (by omega), nI_and (by omega) (by omega), nI_add, show (2 : Nat) ^ 2 = 4 from rfl, e2]
  rw [hx2]
  generalize hX2 : r8 a + 256 * (r8 b + 256 * (r8 c + 256 * r8 d)) = X2 at *
  have hX2l : X2 < 2 ^ 31 := by rw [← hX2]; omega
  have hx3 : (nI X2 + ((nI X2).toUInt32 >>> ((4 : Int32).toUInt32 &&& Int32.toUInt32 31)).toInt32) &&& (252645135 : Int32) = nI (c8 a + 256 * (c8 b + 256 * (c8 c + 256 * c8 d))) := by
    rw [pk_ushrN (by omega) 4 4 rfl, l3, nI_add, nI_and (by omega) (by omega), show (2 : Nat) ^ 4 = 16 from rfl, e3]
  rw [hx3]
  have hX3l : c8 a + 256 * (c8 b + 256 * (c8 c + 256 * c8 d)) < 2 ^ 28 := by omega
  rw [pk_ushrN (by omega) 8 8 rfl, nI_add, pk_ushrN (by omega) 16 16 rfl, nI_add, l4, nI_and (by omega) (by omega)]
  have e6 : ∀ z : Nat, z &&& 63 = z % 64 := fun z => Nat.and_two_pow_sub_one_eq_mod z 6
  rw [e6]
  have hbits : cb (a + 256 * (b + 256 * (c + 256 * d))).testBit 32 = c8 a + c8 b + c8 c + c8 d := by
    have key : ∀ (u v : Nat), u < 256 → ∀ i, (u + 256 * v).testBit (8 + i) = v.testBit i := by
      intro u v hu i
      rw [show u + 256 * v = 2 ^ 8 * v + u by omega, Nat.testBit_two_pow_mul_add _ (by omega), if_neg (by omega)]
      congr 1
      omega
    have low : ∀ (u v : Nat), u < 256 → ∀ i, i < 8 → (u + 256 * v).testBit i = u.testBit i := by
      intro u v hu i hi
      rw [show u + 256 * v = 2 ^ 8 * v + u by omega, Nat.testBit_two_pow_mul_add _ (by omega), if_pos hi]
    have st : ∀ (u v m : Nat), u < 256 → cb (u + 256 * v).testBit (8 + m) = c8 u + cb v.testBit m := by
      intro u v m hu
      rw [cb_add, cb_congr (low u v hu), (t_c8b u hu).1]
      congr 1
      exact cb_congr (fun i _ => key u v hu i)
    rw [show (32 : Nat) = 8 + (8 + (8 + 8)) from rfl, st _ _ _ ha, st _ _ _ hb, st _ _ _ hc, (t_c8b d hd).1]
    omega
  rw [hbits]
  congr 1
  rw [show (2 : Nat) ^ 8 = 256 from rfl, show (2 : Nat) ^ 16 = 65536 from rfl]
  exact fin_sum ca.2 cb'.2 cc.2 cd.2
theorem cb_small {n r m : Nat} (h : n < 2 ^ r) (hm : r ≤ m) : cb n.testBit m = cb n.testBit r := by
  obtain ⟨k, rfl⟩ : ∃ k, m = r + k := ⟨m - r, by omega⟩
  have hz : cb (fun i => n.testBit (r + i)) k = 0 := cb_zero (fun i _ => Nat.testBit_lt_two_pow (Nat.lt_of_lt_of_le h (Nat.pow_le_pow_right (by omega) (Nat.le_add_right r i))))
  rw [cb_add, hz, Nat.add_zero]
/-- bits below place r: at most r of them -/
theorem bcf_low {x : Int32} {r : Nat} (hr : r ≤ 30) : ∃ j : Nat, j ≤ r ∧ bcf (x &&& (nI (2 ^ r) - 1)) = nI j := by
  obtain ⟨n, hn, rfl⟩ := i_nI x
  have h1 : (1 : Int32) = nI 1 := rfl
  have hp : 2 ^ r ≤ 2 ^ 30 := Nat.pow_le_pow_right (by omega) hr
  have hp0 : 0 < 2 ^ r := Nat.two_pow_pos r
  rw [h1, pk_sub (by omega), nI_and hn (by omega)]
  have hl : n &&& (2 ^ r - 1) < 2 ^ r := Nat.lt_of_le_of_lt Nat.and_le_right (by omega)
  rw [bcf_nI (by omega), cb_small hl (by omega)]
  exact ⟨_, cb_le _ _, rfl⟩
theorem shl_1 {r : Nat} (hr : r ≤ 30) : (1 : Int32) <<< (nI r &&& 31) = nI (2 ^ r) := by
  have h : ∀ r, r ≤ 30 → (1 : Int32) <<< (nI r &&& 31) = nI (2 ^ r) := by decide +kernel
  exact h r hr
theorem bcf_bt (x : Int32) : bcf x = nI (cb (bt x) 32) := by
  obtain ⟨n, hn, rfl⟩ := i_nI x
  rw [bcf_nI hn]
  congr 1
  exact cb_congr (fun i _ => (bt_nI hn).symm)
theorem cb_s (f : Nat → Bool) (n : Nat) : cb f (n + 1) = cb f n + (if f n then 1 else 0) := rfl
theorem cb_t {f : Nat → Bool} {n : Nat} (h : f n = true) : cb f (n + 1) = cb f n + 1 := by rw [cb_s, h]; rfl
theorem cb_f {f : Nat → Bool} {n : Nat} (h : f n = false) : cb f (n + 1) = cb f n := by rw [cb_s, h]; rfl
theorem cb_mono (f : Nat → Bool) {a b : Nat} (h : a ≤ b) : cb f a ≤ cb f b := by
  obtain ⟨d, rfl⟩ : ∃ d, b = a + d := ⟨b - a, by omega⟩
  rw [cb_add]; omega
theorem cb_lt {f : Nat → Bool} {r n : Nat} (hr : r < n) (h : f r = true) : cb f r < cb f n := by
  have h1 := cb_t h
  have h2 := cb_mono f (show r + 1 ≤ n by omega)
  omega
theorem m_bits {r : Nat} (hr : r ≤ 30) : ∀ i, i < 32 → bt (nI (2 ^ r) - 1) i = decide (i < r) := by
  have h : ∀ r, r ≤ 30 → ∀ i, i < 32 → bt (nI (2 ^ r) - 1) i = decide (i < r) := by decide +kernel
  exact h r hr
theorem bcf_lowx {x : Int32} {r : Nat} (hr : r ≤ 30) : bcf (x &&& (nI (2 ^ r) - 1)) = nI (cb (bt x) r) := by
  rw [bcf_bt]
  congr 1
  have e1 : cb (bt (x &&& (nI (2 ^ r) - 1))) 32 = cb (bt (x &&& (nI (2 ^ r) - 1))) r + cb (fun i => bt (x &&& (nI (2 ^ r) - 1)) (r + i)) (32 - r) := by
    rw [← cb_add]; congr 1; omega
  rw [e1, cb_zero (f := fun i => bt (x &&& (nI (2 ^ r) - 1)) (r + i)) (fun i hi => by rw [b_and, m_bits hr _ (by omega)]; simp), Nat.add_zero]
  exact cb_congr (fun i hi => by rw [b_and, m_bits hr _ (by omega)]; simp [hi])
theorem all_b {n : Nat} {x y : Int32} (hn : n ≤ 24) (ex : (1 : Int32) <<< (nI n &&& 31) = x) (ey : x - (1 : Int32) = y) : ∀ i, i < 32 → bt y i = decide (i < n) := by
  subst ey; subst ex
  intro i hi
  rw [shl_1 (by omega)]
  exact m_bits (by omega) i hi
theorem and_bt {a b c : Int32} {r : Nat} (h1 : bt a r = true) (h2 : bt b r = true) (e : a &&& b = c) : bt c r = true := by rw [← e, b_and, h1, h2]; rfl
theorem not_bt {b x : Int32} {r : Nat} (hr : r < 32) (h : bt b r = false) (e : b ^^^ (-1 : Int32) = x) : bt x r = true := by rw [← e, b_xor, h, b_m1 r hr]; rfl
theorem cut_r {st : Int32} {n r n2 r2 : Nat} (hr : r < n ∨ r = 0) (h : r < n → bt st r = true) (e1 : n2 = cb (bt st) n) (e2 : r2 = cb (bt st) r) : n2 ≤ n ∧ (r2 < n2 ∨ r2 = 0) := by
  have h1 := cb_le (bt st) n
  refine ⟨by omega, ?_⟩
  by_cases hn : r < n
  · left; rw [e1, e2]; exact cb_lt hn (h hn)
  · right; rw [e2, show r = 0 by omega]; rfl
end
section
theorem dJ6_bitCount_0f7a4_0 : decode cJ6_bitCount_0f7a4 0 = .ok (.iload_n 0, 1) := dl_26 (by decide +kernel)
theorem dJ6_bitCount_0f7a4_1 : decode cJ6_bitCount_0f7a4 1 = .ok (.iload_n 0, 1) := dl_26 (by decide +kernel)
theorem dJ6_bitCount_0f7a4_2 : decode cJ6_bitCount_0f7a4 2 = .ok (.iconst 1, 1) := dl_4 (by decide +kernel)
theorem dJ6_bitCount_0f7a4_3 : decode cJ6_bitCount_0f7a4 3 = .ok (.iushr, 1) := dl_124 (by decide +kernel)
theorem dJ6_bitCount_0f7a4_4 : decode cJ6_bitCount_0f7a4 4 = .ok (.ldc_w 265, 3) := by decide +kernel
theorem wv_J6_265 : Cond.constant RJ6 265 1431655765 ∈ TB := tbm (tq2 (List.mem_of_getElem? (i := 200) (by decide +kernel))) (by decide +kernel)
theorem dJ6_bitCount_0f7a4_7 : decode cJ6_bitCount_0f7a4 7 = .ok (.iand, 1) := dl_126 (by decide +kernel)
theorem dJ6_bitCount_0f7a4_8 : decode cJ6_bitCount_0f7a4 8 = .ok (.isub, 1) := dl_100 (by decide +kernel)
theorem dJ6_bitCount_0f7a4_9 : decode cJ6_bitCount_0f7a4 9 = .ok (.istore_n 0, 1) := dl_59 (by decide +kernel)
theorem dJ6_bitCount_0f7a4_10 : decode cJ6_bitCount_0f7a4 10 = .ok (.iload_n 0, 1) := dl_26 (by decide +kernel)
theorem dJ6_bitCount_0f7a4_11 : decode cJ6_bitCount_0f7a4 11 = .ok (.ldc_w 266, 3) := by decide +kernel
theorem wv_J6_266 : Cond.constant RJ6 266 858993459 ∈ TB := tbm (tq2 (List.mem_of_getElem? (i := 201) (by decide +kernel))) (by decide +kernel)
theorem dJ6_bitCount_0f7a4_14 : decode cJ6_bitCount_0f7a4 14 = .ok (.iand, 1) := dl_126 (by decide +kernel)
theorem dJ6_bitCount_0f7a4_15 : decode cJ6_bitCount_0f7a4 15 = .ok (.iload_n 0, 1) := dl_26 (by decide +kernel)
theorem dJ6_bitCount_0f7a4_16 : decode cJ6_bitCount_0f7a4 16 = .ok (.iconst 2, 1) := dl_5 (by decide +kernel)
theorem dJ6_bitCount_0f7a4_17 : decode cJ6_bitCount_0f7a4 17 = .ok (.iushr, 1) := dl_124 (by decide +kernel)
theorem dJ6_bitCount_0f7a4_18 : decode cJ6_bitCount_0f7a4 18 = .ok (.ldc_w 266, 3) := by decide +kernel
theorem dJ6_bitCount_0f7a4_21 : decode cJ6_bitCount_0f7a4 21 = .ok (.iand, 1) := dl_126 (by decide +kernel)
theorem dJ6_bitCount_0f7a4_22 : decode cJ6_bitCount_0f7a4 22 = .ok (.iadd, 1) := dl_96 (by decide +kernel)
theorem dJ6_bitCount_0f7a4_23 : decode cJ6_bitCount_0f7a4 23 = .ok (.istore_n 0, 1) := dl_59 (by decide +kernel)
theorem dJ6_bitCount_0f7a4_24 : decode cJ6_bitCount_0f7a4 24 = .ok (.iload_n 0, 1) := dl_26 (by decide +kernel)
theorem dJ6_bitCount_0f7a4_25 : decode cJ6_bitCount_0f7a4 25 = .ok (.iload_n 0, 1) := dl_26 (by decide +kernel)
theorem dJ6_bitCount_0f7a4_26 : decode cJ6_bitCount_0f7a4 26 = .ok (.iconst 4, 1) := dl_7 (by decide +kernel)
theorem dJ6_bitCount_0f7a4_27 : decode cJ6_bitCount_0f7a4 27 = .ok (.iushr, 1) := dl_124 (by decide +kernel)
theorem dJ6_bitCount_0f7a4_28 : decode cJ6_bitCount_0f7a4 28 = .ok (.iadd, 1) := dl_96 (by decide +kernel)
theorem dJ6_bitCount_0f7a4_29 : decode cJ6_bitCount_0f7a4 29 = .ok (.ldc_w 267, 3) := by decide +kernel
theorem wv_J6_267 : Cond.constant RJ6 267 252645135 ∈ TB := tbm (tq2 (List.mem_of_getElem? (i := 202) (by decide +kernel))) (by decide +kernel)
theorem dJ6_bitCount_0f7a4_32 : decode cJ6_bitCount_0f7a4 32 = .ok (.iand, 1) := dl_126 (by decide +kernel)
theorem dJ6_bitCount_0f7a4_33 : decode cJ6_bitCount_0f7a4 33 = .ok (.istore_n 0, 1) := dl_59 (by decide +kernel)
theorem dJ6_bitCount_0f7a4_34 : decode cJ6_bitCount_0f7a4 34 = .ok (.iload_n 0, 1) := dl_26 (by decide +kernel)
theorem dJ6_bitCount_0f7a4_35 : decode cJ6_bitCount_0f7a4 35 = .ok (.iload_n 0, 1) := dl_26 (by decide +kernel)
theorem dJ6_bitCount_0f7a4_36 : decode cJ6_bitCount_0f7a4 36 = .ok (.bipush 8, 2) := dl_16 (by decide +kernel)
theorem dJ6_bitCount_0f7a4_38 : decode cJ6_bitCount_0f7a4 38 = .ok (.iushr, 1) := dl_124 (by decide +kernel)
theorem dJ6_bitCount_0f7a4_39 : decode cJ6_bitCount_0f7a4 39 = .ok (.iadd, 1) := dl_96 (by decide +kernel)
theorem dJ6_bitCount_0f7a4_40 : decode cJ6_bitCount_0f7a4 40 = .ok (.istore_n 0, 1) := dl_59 (by decide +kernel)
theorem dJ6_bitCount_0f7a4_41 : decode cJ6_bitCount_0f7a4 41 = .ok (.iload_n 0, 1) := dl_26 (by decide +kernel)
theorem dJ6_bitCount_0f7a4_42 : decode cJ6_bitCount_0f7a4 42 = .ok (.iload_n 0, 1) := dl_26 (by decide +kernel)
theorem dJ6_bitCount_0f7a4_43 : decode cJ6_bitCount_0f7a4 43 = .ok (.bipush 16, 2) := dl_16 (by decide +kernel)
theorem dJ6_bitCount_0f7a4_45 : decode cJ6_bitCount_0f7a4 45 = .ok (.iushr, 1) := dl_124 (by decide +kernel)
theorem dJ6_bitCount_0f7a4_46 : decode cJ6_bitCount_0f7a4 46 = .ok (.iadd, 1) := dl_96 (by decide +kernel)
theorem dJ6_bitCount_0f7a4_47 : decode cJ6_bitCount_0f7a4 47 = .ok (.istore_n 0, 1) := dl_59 (by decide +kernel)
theorem dJ6_bitCount_0f7a4_48 : decode cJ6_bitCount_0f7a4 48 = .ok (.iload_n 0, 1) := dl_26 (by decide +kernel)
theorem dJ6_bitCount_0f7a4_49 : decode cJ6_bitCount_0f7a4 49 = .ok (.bipush 63, 2) := dl_16 (by decide +kernel)
theorem dJ6_bitCount_0f7a4_51 : decode cJ6_bitCount_0f7a4 51 = .ok (.iand, 1) := dl_126 (by decide +kernel)
theorem dJ6_bitCount_0f7a4_52 : decode cJ6_bitCount_0f7a4 52 = .ok (.ireturn, 1) := dl_172 (by decide +kernel)
set_option maxRecDepth 100000 in
set_option maxHeartbeats 4000000 in
theorem c_bitCount (l : Launch) (E : EV) (ro : va_W) (x0 : Int32)  : CT l yJ6_bitCount_0f7a4 (Cond.code yJ6_bitCount_0f7a4 cJ6_bitCount_0f7a4 1 (some .int) :: TB) ({ frames := 0, cells := 0, slots := 0, locals := 0 }) E ro [.int x0] [] (Qi E (fun (rz : Int32) uz => (rz = (bcf x0) ∧ uz = []))) 0 0 := by
  refine ct_of rfl rfl ?_
  intro X C hT hin hro
  show WW X 1 E 0 [(0, .int x0)] [] [] 0 0
  refine ww_iload_n C dJ6_bitCount_0f7a4_0 0 rfl rfl ?_
  refine ww_iload_n C dJ6_bitCount_0f7a4_1 0 rfl rfl ?_
  refine ww_iconst (v := 1) C dJ6_bitCount_0f7a4_2 rfl ?_
  obtain ⟨x_1, ex_1⟩ : ∃ z : Int32, (x0.toUInt32 >>> ((1 : Int32).toUInt32 &&& Int32.toUInt32 31)).toInt32 = z := ⟨_, rfl⟩
  refine ww_iushr (v := x_1) C dJ6_bitCount_0f7a4_3 ex_1 ?_
  refine ww_ldcw C wv_J6_265 dJ6_bitCount_0f7a4_4 ?_
  obtain ⟨x_2, ex_2⟩ : ∃ z : Int32, x_1 &&& (1431655765 : Int32) = z := ⟨_, rfl⟩
  refine ww_iand (v := x_2) C dJ6_bitCount_0f7a4_7 ex_2 ?_
  obtain ⟨x_3, ex_3⟩ : ∃ z : Int32, x0 - x_2 = z := ⟨_, rfl⟩
  refine ww_isub (v := x_3) C dJ6_bitCount_0f7a4_8 ex_3 ?_
  refine ww_istore_n (lv' := [(0, .int x_3)]) C dJ6_bitCount_0f7a4_9 rfl rfl rfl ?_
  refine ww_iload_n C dJ6_bitCount_0f7a4_10 0 rfl rfl ?_
  refine ww_ldcw C wv_J6_266 dJ6_bitCount_0f7a4_11 ?_
  obtain ⟨x_4, ex_4⟩ : ∃ z : Int32, x_3 &&& (858993459 : Int32) = z := ⟨_, rfl⟩
  refine ww_iand (v := x_4) C dJ6_bitCount_0f7a4_14 ex_4 ?_
  refine ww_iload_n C dJ6_bitCount_0f7a4_15 0 rfl rfl ?_
  refine ww_iconst (v := 2) C dJ6_bitCount_0f7a4_16 rfl ?_
  obtain ⟨x_5, ex_5⟩ : ∃ z : Int32, (x_3.toUInt32 >>> ((2 : Int32).toUInt32 &&& Int32.toUInt32 31)).toInt32 = z := ⟨_, rfl⟩
  refine ww_iushr (v := x_5) C dJ6_bitCount_0f7a4_17 ex_5 ?_
  refine ww_ldcw C wv_J6_266 dJ6_bitCount_0f7a4_18 ?_
  obtain ⟨x_6, ex_6⟩ : ∃ z : Int32, x_5 &&& (858993459 : Int32) = z := ⟨_, rfl⟩
  refine ww_iand (v := x_6) C dJ6_bitCount_0f7a4_21 ex_6 ?_
  obtain ⟨x_7, ex_7⟩ : ∃ z : Int32, x_4 + x_6 = z := ⟨_, rfl⟩
  refine ww_iadd (v := x_7) C dJ6_bitCount_0f7a4_22 ex_7 ?_
  refine ww_istore_n (lv' := [(0, .int x_7)]) C dJ6_bitCount_0f7a4_23 rfl rfl rfl ?_
  refine ww_iload_n C dJ6_bitCount_0f7a4_24 0 rfl rfl ?_
  refine ww_iload_n C dJ6_bitCount_0f7a4_25 0 rfl rfl ?_
  refine ww_iconst (v := 4) C dJ6_bitCount_0f7a4_26 rfl ?_
  obtain ⟨x_8, ex_8⟩ : ∃ z : Int32, (x_7.toUInt32 >>> ((4 : Int32).toUInt32 &&& Int32.toUInt32 31)).toInt32 = z := ⟨_, rfl⟩
  refine ww_iushr (v := x_8) C dJ6_bitCount_0f7a4_27 ex_8 ?_
  obtain ⟨x_9, ex_9⟩ : ∃ z : Int32, x_7 + x_8 = z := ⟨_, rfl⟩
  refine ww_iadd (v := x_9) C dJ6_bitCount_0f7a4_28 ex_9 ?_
  refine ww_ldcw C wv_J6_267 dJ6_bitCount_0f7a4_29 ?_
  obtain ⟨x_10, ex_10⟩ : ∃ z : Int32, x_9 &&& (252645135 : Int32) = z := ⟨_, rfl⟩
  refine ww_iand (v := x_10) C dJ6_bitCount_0f7a4_32 ex_10 ?_
  refine ww_istore_n (lv' := [(0, .int x_10)]) C dJ6_bitCount_0f7a4_33 rfl rfl rfl ?_
  refine ww_iload_n C dJ6_bitCount_0f7a4_34 0 rfl rfl ?_
  refine ww_iload_n C dJ6_bitCount_0f7a4_35 0 rfl rfl ?_
  refine ww_bipush (v := 8) C dJ6_bitCount_0f7a4_36 rfl ?_
  obtain ⟨x_11, ex_11⟩ : ∃ z : Int32, (x_10.toUInt32 >>> ((8 : Int32).toUInt32 &&& Int32.toUInt32 31)).toInt32 = z := ⟨_, rfl⟩
  refine ww_iushr (v := x_11) C dJ6_bitCount_0f7a4_38 ex_11 ?_
  obtain ⟨x_12, ex_12⟩ : ∃ z : Int32, x_10 + x_11 = z := ⟨_, rfl⟩
  refine ww_iadd (v := x_12) C dJ6_bitCount_0f7a4_39 ex_12 ?_
  refine ww_istore_n (lv' := [(0, .int x_12)]) C dJ6_bitCount_0f7a4_40 rfl rfl rfl ?_
  refine ww_iload_n C dJ6_bitCount_0f7a4_41 0 rfl rfl ?_
  refine ww_iload_n C dJ6_bitCount_0f7a4_42 0 rfl rfl ?_
  refine ww_bipush (v := 16) C dJ6_bitCount_0f7a4_43 rfl ?_
  obtain ⟨x_13, ex_13⟩ : ∃ z : Int32, (x_12.toUInt32 >>> ((16 : Int32).toUInt32 &&& Int32.toUInt32 31)).toInt32 = z := ⟨_, rfl⟩
  refine ww_iushr (v := x_13) C dJ6_bitCount_0f7a4_45 ex_13 ?_
  obtain ⟨x_14, ex_14⟩ : ∃ z : Int32, x_12 + x_13 = z := ⟨_, rfl⟩
  refine ww_iadd (v := x_14) C dJ6_bitCount_0f7a4_46 ex_14 ?_
  refine ww_istore_n (lv' := [(0, .int x_14)]) C dJ6_bitCount_0f7a4_47 rfl rfl rfl ?_
  refine ww_iload_n C dJ6_bitCount_0f7a4_48 0 rfl rfl ?_
  refine ww_bipush (v := 63) C dJ6_bitCount_0f7a4_49 rfl ?_
  obtain ⟨x_15, ex_15⟩ : ∃ z : Int32, x_14 &&& (63 : Int32) = z := ⟨_, rfl⟩
  refine ww_iand (v := x_15) C dJ6_bitCount_0f7a4_51 ex_15 ?_
  exact ww_iret (u := []) C hT [] rfl rfl rfl rfl dJ6_bitCount_0f7a4_52 (⟨(by subst_vars; rfl), rfl⟩)
def hbt (x j is : Int32) : Int32 := if is.toInt ≠ 0 then x ||| 1 <<< (j &&& 31) else x &&& ((1 : Int32) <<< (j &&& 31) ^^^ -1)
theorem cb_sub {f g : Nat → Bool} : ∀ n : Nat, (∀ i, i < n → f i = true → g i = true) → cb f n ≤ cb g n
  | 0, _ => Nat.le_refl _
  | n + 1, h => by
    have ih := cb_sub n (fun i hi => h i (by omega))
    rw [cb_s, cb_s]
    cases hf : f n with
    | false => simp; omega
    | true => rw [h n (by omega) hf]; omega
theorem cb_sub_lt {f g : Nat → Bool} : ∀ n : Nat, (∀ i, i < n → f i = true → g i = true) → (∃ i, i < n ∧ f i = false ∧ g i = true) → cb f n < cb g n
  | 0, _, ⟨i, hi, _⟩ => absurd hi (Nat.not_lt_zero _)
  | n + 1, h, ⟨i, hi, h1, h2⟩ => by
    have h0 := cb_sub n (fun i hi => h i (by omega))
    rw [cb_s, cb_s]
    by_cases hn : i = n
    · subst hn; rw [h1, h2]; simp; omega
    · have ih := cb_sub_lt n (fun i hi => h i (by omega)) ⟨i, by omega, h1, h2⟩
      cases hf : f n with
      | false => simp; omega
      | true => rw [h n (by omega) hf]; omega
/-! worlds: sets of places as bits, models by value -/
def anyN (p : Nat → Bool) : Nat → Bool
  | 0 => false
  | i + 1 => anyN p i || p i
theorem anyN_iff {p : Nat → Bool} {n : Nat} : anyN p n = true ↔ ∃ i, i < n ∧ p i = true := by
  induction n with
  | zero => exact ⟨fun h => (Bool.false_ne_true h).elim, fun ⟨i, h, _⟩ => absurd h (Nat.not_lt_zero _)⟩
  | succ n ih =>
    show (anyN p n || p n) = true ↔ _
    rw [Bool.or_eq_true, ih]
    constructor
    · rintro (⟨i, h1, h2⟩ | h)
      · exact ⟨i, by omega, h2⟩
      · exact ⟨n, by omega, h⟩
    · rintro ⟨i, h1, h2⟩
      by_cases q : i = n
      · subst q; exact Or.inr h2
      · exact Or.inl ⟨i, by omega, h2⟩
theorem anyN_no {p : Nat → Bool} {n : Nat} (h : ∀ i, i < n → p i = false) : anyN p n = false := by
  cases q : anyN p n with
  | false => rfl
  | true => obtain ⟨i, h1, h2⟩ := anyN_iff.mp q; rw [h i h1] at h2; cases h2
theorem anyN_f {p : Nat → Bool} {n i : Nat} (h : anyN p n = false) (hi : i < n) : p i = false := by
  cases q : p i with
  | false => rfl
  | true => rw [anyN_iff.mpr ⟨i, hi, q⟩] at h; cases h
theorem anyN_cg {p q : Nat → Bool} {n : Nat} (h : ∀ i, i < n → p i = q i) : anyN p n = anyN q n := by
  induction n with
  | zero => rfl
  | succ n ih => show (anyN p n || p n) = (anyN q n || q n); rw [ih (fun i hi => h i (by omega)), h n (by omega)]
theorem dec_cg {p q : Prop} [Decidable p] [Decidable q] (h : p ↔ q) : decide p = decide q := by
  by_cases k : p
  · rw [decide_eq_true k, decide_eq_true (h.mp k)]
  · rw [decide_eq_false k, decide_eq_false (fun z => k (h.mpr z))]
/-- the places of a set are the bits that are set -/
def BS (x : Int32) (P : Nat → Bool) : Prop := ∀ i, i < 32 → bt x i = P i
theorem BS.eq {x y : Int32} {P : Nat → Bool} (h : BS x P) (k : BS y P) : x = y := b_ext (fun i hi => (h i hi).trans (k i hi).symm)
theorem BS.cg {x : Int32} {P Q : Nat → Bool} (h : BS x P) (e : ∀ i, i < 32 → P i = Q i) : BS x Q := fun i hi => (h i hi).trans (e i hi)
theorem BS.z : BS 0 (fun _ => false) := fun i _ => b_0 i
theorem BS.or {x y z : Int32} {P Q : Nat → Bool} (h : BS x P) (k : BS y Q) (e : x ||| y = z) : BS z (fun v => P v || Q v) := fun i hi => by rw [← e, b_or, h i hi, k i hi]
theorem BS.and {x y z : Int32} {P Q : Nat → Bool} (h : BS x P) (k : BS y Q) (e : x &&& y = z) : BS z (fun v => P v && Q v) := fun i hi => by rw [← e, b_and, h i hi, k i hi]
theorem BS.not {x z : Int32} {P : Nat → Bool} (h : BS x P) (e : x ^^^ (-1 : Int32) = z) : BS z (fun v => !P v) := fun i hi => by rw [← e, b_xor, h i hi, b_m1 i hi, Bool.xor_true]
theorem BS.refl (x : Int32) : BS x (bt x) := fun _ _ => rfl
theorem nz_iff {x : Int32} : x ≠ 0 ↔ ∃ i, i < 32 ∧ bt x i = true := by
  constructor
  · intro h
    cases q : anyN (bt x) 32 with
    | true => exact anyN_iff.mp q
    | false => exact absurd (b_ext (y := 0) (fun i hi => by rw [b_0]; exact anyN_f q hi)) h
  · rintro ⟨i, hi, h⟩ e
    rw [e, b_0] at h; cases h
theorem BS.nz {x : Int32} {P : Nat → Bool} (h : BS x P) (k : ¬ x = 0) : anyN P 32 = true := by
  obtain ⟨i, hi, q⟩ := nz_iff.mp k
  exact anyN_iff.mpr ⟨i, hi, by rw [← h i hi]; exact q⟩
theorem BS.iz {x : Int32} {P : Nat → Bool} (h : BS x P) (k : x = 0) : anyN P 32 = false := anyN_no (fun i hi => by rw [← h i hi, k, b_0])
theorem i_z {x : Int32} (h : x.toInt = 0) : x = 0 := Int32.toInt_inj.mp (by rw [h]; rfl)
theorem i_nz {x : Int32} (h : x.toInt ≠ 0) : ¬ x = 0 := fun e => h (by rw [e]; rfl)
theorem BS.t {x : Int32} {P : Nat → Bool} {i : Nat} (h : BS x P) (hi : i < 32) (k : bt x i = true) : P i = true := by rw [← h i hi]; exact k
theorem BS.f {x : Int32} {P : Nat → Bool} {i : Nat} (h : BS x P) (hi : i < 32) (k : bt x i = false) : P i = false := by rw [← h i hi]; exact k
theorem one_b {i : Nat} (hi : i ≤ 30) : ∀ v, v < 32 → bt ((1 : Int32) <<< (nI i &&& 31)) v = decide (v = i) := by
  intro v hv
  rw [b_shl i (by omega) 1 hv, b_one (v - i) (by omega)]
  by_cases h : v = i
  · subst h; simp
  · rw [decide_eq_false h]
    by_cases h2 : i ≤ v
    · rw [decide_eq_false (show ¬ v - i = 0 by omega), Bool.and_false]
    · rw [decide_eq_false h2, Bool.false_and]
/-- a row that is gathered: those of B, and of the first i places those of P -/
def AC (x : Int32) (B : Nat → Bool) (i : Nat) (P : Nat → Bool) : Prop := BS x (fun v => B v || (decide (v < i) && P v))
abbrev no_ : Nat → Bool := fun _ => false
theorem AC.st {x : Int32} {B P : Nat → Bool} (h : BS x B) : AC x B 0 P := h.cg (fun i _ => by rw [decide_eq_false (Nat.not_lt_zero i), Bool.false_and, Bool.or_false])
theorem AC.nil {P : Nat → Bool} : AC 0 no_ 0 P := AC.st BS.z
theorem AC.t {x y z : Int32} {B P : Nat → Bool} {i : Nat} (h : AC x B i P) (hi : i ≤ 30) (hp : P i = true) (e2 : x ||| y = z) (e1 : (1 : Int32) <<< (nI i &&& 31) = y) : AC z B (i + 1) P := by
  intro v hv
  have h1 : bt x v = (B v || (decide (v < i) && P v)) := h v hv
  show bt z v = (B v || (decide (v < i + 1) && P v))
  rw [← e2, ← e1, b_or, h1, one_b hi v hv]
  by_cases q : v = i
  · subst q; rw [hp, decide_eq_true rfl, decide_eq_true (show v < v + 1 by omega), Bool.or_true, Bool.and_self, Bool.or_true]
  · rw [decide_eq_false q, Bool.or_false, dec_cg (show v < i + 1 ↔ v < i by omega)]
theorem AC.f {x : Int32} {B P : Nat → Bool} {i : Nat} (h : AC x B i P) (hp : P i = false) : AC x B (i + 1) P := by
  intro v hv
  have h1 : bt x v = (B v || (decide (v < i) && P v)) := h v hv
  show bt x v = (B v || (decide (v < i + 1) && P v))
  rw [h1]
  by_cases q : v = i
  · subst q; rw [hp, Bool.and_false, Bool.and_false]
  · rw [dec_cg (show v < i + 1 ↔ v < i by omega)]
theorem AC.z {x z : Int32} {B P : Nat → Bool} {i : Nat} (h : AC x B i P) (hp : P i = false) (e : x ||| (0 : Int32) = z) : AC z B (i + 1) P := by
  have e2 : z = x := by rw [← e]; apply b_ext; intro i _; rw [b_or, b_0, Bool.or_false]
  rw [e2]; exact h.f hp
theorem AC.fin {x : Int32} {P : Nat → Bool} {i n : Nat} (h : AC x no_ i P) (e : i = n) : BS x (fun v => decide (v < n) && P v) := by
  subst e; exact h.cg (fun v _ => by rw [Bool.false_or])
theorem AC.end {x : Int32} {B P : Nat → Bool} {i n : Nat} (h : AC x B i P) (e : i = n) : BS x (fun v => B v || (decide (v < n) && P v)) := by
  subst e; exact h
/-! models by value: how many worlds, the real one, facts, who holds what possible -/
abbrev AM : Type := Nat × Nat × (Nat → Int32) × (Nat → Nat → Nat → Bool)
def am (n r : Nat) (f g : Nat → Int32) : AM := (n, r, fun w => if w < n then f w else 0, fun k w v => decide (k < 4) && (decide (w < n) && bt (g (k * 24 + w)) v))
theorem am_S {n r k w v : Nat} {f g : Nat → Int32} (hk : k < 4) (hw : w < n) : (am n r f g).2.2.2 k w v = bt (g (k * 24 + w)) v := by
  show (decide (k < 4) && (decide (w < n) && bt (g (k * 24 + w)) v)) = _
  rw [decide_eq_true hk, decide_eq_true hw, Bool.true_and, Bool.true_and]
theorem am_F {n r w : Nat} {f g : Nat → Int32} (hw : w < n) : (am n r f g).2.2.1 w = f w := if_pos hw
theorem am_eq {n r : Nat} {f g f' g' : Nat → Int32} (h1 : ∀ w, w < n → f w = f' w) (h2 : ∀ k w, k < 4 → w < n → g (k * 24 + w) = g' (k * 24 + w)) : am n r f g = am n r f' g' := by
  unfold am
  refine congrArg _ (congrArg _ ?_)
  refine Prod.ext ?_ ?_
  · funext w
    show (if w < n then f w else 0) = (if w < n then f' w else 0)
    by_cases h : w < n
    · rw [if_pos h, if_pos h, h1 w h]
    · rw [if_neg h, if_neg h]
  · funext k w v
    show (decide (k < 4) && (decide (w < n) && bt (g (k * 24 + w)) v)) = (decide (k < 4) && (decide (w < n) && bt (g' (k * 24 + w)) v))
    by_cases hk : k < 4
    · by_cases hw : w < n
      · rw [h2 k w hk hw]
      · rw [decide_eq_false hw, Bool.false_and, Bool.false_and]
    · rw [decide_eq_false hk, Bool.false_and, Bool.false_and]
/-- nobody holds a world possible that is not there -/
def WFm (m : AM) : Prop := ∀ k w v, m.2.2.2 k w v = true → v < m.1
/-- worlds with one of these facts -/
def vF (m : AM) (x : Int32) : Nat → Bool := fun w => decide (w < m.1) && decide (¬ (m.2.2.1 w &&& x = 0))
def vAll (m : AM) : Nat → Bool := fun w => decide (w < m.1)
def vNot (m : AM) (P : Nat → Bool) : Nat → Bool := fun w => decide (w < m.1) && !P w
/-- a step of one of a group -/
def nx (m : AM) (gr : Int32) (w v : Nat) : Bool := anyN (fun k => bt gr k && m.2.2.2 k w v) 4
/-- worlds from which 1 to s steps lead to one of these -/
def ld (m : AM) (gr : Int32) (T : Nat → Bool) : Nat → Nat → Bool
  | 0 => fun _ => false
  | s + 1 => fun w => ld m gr T s w || (decide (w < m.1) && anyN (fun v => nx m gr w v && (T v || ld m gr T s v)) 32)
/-- what all of a group hold possible -/
def shr (m : AM) (gr : Int32) (w v : Nat) : Bool := decide (v < m.1) && !anyN (fun k => bt gr k && !m.2.2.2 k w v) 4
def vTog (m : AM) (gr : Int32) (P : Nat → Bool) : Nat → Bool := fun w => decide (w < m.1) && !anyN (fun v => shr m gr w v && !P v) 32
/-- worlds to which 1 to s + 1 steps lead -/
def fw (m : AM) (gr : Int32) (w : Nat) : Nat → Nat → Bool
  | 0 => nx m gr w
  | s + 1 => fun v => fw m gr w s v || anyN (fun u => fw m gr w s u && nx m gr u v) m.1
theorem ld_st {m : AM} {gr : Int32} {T : Nat → Bool} {s : Nat} (h : ∀ v, v < 32 → ld m gr T (s + 1) v = ld m gr T s v) : ∀ d v, v < 32 → ld m gr T (s + d) v = ld m gr T s v := by
  intro d
  induction d with
  | zero => intro v _; rfl
  | succ d ih =>
    intro v hv
    rw [← h v hv]
    show (ld m gr T (s + d) v || (decide (v < m.1) && anyN (fun u => nx m gr v u && (T u || ld m gr T (s + d) u)) 32)) = (ld m gr T s v || (decide (v < m.1) && anyN (fun u => nx m gr v u && (T u || ld m gr T s u)) 32))
    rw [ih v hv, anyN_cg (q := fun u => nx m gr v u && (T u || ld m gr T s u)) (fun u hu => by rw [ih u hu])]
theorem fw_st {m : AM} {gr : Int32} {w s : Nat} (hn : m.1 ≤ 32) (h : ∀ v, v < 32 → fw m gr w (s + 1) v = fw m gr w s v) : ∀ d v, v < 32 → fw m gr w (s + d) v = fw m gr w s v := by
  intro d
  induction d with
  | zero => intro v _; rfl
  | succ d ih =>
    intro v hv
    rw [← h v hv]
    show (fw m gr w (s + d) v || anyN (fun u => fw m gr w (s + d) u && nx m gr u v) m.1) = (fw m gr w s v || anyN (fun u => fw m gr w s u && nx m gr u v) m.1)
    rw [ih v hv, anyN_cg (q := fun u => fw m gr w s u && nx m gr u v) (fun u hu => by rw [ih u (by omega)])]
/-! what is left of a row: the places of P, counted -/
def nth (P : Nat → Bool) : Nat → Nat → Nat
  | 0, _ => 0
  | N + 1, j => if P N = true ∧ cb P N = j then N else nth P N j
theorem nth_cb {P : Nat → Bool} {N p : Nat} (hp : p < N) (h : P p = true) : nth P N (cb P p) = p := by
  induction N with
  | zero => exact absurd hp (Nat.not_lt_zero _)
  | succ N ih =>
    show (if P N = true ∧ cb P N = cb P p then N else nth P N (cb P p)) = p
    by_cases q : p = N
    · subst q; rw [if_pos ⟨h, rfl⟩]
    · have h1 := cb_lt (f := P) (show p < N by omega) h
      rw [if_neg (fun z => by omega)]
      exact ih (by omega)
theorem nth_in {P : Nat → Bool} {N j : Nat} (hj : j < cb P N) : nth P N j < N ∧ P (nth P N j) = true ∧ cb P (nth P N j) = j := by
  induction N with
  | zero => exact absurd hj (Nat.not_lt_zero _)
  | succ N ih =>
    show (if P N = true ∧ cb P N = j then N else nth P N j) < N + 1 ∧ P (if P N = true ∧ cb P N = j then N else nth P N j) = true ∧ cb P (if P N = true ∧ cb P N = j then N else nth P N j) = j
    by_cases q : P N = true ∧ cb P N = j
    · rw [if_pos q]; exact ⟨by omega, q.1, q.2⟩
    · rw [if_neg q]
      have hl : j < cb P N := by
        cases hb : P N with
        | false => rw [cb_f hb] at hj; exact hj
        | true =>
          rw [cb_t hb] at hj
          have : cb P N ≠ j := fun z => q ⟨hb, z⟩
          omega
      have := ih hl
      exact ⟨by omega, this.2⟩
theorem cb_inj {P : Nat → Bool} {p q : Nat} (hp : P p = true) (hq : P q = true) (e : cb P p = cb P q) : p = q := by
  rcases Nat.lt_trichotomy p q with h | h | h
  · have := cb_lt (f := P) h hp; omega
  · exact h
  · have := cb_lt (f := P) h hq; omega
/-- a model of the places of P -/
def cmpS (P : Nat → Bool) (N r : Nat) (F : Nat → Int32) (R : Nat → Nat → Nat → Bool) : AM := (cb P N, r, fun j => if j < cb P N then F (nth P N j) else 0, fun k j i => decide (k < 4) && (decide (j < cb P N) && (decide (i < cb P N) && R k (nth P N j) (nth P N i))))
theorem cmp_am {P : Nat → Bool} {N n r : Nat} {F f g : Nat → Int32} {R : Nat → Nat → Nat → Bool} (hn : n = cb P N) (h24 : n ≤ 32) (h1 : ∀ p, p < N → P p = true → f (cb P p) = F p) (h2 : ∀ k p, k < 4 → p < N → P p = true → BS (g (k * 24 + cb P p)) (fun i => decide (i < cb P N) && R k p (nth P N i))) : am n r f g = cmpS P N r F R := by
  subst hn
  unfold am cmpS
  refine congrArg _ (congrArg _ ?_)
  refine Prod.ext ?_ ?_
  · funext j
    show (if j < cb P N then f j else 0) = (if j < cb P N then F (nth P N j) else 0)
    by_cases h : j < cb P N
    · have q := nth_in h
      rw [if_pos h, if_pos h, ← h1 _ q.1 q.2.1, q.2.2]
    · rw [if_neg h, if_neg h]
  · funext k j i
    show (decide (k < 4) && (decide (j < cb P N) && bt (g (k * 24 + j)) i)) = (decide (k < 4) && (decide (j < cb P N) && (decide (i < cb P N) && R k (nth P N j) (nth P N i))))
    by_cases hk : k < 4
    · by_cases h : j < cb P N
      · have q := nth_in h
        have e := h2 k _ hk q.1 q.2.1
        rw [q.2.2] at e
        by_cases hi : i < 32
        · rw [e i hi]
        · rw [b_big (by omega), decide_eq_false (show ¬ i < cb P N by omega), Bool.false_and]
      · rw [decide_eq_false h, Bool.false_and, Bool.false_and]
    · rw [decide_eq_false hk, Bool.false_and, Bool.false_and]
theorem cmp_wf {P : Nat → Bool} {N r : Nat} {F : Nat → Int32} {R : Nat → Nat → Nat → Bool} : WFm (cmpS P N r F R) := by
  intro k j i h
  have h2 : (decide (k < 4) && (decide (j < cb P N) && (decide (i < cb P N) && R k (nth P N j) (nth P N i)))) = true := h
  simp only [Bool.and_eq_true, decide_eq_true_eq] at h2
  exact h2.2.2.1
/-! operations on models by value -/
def nmz (n r : Nat) (F : Nat → Int32) (S : Nat → Nat → Nat → Bool) : AM := (n, r, fun w => if w < n then F w else 0, fun k w v => decide (k < 4) && (decide (w < n) && (decide (v < n) && S k w v)))
theorem nmz_wf {n r : Nat} {F : Nat → Int32} {S : Nat → Nat → Nat → Bool} : WFm (nmz n r F S) := by
  intro k w v h
  have h2 : (decide (k < 4) && (decide (w < n) && (decide (v < n) && S k w v))) = true := h
  simp only [Bool.and_eq_true, decide_eq_true_eq] at h2
  exact h2.2.2.1
theorem am_nmz {n r N R : Nat} {f g F : Nat → Int32} {S : Nat → Nat → Nat → Bool} (h24 : n ≤ 32) (hn : n = N) (hr : r = R) (h1 : ∀ w, w < n → f w = F w) (h2 : ∀ k w, k < 4 → w < n → BS (g (k * 24 + w)) (fun v => decide (v < n) && S k w v)) : am n r f g = nmz N R F S := by
  subst hn; subst hr
  unfold am nmz
  refine congrArg _ (congrArg _ ?_)
  refine Prod.ext ?_ ?_
  · funext w
    show (if w < n then f w else 0) = (if w < n then F w else 0)
    by_cases h : w < n
    · rw [if_pos h, if_pos h, h1 w h]
    · rw [if_neg h, if_neg h]
  · funext k w v
    show (decide (k < 4) && (decide (w < n) && bt (g (k * 24 + w)) v)) = (decide (k < 4) && (decide (w < n) && (decide (v < n) && S k w v)))
    by_cases hk : k < 4
    · by_cases hw : w < n
      · by_cases hv : v < 32
        · rw [h2 k w hk hw v hv]
        · rw [b_big (by omega), decide_eq_false (show ¬ v < n by omega), Bool.false_and]
      · rw [decide_eq_false hw, Bool.false_and, Bool.false_and]
    · rw [decide_eq_false hk, Bool.false_and, Bool.false_and]
theorem am_rows {n r n' r' : Nat} {f g f' g' : Nat → Int32} (e : am n r f g = am n' r' f' g') : n = n' ∧ r = r' ∧ (∀ w, w < n → f w = f' w) ∧ ∀ k w, k < 4 → w < n → g (k * 24 + w) = g' (k * 24 + w) := by
  have e1 : n = n' := congrArg (fun m : AM => m.1) e
  subst e1
  have e2 : r = r' := congrArg (fun m : AM => m.2.1) e
  refine ⟨rfl, e2, fun w hw => ?_, fun k w hk hw => ?_⟩
  · have h1 : (am n r f g).2.2.1 w = (am n r' f' g').2.2.1 w := by rw [e]
    rw [am_F hw, am_F hw] at h1; exact h1
  · apply b_ext
    intro i _
    have h1 : (am n r f g).2.2.2 k w i = (am n r' f' g').2.2.2 k w i := by rw [e]
    rw [am_S hk hw, am_S hk hw] at h1; exact h1
/-- one world more -/
def aAdd (m : AM) (x : Int32) : AM := (m.1 + 1, m.2.1, va_up m.2.2.1 m.1 x, m.2.2.2)
def RZ (n i : Nat) (g g2 : Nat → Int32) : Prop := ∀ k w, k < 4 → w < 24 → g2 (k * 24 + w) = if w = n ∧ k < i then 0 else g (k * 24 + w)
theorem RZ.nil {n : Nat} {g : Nat → Int32} : RZ n 0 g g := fun k w _ _ => by rw [if_neg (by omega)]
theorem RZ.ext {n i : Nat} {g g1 g2 : Nat → Int32} (h : RZ n i g g1) (hn : n < 24) (e : upd g1 (i * 24 + n) 0 = g2) : RZ n (i + 1) g g2 := by
  intro k w hk hw
  rw [← e]
  by_cases q : k * 24 + w = i * 24 + n
  · rw [q, pk_us, if_pos (by omega)]
  · rw [pk_un q, h k w hk hw]
    by_cases z : w = n ∧ k < i
    · rw [if_pos z, if_pos (by omega)]
    · rw [if_neg z, if_neg (by omega)]
theorem am_add {n r : Nat} {x : Int32} {f g f2 g2 : Nat → Int32} (hn : n < 24) (e : upd f n x = f2) (hz : RZ n 4 g g2) : am (n + 1) r f2 g2 = aAdd (am n r f g) x := by
  unfold am aAdd
  refine congrArg _ (congrArg _ ?_)
  refine Prod.ext ?_ ?_
  · funext w
    show (if w < n + 1 then f2 w else 0) = va_up (fun w => if w < n then f w else 0) n x w
    by_cases q : w = n
    · rw [q, vup_s, if_pos (by omega), ← e, pk_us]
    · rw [vup_n q, ← e, pk_un q]
      by_cases z : w < n
      · rw [if_pos z, if_pos (by omega)]
      · rw [if_neg z, if_neg (by omega)]
  · funext k w v
    show (decide (k < 4) && (decide (w < n + 1) && bt (g2 (k * 24 + w)) v)) = (decide (k < 4) && (decide (w < n) && bt (g (k * 24 + w)) v))
    by_cases hk : k < 4
    · by_cases hw : w < n + 1
      · rw [hz k w hk (by omega)]
        by_cases q : w = n
        · rw [if_pos ⟨q, hk⟩, b_0, decide_eq_false (show ¬ w < n by omega), Bool.and_false, Bool.false_and]
        · rw [if_neg (fun z => q z.1), decide_eq_true hw, decide_eq_true (show w < n by omega)]
      · rw [decide_eq_false hw, decide_eq_false (show ¬ w < n by omega), Bool.false_and, Bool.false_and]
    · rw [decide_eq_false hk, Bool.false_and, Bool.false_and]
theorem aAdd_wf {m : AM} {x : Int32} (h : WFm m) : WFm (aAdd m x) := fun k w v hv => Nat.lt_succ_of_lt (h k w v hv)
/-- a knower holds one possible, or not -/
def aSee (m : AM) (k u v : Nat) (b : Bool) : AM := (m.1, m.2.1, m.2.2.1, fun k' w v' => if k' = k ∧ w = u ∧ v' = v then b else m.2.2.2 k' w v')
theorem hbt_b {x is : Int32} {v i : Nat} (hv : v ≤ 30) (hi : i < 32) : bt (hbt x (nI v) is) i = if i = v then decide (is.toInt ≠ 0) else bt x i := by
  unfold hbt
  by_cases q : is.toInt ≠ 0
  · rw [if_pos q, b_or, one_b hv i hi, decide_eq_true q]
    by_cases z : i = v
    · rw [if_pos z, decide_eq_true z, Bool.or_true]
    · rw [if_neg z, decide_eq_false z, Bool.or_false]
  · rw [if_neg q, b_and, b_xor, one_b hv i hi, b_m1 i hi, decide_eq_false q]
    by_cases z : i = v
    · rw [if_pos z, decide_eq_true z]; simp
    · rw [if_neg z, decide_eq_false z]; simp
theorem am_see {n r k u v : Nat} {f g g2 : Nat → Int32} {is : Int32} (h24 : n ≤ 24) (hk : k < 4) (hu : u < n) (hv : v < n) (e : upd g (k * 24 + u) (hbt (g (k * 24 + u)) (nI v) is) = g2) : am n r f g2 = aSee (am n r f g) k u v (decide (is.toInt ≠ 0)) := by
  unfold am aSee
  refine congrArg _ (congrArg _ (congrArg _ ?_))
  funext k' w v'
  show (decide (k' < 4) && (decide (w < n) && bt (g2 (k' * 24 + w)) v')) = if k' = k ∧ w = u ∧ v' = v then decide (is.toInt ≠ 0) else (decide (k' < 4) && (decide (w < n) && bt (g (k' * 24 + w)) v'))
  by_cases hk' : k' < 4
  · by_cases hw : w < n
    · rw [decide_eq_true hk', decide_eq_true hw, Bool.true_and, Bool.true_and, Bool.true_and, Bool.true_and]
      by_cases q : k' * 24 + w = k * 24 + u
      · rw [q, ← e, pk_us]
        by_cases hi : v' < 32
        · rw [hbt_b (by omega) hi]
          by_cases z : v' = v
          · rw [if_pos z, if_pos ⟨by omega, by omega, z⟩]
          · rw [if_neg z, if_neg (fun y => z y.2.2)]
        · rw [b_big (by omega), b_big (by omega), if_neg (fun y => by omega)]
      · rw [← e, pk_un q, if_neg (fun y => by omega)]
    · rw [decide_eq_false hw, Bool.false_and, Bool.false_and, Bool.and_false, if_neg (fun y => by omega)]
  · rw [decide_eq_false hk', Bool.false_and, Bool.false_and, if_neg (fun y => by omega)]
theorem aSee_wf {m : AM} {k u v : Nat} {b : Bool} (h : WFm m) (hv : v < m.1) : WFm (aSee m k u v b) := by
  intro k' w v' q
  have q2 : (if k' = k ∧ w = u ∧ v' = v then b else m.2.2.2 k' w v') = true := q
  by_cases z : k' = k ∧ w = u ∧ v' = v
  · show v' < m.1; omega
  · rw [if_neg z] at q2; exact h k' w v' q2
/-- who differs in facts of its own alone -/
def ow (x : Int32) (k : Nat) : Int32 := x >>> (nI (4 * k) &&& 31) &&& 15
def alk (f : Nat → Int32) (o : Int32) (u : Nat) : Nat → Bool := fun v => decide ((f u ^^^ f v) &&& (o ^^^ (-1 : Int32)) = 0)
def aBlind (m : AM) (x : Int32) : AM := nmz m.1 m.2.1 m.2.2.1 (fun k u => alk m.2.2.1 (ow x k) u)
def sumN (h : Nat → Nat) : Nat → Nat
  | 0 => 0
  | i + 1 => sumN h i + h i
theorem sumN_cg {h h' : Nat → Nat} {n : Nat} (e : ∀ i, i < n → h i = h' i) : sumN h n = sumN h' n := by
  induction n with
  | zero => rfl
  | succ n ih => show sumN h n + h n = sumN h' n + h' n; rw [ih (fun i hi => e i (by omega)), e n (by omega)]
def cRow (n : Nat) (f : Nat → Int32) (o : Int32) (u : Nat) : Nat := cb (fun v => decide (v < n) && alk f o u v) 32
def cBl (n : Nat) (f : Nat → Int32) (x : Int32) : Nat := sumN (fun k => sumN (fun u => cRow n f (ow x k) u) n) 4
theorem cb_BS {x : Int32} {P : Nat → Bool} (h : BS x P) : cb (bt x) 32 = cb P 32 := cb_congr (fun i hi => h i hi)
/-- the first rows are laid: all of the knowers below k, of knower k those below u -/
def BLR (n : Nat) (f : Nat → Int32) (x : Int32) (k u : Nat) (g : Nat → Int32) : Prop := ∀ k' w, k' < 4 → w < n → (k' < k ∨ k' = k ∧ w < u) → BS (g (k' * 24 + w)) (fun v => decide (v < n) && alk f (ow x k') w v)
theorem BLR.nil {n : Nat} {f g : Nat → Int32} {x : Int32} : BLR n f x 0 0 g := fun k' w _ _ h => absurd h (by omega)
theorem BLR.up {n k i : Nat} {f g : Nat → Int32} {x : Int32} (h : BLR n f x k i g) (e : i = n) : BLR n f x (k + 1) 0 g := fun k' w a b c => h k' w a b (by omega)
theorem BLR.ext {n k i : Nat} {f g g' : Nat → Int32} {x r : Int32} (h : BLR n f x k i g) (h24 : n ≤ 24) (hi : i < n) (hr : BS r (fun v => decide (v < n) && alk f (ow x k) i v)) (e : upd g (k * 24 + i) r = g') : BLR n f x k (i + 1) g' := by
  intro k' w a b c
  rw [← e]
  by_cases q : k' * 24 + w = k * 24 + i
  · have e1 : k' = k := by omega
    have e2 : w = i := by omega
    rw [q, pk_us, e1, e2]; exact hr
  · rw [pk_un q]; exact h k' w a b (by omega)
theorem alk_am {n r : Nat} {f g : Nat → Int32} {o : Int32} {u v : Nat} (hu : u < n) (hv : v < n) : alk (am n r f g).2.2.1 o u v = alk f o u v := by
  unfold alk
  rw [am_F hu, am_F hv]
theorem am_blind {n r k : Nat} {f g g' : Nat → Int32} {x : Int32} (h24 : n ≤ 24) (h : BLR n f x k 0 g') (hk : k = 4) : am n r f g' = aBlind (am n r f g) x := by
  refine am_nmz (by omega) rfl rfl (fun w hw => (am_F hw).symm) (fun k' w hk' hw => (h k' w hk' hw (by omega)).cg (fun v _ => ?_))
  by_cases hv : v < n
  · rw [alk_am hw hv]
  · show (decide (v < n) && _) = (decide (v < n) && _)
    rw [decide_eq_false hv, Bool.false_and, Bool.false_and]
theorem cBl_cg {n : Nat} {f f' : Nat → Int32} {x : Int32} (h : ∀ w, w < n → f w = f' w) : cBl n f x = cBl n f' x := by
  unfold cBl
  refine sumN_cg (fun k _ => sumN_cg (fun u hu => ?_))
  unfold cRow
  refine cb_congr (fun v _ => ?_)
  by_cases hv : v < n
  · unfold alk; rw [h u hu, h v hv]
  · rw [decide_eq_false hv, Bool.false_and, Bool.false_and]
def aReal (m : AM) (w : Nat) : AM := (m.1, w, m.2.2)
/-- steps: what the rows of a group say together -/
theorem nx_am {n r w : Nat} {f g : Nat → Int32} {gr : Int32} {x : Int32} (hw : w < n) (h : BS x (fun v => anyN (fun k => bt gr k && bt (g (k * 24 + w)) v) 4)) : BS x (nx (am n r f g) gr w) := h.cg (fun v _ => by
  show _ = anyN (fun k => bt gr k && (am n r f g).2.2.2 k w v) 4
  exact anyN_cg (fun k hk => by rw [am_S hk hw]))
def NXr (gr : Int32) (g : Nat → Int32) (w i : Nat) (x : Int32) : Prop := BS x (fun v => anyN (fun k => bt gr k && bt (g (k * 24 + w)) v) i)
theorem NXr.nil {gr : Int32} {g : Nat → Int32} {w : Nat} : NXr gr g w 0 0 := BS.z
theorem NXr.t {gr x y z : Int32} {g : Nat → Int32} {w i : Nat} (h : NXr gr g w i x) (hb : bt gr i = true) (ey : g (i * 24 + w) = y) (e : x ||| y = z) : NXr gr g w (i + 1) z := by
  intro v hv
  show bt z v = (anyN (fun k => bt gr k && bt (g (k * 24 + w)) v) i || (bt gr i && bt (g (i * 24 + w)) v))
  rw [← e, b_or, h v hv, hb, ey, Bool.true_and]
theorem NXr.f {gr x : Int32} {g : Nat → Int32} {w i : Nat} (h : NXr gr g w i x) (hb : bt gr i = false) : NXr gr g w (i + 1) x := by
  intro v hv
  show bt x v = (anyN (fun k => bt gr k && bt (g (k * 24 + w)) v) i || (bt gr i && bt (g (i * 24 + w)) v))
  rw [h v hv, hb, Bool.false_and, Bool.or_false]
/-- what all of a group hold possible, the first i knowers -/
def SHr (n : Nat) (gr : Int32) (g : Nat → Int32) (w i : Nat) (x : Int32) : Prop := BS x (fun v => decide (v < n) && !anyN (fun k => bt gr k && !bt (g (k * 24 + w)) v) i)
theorem SHr.nil {n : Nat} {gr x : Int32} {g : Nat → Int32} {w : Nat} (h : ∀ i, i < 32 → bt x i = decide (i < n)) : SHr n gr g w 0 x := fun v hv => by
  show bt x v = (decide (v < n) && !false)
  rw [h v hv, Bool.not_false, Bool.and_true]
theorem SHr.t {n : Nat} {gr x y z : Int32} {g : Nat → Int32} {w i : Nat} (h : SHr n gr g w i x) (hb : bt gr i = true) (ey : g (i * 24 + w) = y) (e : x &&& y = z) : SHr n gr g w (i + 1) z := by
  intro v hv
  show bt z v = (decide (v < n) && !(anyN (fun k => bt gr k && !bt (g (k * 24 + w)) v) i || (bt gr i && !bt (g (i * 24 + w)) v)))
  rw [← e, b_and, h v hv, hb, ey, Bool.true_and, Bool.not_or, Bool.not_not, Bool.and_assoc]
theorem SHr.f {n : Nat} {gr x : Int32} {g : Nat → Int32} {w i : Nat} (h : SHr n gr g w i x) (hb : bt gr i = false) : SHr n gr g w (i + 1) x := by
  intro v hv
  show bt x v = (decide (v < n) && !(anyN (fun k => bt gr k && !bt (g (k * 24 + w)) v) i || (bt gr i && !bt (g (i * 24 + w)) v)))
  rw [h v hv, hb, Bool.false_and, Bool.or_false]
theorem SHr.amx {n r w : Nat} {f g : Nat → Int32} {gr x : Int32} (hw : w < n) (h : SHr n gr g w 4 x) : BS x (shr (am n r f g) gr w) := h.cg (fun v _ => by
  show _ = (decide (v < n) && !anyN (fun k => bt gr k && !(am n r f g).2.2.2 k w v) 4)
  rw [anyN_cg (q := fun k => bt gr k && !(am n r f g).2.2.2 k w v) (fun k hk => by rw [am_S hk hw])])
theorem ld_cg {m : AM} {gr : Int32} {T T' : Nat → Bool} (h : ∀ v, v < 32 → T v = T' v) : ∀ s, ld m gr T s = ld m gr T' s
  | 0 => rfl
  | s + 1 => by
    funext w
    show (ld m gr T s w || (decide (w < m.1) && anyN (fun v => nx m gr w v && (T v || ld m gr T s v)) 32)) = (ld m gr T' s w || (decide (w < m.1) && anyN (fun v => nx m gr w v && (T' v || ld m gr T' s v)) 32))
    rw [ld_cg h s, anyN_cg (q := fun v => nx m gr w v && (T' v || ld m gr T' s v)) (fun v hv => by rw [h v hv])]
theorem ld_b {m : AM} {gr wd : Int32} {P : Nat → Bool} {s : Nat} {x : Int32} (h : BS x (ld m gr (bt wd) s)) (hP : BS wd P) : BS x (ld m gr P s) := by
  rw [ld_cg (T := P) (T' := bt wd) (fun v hv => (hP v hv).symm)]; exact h
theorem vTog_b {m : AM} {gr wd : Int32} {P : Nat → Bool} {x : Int32} (h : BS x (vTog m gr (bt wd))) (hP : BS wd P) : BS x (vTog m gr P) := h.cg (fun w _ => by
  show (decide (w < m.1) && !anyN (fun v => shr m gr w v && !bt wd v) 32) = (decide (w < m.1) && !anyN (fun v => shr m gr w v && !P v) 32)
  rw [anyN_cg (q := fun v => shr m gr w v && !P v) (fun v hv => by rw [hP v hv])])
/-- a round comes to rest -/
theorem ld_end {m : AM} {gr x : Int32} {T : Nat → Bool} {s st : Nat} (h : BS x (ld m gr T s)) (h1 : BS x (ld m gr T (s + 1))) (hs : s ≤ st) : BS x (ld m gr T st) := by
  obtain ⟨d, rfl⟩ : ∃ d, st = s + d := ⟨st - s, by omega⟩
  exact h.cg (fun v hv => (ld_st (fun v hv => (h1 v hv).symm.trans (h v hv)) d v hv).symm)
theorem fw_end {m : AM} {gr x : Int32} {w s st : Nat} (hn : m.1 ≤ 32) (h : BS x (fw m gr w s)) (h1 : BS x (fw m gr w (s + 1))) (hs : s ≤ st) : BS x (fw m gr w st) := by
  obtain ⟨d, rfl⟩ : ∃ d, st = s + d := ⟨st - s, by omega⟩
  exact h.cg (fun v hv => (fw_st hn (fun v hv => (h1 v hv).symm.trans (h v hv)) d v hv).symm)
/-- the worlds of a set, and where they lead: the first i are taken -/
def FWr (m : AM) (gr : Int32) (A : Nat → Bool) (i : Nat) (x : Int32) : Prop := BS x (fun v => A v || anyN (fun u => A u && nx m gr u v) i)
theorem FWr.nil {m : AM} {gr x : Int32} {A : Nat → Bool} (h : BS x A) : FWr m gr A 0 x := h.cg (fun v _ => (Bool.or_false _).symm)
theorem FWr.t {m : AM} {gr x y z : Int32} {A : Nat → Bool} {i : Nat} (h : FWr m gr A i x) (ha : A i = true) (hy : BS y (nx m gr i)) (e : x ||| y = z) : FWr m gr A (i + 1) z := by
  intro v hv
  show bt z v = (A v || (anyN (fun u => A u && nx m gr u v) i || (A i && nx m gr i v)))
  rw [← e, b_or, h v hv, hy v hv, ha, Bool.true_and, Bool.or_assoc]
theorem FWr.f {m : AM} {gr x : Int32} {A : Nat → Bool} {i : Nat} (h : FWr m gr A i x) (ha : A i = false) : FWr m gr A (i + 1) x := by
  intro v hv
  show bt x v = (A v || (anyN (fun u => A u && nx m gr u v) i || (A i && nx m gr i v)))
  rw [h v hv, ha, Bool.false_and, Bool.or_false]
/-- a row squeezed to the places of a set -/
def SQr (bi sy : Int32) (i : Nat) (x : Int32) : Prop := BS x (fun j => decide (j < cb (bt sy) i) && bt bi (nth (bt sy) 24 j))
theorem SQr.nil {bi sy : Int32} : SQr bi sy 0 0 := fun v hv => by
  show bt 0 v = (decide (v < 0) && _)
  rw [b_0, decide_eq_false (Nat.not_lt_zero v), Bool.false_and]
theorem SQr.f {bi sy x : Int32} {i : Nat} (h : SQr bi sy i x) (hb : bt sy i = false) : SQr bi sy (i + 1) x := by
  unfold SQr; rw [cb_f hb]; exact h
theorem SQr.t {bi sy x y z s : Int32} {i j pl : Nat} (h : SQr bi sy i x) (hi : i < 24) (hb : bt sy i = true) (hp : pl = cb (bt sy) i) (e1 : bi >>> (nI i &&& 31) = s) (e2 : s &&& 1 = nI j) (hj : j < 2) (e3 : nI j <<< (nI pl &&& 31) = y) (e : x ||| y = z) : SQr bi sy (i + 1) z := by
  have hpl : pl < 24 := by have := cb_le (bt sy) i; omega
  have hjb : decide (j = 1) = bt bi i := by
    rcases (show j = 0 ∨ j = 1 by omega) with rfl | rfl
    · rw [hasb_0 (by omega) e1 e2 rfl]; rfl
    · rw [hasb_1 (by omega) e1 e2 rfl]; rfl
  intro v hv
  have h0 : bt x v = (decide (v < cb (bt sy) i) && bt bi (nth (bt sy) 24 v)) := h v hv
  show bt z v = (decide (v < cb (bt sy) (i + 1)) && bt bi (nth (bt sy) 24 v))
  rw [cb_t hb, ← e, b_or, h0, ← e3, b_shl pl (by omega) _ hv, bt_nI (by omega), ← hp]
  rcases Nat.lt_trichotomy v pl with q | q | q
  · rw [decide_eq_true q, decide_eq_true (show v < pl + 1 by omega), decide_eq_false (show ¬ pl ≤ v by omega), Bool.false_and, Bool.or_false]
  · subst q
    rw [decide_eq_false (Nat.lt_irrefl v), decide_eq_true (show v < v + 1 by omega), decide_eq_true (Nat.le_refl v), Bool.false_and, Bool.false_or, Bool.true_and, Bool.true_and, Nat.sub_self, hp, nth_cb hi hb, ← hjb]
    rcases (show j = 0 ∨ j = 1 by omega) with rfl | rfl <;> rfl
  · rw [decide_eq_false (show ¬ v < pl by omega), decide_eq_false (show ¬ v < pl + 1 by omega), decide_eq_true (show pl ≤ v by omega), Bool.false_and, Bool.false_or, Bool.true_and]
    obtain ⟨d, hd⟩ : ∃ d, v - pl = d + 1 := ⟨v - pl - 1, by omega⟩
    rw [hd]
    rcases (show j = 0 ∨ j = 1 by omega) with rfl | rfl
    · exact Nat.zero_testBit _
    · exact Nat.testBit_lt_two_pow (show 1 < 2 ^ (d + 1) from Nat.lt_of_lt_of_le (by decide : 1 < 2 ^ 1) (Nat.pow_le_pow_right (by decide) (by omega)))
theorem nth_up {P : Nat → Bool} {n N j : Nat} (hn : n ≤ N) (hj : j < cb P n) : nth P N j = nth P n j := by
  have h := nth_in hj
  have h1 := nth_cb (N := N) (show nth P n j < N by omega) h.2.1
  rw [h.2.2] at h1
  exact h1
theorem nth_ge {P : Nat → Bool} {n N j : Nat} (h1 : cb P n ≤ j) (h2 : j < cb P N) : n ≤ nth P N j := by
  have h := nth_in h2
  rcases Nat.lt_or_ge (nth P N j) n with q | q
  · have h3 := cb_lt (f := P) q h.2.1
    omega
  · exact q
/-- some worlds stay -/
def aCut (m : AM) (P : Nat → Bool) : AM := cmpS P m.1 (cb P m.2.1) m.2.2.1 m.2.2.2
/-- the first i worlds are cut -/
def CUf (n i : Nat) (P : Nat → Bool) (f f1 : Nat → Int32) : Prop := (∀ p, p < i → P p = true → f1 (cb P p) = f p) ∧ ∀ p, i ≤ p → f1 p = f p
theorem CUf.nil {n : Nat} {P : Nat → Bool} {f : Nat → Int32} : CUf n 0 P f f := ⟨fun p h => absurd h (Nat.not_lt_zero _), fun _ _ => rfl⟩
theorem CUf.f {n i : Nat} {P : Nat → Bool} {f f1 : Nat → Int32} (h : CUf n i P f f1) (hb : P i = false) : CUf n (i + 1) P f f1 :=
  ⟨fun p hp hP => h.1 p (Nat.lt_of_le_of_ne (by omega) (fun q => by rw [q, hb] at hP; cases hP)) hP, fun p hp => h.2 p (by omega)⟩
theorem CUf.t {n i le : Nat} {P : Nat → Bool} {f f1 f2 : Nat → Int32} {x : Int32} (h : CUf n i P f f1) (hb : P i = true) (hl : le = cb P i) (ex : f1 i = x) (e : upd f1 le x = f2) : CUf n (i + 1) P f f2 := by
  have h0 := cb_le P i
  refine ⟨fun p hp hP => ?_, fun p hp => ?_⟩
  · rw [← e]
    by_cases q : p = i
    · rw [q, hl, pk_us, ← ex, h.2 i (Nat.le_refl _)]
    · have h1 := cb_lt (f := P) (show p < i by omega) hP
      rw [pk_un (by omega)]; exact h.1 p (by omega) hP
  · rw [← e, pk_un (by omega)]; exact h.2 p (by omega)
/-- the first i worlds' rows are laid at their new places, of world i those of the first k knowers -/
def CUG (n i k : Nat) (P : Nat → Bool) (Rw : Nat → Nat → Nat → Bool) (g g1 : Nat → Int32) : Prop := (∀ k' p, k' < 4 → p < n → (p < i ∨ p = i ∧ k' < k) → P p = true → BS (g1 (k' * 24 + cb P p)) (Rw k' p)) ∧ ∀ k' p, k' < 4 → p < n → (i < p ∨ p = i ∧ k ≤ k') → g1 (k' * 24 + p) = g (k' * 24 + p)
section CUGS
variable {n i k : Nat} {P : Nat → Bool} {Rw : Nat → Nat → Nat → Bool} {g g1 g2 : Nat → Int32}
theorem CUG.nil : CUG n 0 0 P Rw g g := ⟨fun k p _ _ h => absurd h (by omega), fun _ _ _ _ _ => rfl⟩
theorem CUG.f (h : CUG n i 0 P Rw g g1) (hb : P i = false) : CUG n (i + 1) 0 P Rw g g1 :=
  ⟨fun k p hk hp hq hP => h.1 k p hk hp (Or.inl (hq.elim (fun q => Nat.lt_of_le_of_ne (by omega) (fun z => by rw [z, hb] at hP; cases hP)) (fun q => by omega))) hP, fun k p hk hp hq => h.2 k p hk hp (by omega)⟩
theorem CUG.up (h : CUG n i k P Rw g g1) (hk : k = 4) : CUG n (i + 1) 0 P Rw g g1 :=
  ⟨fun k' p a b c d => h.1 k' p a b (by omega) d, fun k' p a b c => h.2 k' p a b (by omega)⟩
theorem CUG.at (h : CUG n i k P Rw g g1) (hi : i < n) (hk : k < 4) : g1 (k * 24 + i) = g (k * 24 + i) := h.2 k i hk hi (by omega)
theorem CUG.t {le : Nat} {r : Int32} (h : CUG n i k P Rw g g1) (h24 : n ≤ 24) (hi : i < n) (hk : k < 4) (hb : P i = true) (hl : le = cb P i) (hr : BS r (Rw k i)) (e : upd g1 (k * 24 + le) r = g2) : CUG n i (k + 1) P Rw g g2 := by
  have h0 := cb_le P i
  refine ⟨fun k' p a b c d => ?_, fun k' p a b c => ?_⟩
  · have h1 := cb_le P p
    rw [← e]
    by_cases q : k' * 24 + cb P p = k * 24 + le
    · have e1 : k' = k := by omega
      have e2 : cb P p = cb P i := by omega
      have e3 : p = i := cb_inj d hb e2
      rw [q, pk_us, e1, e3]; exact hr
    · rw [pk_un q]
      refine h.1 k' p a b ?_ d
      rcases c with c | c
      · exact Or.inl c
      · refine Or.inr ⟨c.1, ?_⟩
        apply Classical.byContradiction
        intro z
        apply q
        rw [show k' = k by omega, c.1, hl]
  · rw [← e, pk_un (by omega)]; exact h.2 k' p a b (by omega)
end CUGS
abbrev SQw (sy : Int32) (g : Nat → Int32) : Nat → Nat → Nat → Bool := fun k p j => decide (j < cb (bt sy) 24) && bt (g (k * 24 + p)) (nth (bt sy) 24 j)
abbrev CUg (n i k : Nat) (sy : Int32) (g g1 : Nat → Int32) : Prop := CUG n i k (bt sy) (SQw sy g) g g1
theorem CUg.t {n i k le : Nat} {sy : Int32} {g g1 g2 : Nat → Int32} {x r : Int32} (h : CUg n i k sy g g1) (h24 : n ≤ 24) (hi : i < n) (hk : k < 4) (hb : bt sy i = true) (hl : le = cb (bt sy) i) (ex : g1 (k * 24 + i) = x) (hr : SQr x sy 24 r) (e : upd g1 (k * 24 + le) r = g2) : CUg n i (k + 1) sy g g2 :=
  CUG.t h h24 hi hk hb hl (by
    have h2 := CUG.at h hi hk
    show BS r (fun j => decide (j < cb (bt sy) 24) && bt (g (k * 24 + i)) (nth (bt sy) 24 j))
    rw [← h2, ex]; exact hr) e
theorem am_cut {n r n2 r2 i : Nat} {f g f2 g2 : Nat → Int32} {sy : Int32} (h24 : n ≤ 24) (hw : WFm (am n r f g)) (h1 : CUf n i (bt sy) f f2) (h2 : CUg n i 0 sy g g2) (hi : i = n) (hn : n2 = cb (bt sy) n) (hr : r2 = cb (bt sy) r) : am n2 r2 f2 g2 = aCut (am n r f g) (bt sy) := by
  subst hi
  have hc := cb_le (bt sy) i
  unfold aCut
  rw [hr]
  refine cmp_am hn (by omega) (fun p hp hP => ?_) (fun k p hk hp hP => (h2.1 k p hk hp (Or.inl hp) hP).cg (fun j _ => ?_))
  · rw [am_F (show p < i from hp)]; exact h1.1 p hp hP
  · have hp2 : p < i := hp
    show (decide (j < cb (bt sy) 24) && bt (g (k * 24 + p)) (nth (bt sy) 24 j)) = (decide (j < cb (bt sy) i) && (am i r f g).2.2.2 k p (nth (bt sy) i j))
    rw [am_S hk hp2]
    by_cases q : j < cb (bt sy) i
    · rw [decide_eq_true q, nth_up h24 q, decide_eq_true (Nat.lt_of_lt_of_le q (cb_mono (bt sy) h24))]
    · rw [decide_eq_false q, Bool.false_and]
      by_cases z : j < cb (bt sy) 24
      · rw [decide_eq_true z, Bool.true_and]
        have h3 := nth_ge (N := 24) (show cb (bt sy) i ≤ j by omega) z
        cases hb : bt (g (k * 24 + p)) (nth (bt sy) 24 j) with
        | false => rfl
        | true =>
          have h4 := hw k p (nth (bt sy) 24 j) (by rw [am_S hk hp2]; exact hb)
          have h5 : nth (bt sy) 24 j < i := h4
          omega
      · rw [decide_eq_false z, Bool.false_and]
end
section
theorem dX4_contains_0 : decode cX4_contains 0 = .ok (.iload_n 1, 1) := dl_27 (by decide +kernel)
theorem dX4_contains_1 : decode cX4_contains 1 = .ok (.ifCond .lt 15, 3) := dl_155 (by decide +kernel)
theorem dX4_contains_16 : decode cX4_contains 16 = .ok (.iconst 0, 1) := dl_3 (by decide +kernel)
theorem dX4_contains_17 : decode cX4_contains 17 = .ok (.ireturn, 1) := dl_172 (by decide +kernel)
theorem dX4_contains_4 : decode cX4_contains 4 = .ok (.iload_n 1, 1) := dl_27 (by decide +kernel)
theorem dX4_contains_5 : decode cX4_contains 5 = .ok (.aload_n 0, 1) := dl_42 (by decide +kernel)
theorem dX4_contains_6 : decode cX4_contains 6 = .ok (.getfield 18, 3) := dl_180 (by decide +kernel)
theorem uw_X4 : ∀ w ∈ u_ws RX4 TX4 4, w ∈ TB := uw_of [52, 54, 56, 58] (by decide +kernel) (by decide +kernel)
theorem wf_X4_18 : Cond.fieldLink RX4 18 RX4 "size" "I" ∈ TB := tbm (tq1 (List.mem_of_getElem? (i := 36) (by decide +kernel))) (by decide +kernel)
theorem fg_X4_18 : FG RX4 18 4 0 := ⟨RX4, TX4, 4, uw_X4, wf_X4_18, rfl, by decide, rfl⟩
theorem dX4_contains_9 : decode cX4_contains 9 = .ok (.if_icmp .ge 7, 3) := dl_162 (by decide +kernel)
theorem dX4_contains_12 : decode cX4_contains 12 = .ok (.iconst 1, 1) := dl_4 (by decide +kernel)
theorem dX4_contains_13 : decode cX4_contains 13 = .ok (.goto 4, 3) := dl_167 (by decide +kernel)
set_option maxRecDepth 100000 in
set_option maxHeartbeats 4000000 in
theorem m_contains (l : Launch) (E : EV) (ro : va_W) (h : Nat) (w : Int32) (n : Nat) (r : Nat) (a : Nat) (b : Nat) (hn : n ≤ 24) : CT l yX4_contains (Cond.code yX4_contains cX4_contains 2 (some .boolean) :: TB) ({ frames := 0, cells := 0, slots := 0, locals := 0 }) E ro [.ref h, .int w] [(h, .inr (4, [.int (nI n), .int (nI r), .ref a, .ref b]))] (Qi E (fun (rz : Int32) uz => (rz = 1 ∧ uz = [(h, .inr (4, [.int (nI n), .int (nI r), .ref a, .ref b]))] ∧ (0 ≤ w.toInt) ∧ (w.toInt < n)) ∨ (rz = 0 ∧ uz = [(h, .inr (4, [.int (nI n), .int (nI r), .ref a, .ref b]))] ∧ (w.toInt < 0 ∨ (n : Int) ≤ w.toInt)))) 0 0 := by
  refine ct_of rfl rfl ?_
  intro X C hT hin hro
  show WW X 2 E 0 [(0, .ref h), (1, .int w)] [] [(h, .inr (4, [.int (nI n), .int (nI r), .ref a, .ref b]))] 0 0
  refine ww_iload_n C dX4_contains_0 1 rfl rfl ?_
  refine ww_if_lt (tgt := 16) C dX4_contains_1 (by decide) (fun c_1 => ?_) (fun c_1 => ?_)
  · have zc_1 : w.toInt < 0 := i_lt rfl rfl c_1
    refine ww_iconst (v := 0) C dX4_contains_16 rfl ?_
    exact ww_zret (u := [(h, .inr (4, [.int (nI n), .int (nI r), .ref a, .ref b]))]) C hT [0] rfl rfl rfl rfl rfl dX4_contains_17 (Or.inr ⟨rfl, rfl, (by first | assumption | omega | decide)⟩)
  · have zc_1 : w.toInt ≥ 0 := i_nlt rfl rfl c_1
    refine ww_iload_n C dX4_contains_4 1 rfl rfl ?_
    refine ww_aload_n C dX4_contains_5 0 rfl rfl ?_
    refine ww_get C fg_X4_18 0 rfl rfl dX4_contains_6 ?_
    refine ww_icmp_ge (tgt := 16) C dX4_contains_9 (by decide) (fun c_2 => ?_) (fun c_2 => ?_)
    · have zc_2 : w.toInt ≥ ((n : Nat) : Int) := i_le (nI_toInt (n := n) (by omega)) rfl c_2
      refine ww_iconst (v := 0) C dX4_contains_16 rfl ?_
      exact ww_zret (u := [(h, .inr (4, [.int (nI n), .int (nI r), .ref a, .ref b]))]) C hT [0] rfl rfl rfl rfl rfl dX4_contains_17 (Or.inr ⟨rfl, rfl, (by first | assumption | omega | decide)⟩)
    · have zc_2 : w.toInt < ((n : Nat) : Int) := i_nle (nI_toInt (n := n) (by omega)) rfl c_2
      refine ww_iconst (v := 1) C dX4_contains_12 rfl ?_
      refine ww_goto (tgt := 17) C dX4_contains_13 (by decide) ?_
      exact ww_zret (u := [(h, .inr (4, [.int (nI n), .int (nI r), .ref a, .ref b]))]) C hT [0] rfl rfl rfl rfl rfl dX4_contains_17 (Or.inl ⟨rfl, rfl, (by first | assumption | omega | decide), (by first | assumption | omega | decide)⟩)
theorem dX4_all_0 : decode cX4_all 0 = .ok (.iconst 1, 1) := dl_4 (by decide +kernel)
theorem dX4_all_1 : decode cX4_all 1 = .ok (.aload_n 0, 1) := dl_42 (by decide +kernel)
theorem dX4_all_2 : decode cX4_all 2 = .ok (.getfield 18, 3) := dl_180 (by decide +kernel)
theorem dX4_all_5 : decode cX4_all 5 = .ok (.ishl, 1) := dl_120 (by decide +kernel)
theorem dX4_all_6 : decode cX4_all 6 = .ok (.iconst 1, 1) := dl_4 (by decide +kernel)
theorem dX4_all_7 : decode cX4_all 7 = .ok (.isub, 1) := dl_100 (by decide +kernel)
theorem dX4_all_8 : decode cX4_all 8 = .ok (.ireturn, 1) := dl_172 (by decide +kernel)
set_option maxRecDepth 100000 in
set_option maxHeartbeats 4000000 in
theorem m_all (l : Launch) (E : EV) (ro : va_W) (h : Nat) (n : Nat) (r : Nat) (a : Nat) (b : Nat) (hn : n ≤ 24) : CT l yX4_all (Cond.code yX4_all cX4_all 1 (some .int) :: TB) ({ frames := 0, cells := 0, slots := 0, locals := 0 }) E ro [.ref h] [(h, .inr (4, [.int (nI n), .int (nI r), .ref a, .ref b]))] (Qi E (fun (rz : Int32) uz => (uz = [(h, .inr (4, [.int (nI n), .int (nI r), .ref a, .ref b]))] ∧ (∀ i, i < 32 → bt rz i = decide (i < n))))) 0 0 := by
  refine ct_of rfl rfl ?_
  intro X C hT hin hro
  show WW X 1 E 0 [(0, .ref h)] [] [(h, .inr (4, [.int (nI n), .int (nI r), .ref a, .ref b]))] 0 0
  refine ww_iconst (v := 1) C dX4_all_0 rfl ?_
  refine ww_aload_n C dX4_all_1 0 rfl rfl ?_
  refine ww_get C fg_X4_18 0 rfl rfl dX4_all_2 ?_
  obtain ⟨x_1, ex_1⟩ : ∃ z : Int32, (1 : Int32) <<< ((nI n) &&& 31) = z := ⟨_, rfl⟩
  refine ww_ishl (v := x_1) C dX4_all_5 ex_1 ?_
  refine ww_iconst (v := 1) C dX4_all_6 rfl ?_
  obtain ⟨x_2, ex_2⟩ : ∃ z : Int32, x_1 - (1 : Int32) = z := ⟨_, rfl⟩
  refine ww_isub (v := x_2) C dX4_all_7 ex_2 ?_
  exact ww_iret (u := [(h, .inr (4, [.int (nI n), .int (nI r), .ref a, .ref b]))]) C hT [0] rfl rfl rfl rfl dX4_all_8 (⟨rfl, (all_b hn (by assumption) (by assumption))⟩)
theorem dX4_held_0 : decode cX4_held 0 = .ok (.aload_n 0, 1) := dl_42 (by decide +kernel)
theorem dX4_held_1 : decode cX4_held 1 = .ok (.getfield 15, 3) := dl_180 (by decide +kernel)
theorem wf_X4_15 : Cond.fieldLink RX4 15 RX4 "possible" "[I" ∈ TB := tbm (tq1 (List.mem_of_getElem? (i := 49) (by decide +kernel))) (by decide +kernel)
theorem fg_X4_15 : FG RX4 15 4 3 := ⟨RX4, TX4, 4, uw_X4, wf_X4_15, rfl, by decide, rfl⟩
theorem dX4_held_4 : decode cX4_held 4 = .ok (.iload_n 1, 1) := dl_27 (by decide +kernel)
theorem dX4_held_5 : decode cX4_held 5 = .ok (.bipush 24, 2) := dl_16 (by decide +kernel)
theorem dX4_held_7 : decode cX4_held 7 = .ok (.imul, 1) := dl_104 (by decide +kernel)
theorem dX4_held_8 : decode cX4_held 8 = .ok (.iload_n 2, 1) := dl_28 (by decide +kernel)
theorem dX4_held_9 : decode cX4_held 9 = .ok (.iadd, 1) := dl_96 (by decide +kernel)
theorem dX4_held_10 : decode cX4_held 10 = .ok (.iaload, 1) := dl_46 (by decide +kernel)
theorem dX4_held_11 : decode cX4_held 11 = .ok (.ireturn, 1) := dl_172 (by decide +kernel)
set_option maxRecDepth 100000 in
set_option maxHeartbeats 4000000 in
theorem m_held (l : Launch) (E : EV) (ro : va_W) (h : Nat) (k : Nat) (w : Nat) (n : Nat) (r : Nat) (a : Nat) (b : Nat) (f : Nat → Int32) (gg : Nat → Int32) (hk : k < 4) (hw : w < 24) : CT l yX4_held (Cond.code yX4_held cX4_held 3 (some .int) :: TB) ({ frames := 0, cells := 0, slots := 0, locals := 0 }) E ro [.ref h, .int (nI k), .int (nI w)] [(h, .inr (4, [.int (nI n), .int (nI r), .ref a, .ref b])), (a, .inl (E.2.1 1, 24, .inl f)), (b, .inl (E.2.1 1, 96, .inl gg))] (Qi E (fun (rz : Int32) uz => (rz = (gg (k * 24 + w)) ∧ uz = [(h, .inr (4, [.int (nI n), .int (nI r), .ref a, .ref b])), (a, .inl (E.2.1 1, 24, .inl f)), (b, .inl (E.2.1 1, 96, .inl gg))]))) 0 0 := by
  refine ct_of rfl rfl ?_
  intro X C hT hin hro
  show WW X 3 E 0 [(0, .ref h), (1, .int (nI k)), (2, .int (nI w))] [] [(h, .inr (4, [.int (nI n), .int (nI r), .ref a, .ref b])), (a, .inl (E.2.1 1, 24, .inl f)), (b, .inl (E.2.1 1, 96, .inl gg))] 0 0
  refine ww_aload_n C dX4_held_0 0 rfl rfl ?_
  refine ww_get C fg_X4_15 0 rfl rfl dX4_held_1 ?_
  refine ww_iload_n C dX4_held_4 1 rfl rfl ?_
  refine ww_bipush (v := 24) C dX4_held_5 rfl ?_
  refine ww_imul (v := (nI (k * 24))) C dX4_held_7 (pk_mul k 24) ?_
  refine ww_iload_n C dX4_held_8 2 rfl rfl ?_
  refine ww_iadd (v := (nI ((k * 24) + w))) C dX4_held_9 (nI_add (k * 24) w) ?_
  obtain ⟨x_1, ex_1⟩ : ∃ z : Int32, gg ((k * 24) + w) = z := ⟨_, rfl⟩
  refine ww_iald (v := x_1) C 2 rfl (vp_in_nI (by omega) (by omega)) (ldn (by omega) ex_1) dX4_held_10 ?_
  exact ww_iret (u := [(h, .inr (4, [.int (nI n), .int (nI r), .ref a, .ref b])), (a, .inl (E.2.1 1, 24, .inl f)), (b, .inl (E.2.1 1, 96, .inl gg))]) C hT [0, 1, 2] rfl rfl rfl rfl dX4_held_11 (⟨(by subst_vars; rfl), rfl⟩)
theorem dX4_clear_0 : decode cX4_clear 0 = .ok (.aload_n 0, 1) := dl_42 (by decide +kernel)
theorem dX4_clear_1 : decode cX4_clear 1 = .ok (.iconst 0, 1) := dl_3 (by decide +kernel)
theorem dX4_clear_2 : decode cX4_clear 2 = .ok (.putfield 18, 3) := dl_181 (by decide +kernel)
theorem fp_X4_18 : FP RX4 18 4 0 .int false := ⟨RX4, TX4, 4, tyX4, uw_X4, wf_X4_18, rfl, by decide, rfl, tyX4_ok, nmX4, rfl, by decide +kernel⟩
theorem dX4_clear_5 : decode cX4_clear 5 = .ok (.aload_n 0, 1) := dl_42 (by decide +kernel)
theorem dX4_clear_6 : decode cX4_clear 6 = .ok (.iconst 0, 1) := dl_3 (by decide +kernel)
theorem dX4_clear_7 : decode cX4_clear 7 = .ok (.putfield 22, 3) := dl_181 (by decide +kernel)
theorem wf_X4_22 : Cond.fieldLink RX4 22 RX4 "realOne" "I" ∈ TB := tbm (tq1 (List.mem_of_getElem? (i := 41) (by decide +kernel))) (by decide +kernel)
theorem fp_X4_22 : FP RX4 22 4 1 .int false := ⟨RX4, TX4, 4, tyX4, uw_X4, wf_X4_22, rfl, by decide, rfl, tyX4_ok, nmX4, rfl, by decide +kernel⟩
theorem dX4_clear_10 : decode cX4_clear 10 = .ok (.return_, 1) := dl_177 (by decide +kernel)
set_option maxRecDepth 100000 in
set_option maxHeartbeats 4000000 in
theorem m_clear (l : Launch) (E : EV) (ro : va_W) (h : Nat) (n : Nat) (r : Nat) (a : Nat) (b : Nat) (f : Nat → Int32) (gg : Nat → Int32)  : CT l yX4_clear (Cond.code yX4_clear cX4_clear 1 none :: TB) ({ frames := 0, cells := 0, slots := 0, locals := 0 }) E ro [.ref h] [(h, .inr (4, [.int (nI n), .int (nI r), .ref a, .ref b])), (a, .inl (E.2.1 1, 24, .inl f)), (b, .inl (E.2.1 1, 96, .inl gg))] (Qv E (fun uz => (uz = [(h, .inr (4, [.int 0, .int 0, .ref a, .ref b])), (a, .inl (E.2.1 1, 24, .inl f)), (b, .inl (E.2.1 1, 96, .inl gg))]))) 0 0 := by
  refine ct_of rfl rfl ?_
  intro X C hT hin hro
  show WW X 1 E 0 [(0, .ref h)] [] [(h, .inr (4, [.int (nI n), .int (nI r), .ref a, .ref b])), (a, .inl (E.2.1 1, 24, .inl f)), (b, .inl (E.2.1 1, 96, .inl gg))] 0 0
  refine ww_aload_n C dX4_clear_0 0 rfl rfl ?_
  refine ww_iconst (v := 0) C dX4_clear_1 rfl ?_
  refine ww_put (ws' := [(h, .inr (4, [.int 0, .int (nI r), .ref a, .ref b])), (a, .inl (E.2.1 1, 24, .inl f)), (b, .inl (E.2.1 1, 96, .inl gg))]) C fp_X4_18 0 rfl rfl rfl rfl rfl dX4_clear_2 ?_
  refine ww_aload_n C dX4_clear_5 0 rfl rfl ?_
  refine ww_iconst (v := 0) C dX4_clear_6 rfl ?_
  refine ww_put (ws' := [(h, .inr (4, [.int 0, .int 0, .ref a, .ref b])), (a, .inl (E.2.1 1, 24, .inl f)), (b, .inl (E.2.1 1, 96, .inl gg))]) C fp_X4_22 0 rfl rfl rfl rfl rfl dX4_clear_7 ?_
  exact ww_vret (u := [(h, .inr (4, [.int 0, .int 0, .ref a, .ref b])), (a, .inl (E.2.1 1, 24, .inl f)), (b, .inl (E.2.1 1, 96, .inl gg))]) C hT [0, 1, 2] rfl rfl rfl rfl dX4_clear_10 (rfl)
theorem dX4_add_0 : decode cX4_add 0 = .ok (.aload_n 0, 1) := dl_42 (by decide +kernel)
theorem dX4_add_1 : decode cX4_add 1 = .ok (.getfield 9, 3) := dl_180 (by decide +kernel)
theorem wf_X4_9 : Cond.fieldLink RX4 9 RX4 "facts" "[I" ∈ TB := tbm (tq1 (List.mem_of_getElem? (i := 45) (by decide +kernel))) (by decide +kernel)
theorem fg_X4_9 : FG RX4 9 4 2 := ⟨RX4, TX4, 4, uw_X4, wf_X4_9, rfl, by decide, rfl⟩
theorem dX4_add_4 : decode cX4_add 4 = .ok (.aload_n 0, 1) := dl_42 (by decide +kernel)
theorem dX4_add_5 : decode cX4_add 5 = .ok (.getfield 18, 3) := dl_180 (by decide +kernel)
theorem dX4_add_8 : decode cX4_add 8 = .ok (.iload_n 1, 1) := dl_27 (by decide +kernel)
theorem dX4_add_9 : decode cX4_add 9 = .ok (.iastore, 1) := dl_79 (by decide +kernel)
theorem dX4_add_10 : decode cX4_add 10 = .ok (.iconst 0, 1) := dl_3 (by decide +kernel)
theorem dX4_add_11 : decode cX4_add 11 = .ok (.istore_n 2, 1) := dl_61 (by decide +kernel)
theorem dX4_add_12 : decode cX4_add 12 = .ok (.iload_n 2, 1) := dl_28 (by decide +kernel)
theorem dX4_add_13 : decode cX4_add 13 = .ok (.iconst 4, 1) := dl_7 (by decide +kernel)
theorem dX4_add_14 : decode cX4_add 14 = .ok (.if_icmp .ge 24, 3) := dl_162 (by decide +kernel)
theorem dX4_add_38 : decode cX4_add 38 = .ok (.aload_n 0, 1) := dl_42 (by decide +kernel)
theorem dX4_add_39 : decode cX4_add 39 = .ok (.dup, 1) := dl_89 (by decide +kernel)
theorem dX4_add_40 : decode cX4_add 40 = .ok (.getfield 18, 3) := dl_180 (by decide +kernel)
theorem dX4_add_43 : decode cX4_add 43 = .ok (.iconst 1, 1) := dl_4 (by decide +kernel)
theorem dX4_add_44 : decode cX4_add 44 = .ok (.iadd, 1) := dl_96 (by decide +kernel)
theorem dX4_add_45 : decode cX4_add 45 = .ok (.putfield 18, 3) := dl_181 (by decide +kernel)
theorem dX4_add_48 : decode cX4_add 48 = .ok (.aload_n 0, 1) := dl_42 (by decide +kernel)
theorem dX4_add_49 : decode cX4_add 49 = .ok (.getfield 18, 3) := dl_180 (by decide +kernel)
theorem dX4_add_52 : decode cX4_add 52 = .ok (.iconst 1, 1) := dl_4 (by decide +kernel)
theorem dX4_add_53 : decode cX4_add 53 = .ok (.isub, 1) := dl_100 (by decide +kernel)
theorem dX4_add_54 : decode cX4_add 54 = .ok (.ireturn, 1) := dl_172 (by decide +kernel)
theorem dX4_add_17 : decode cX4_add 17 = .ok (.aload_n 0, 1) := dl_42 (by decide +kernel)
theorem dX4_add_18 : decode cX4_add 18 = .ok (.getfield 15, 3) := dl_180 (by decide +kernel)
theorem dX4_add_21 : decode cX4_add 21 = .ok (.iload_n 2, 1) := dl_28 (by decide +kernel)
theorem dX4_add_22 : decode cX4_add 22 = .ok (.bipush 24, 2) := dl_16 (by decide +kernel)
theorem dX4_add_24 : decode cX4_add 24 = .ok (.imul, 1) := dl_104 (by decide +kernel)
theorem dX4_add_25 : decode cX4_add 25 = .ok (.aload_n 0, 1) := dl_42 (by decide +kernel)
theorem dX4_add_26 : decode cX4_add 26 = .ok (.getfield 18, 3) := dl_180 (by decide +kernel)
theorem dX4_add_29 : decode cX4_add 29 = .ok (.iadd, 1) := dl_96 (by decide +kernel)
theorem dX4_add_30 : decode cX4_add 30 = .ok (.iconst 0, 1) := dl_3 (by decide +kernel)
theorem dX4_add_31 : decode cX4_add 31 = .ok (.iastore, 1) := dl_79 (by decide +kernel)
theorem dX4_add_32 : decode cX4_add 32 = .ok (.iinc 2 1, 3) := dl_132 (by decide +kernel)
theorem dX4_add_35 : decode cX4_add 35 = .ok (.goto (-23), 3) := dl_167 (by decide +kernel)
set_option maxRecDepth 100000 in
set_option maxHeartbeats 4000000 in
theorem m_add (l : Launch) (E : EV) (ro : va_W) (h : Nat) (x : Int32) (n : Nat) (r : Nat) (a : Nat) (b : Nat) (f : Nat → Int32) (gg : Nat → Int32) (hn : n < 24) : CT l yX4_add (Cond.code yX4_add cX4_add 3 (some .int) :: TB) ({ frames := 0, cells := 0, slots := 0, locals := 0 }) E ro [.ref h, .int x] [(h, .inr (4, [.int (nI n), .int (nI r), .ref a, .ref b])), (a, .inl (E.2.1 1, 24, .inl f)), (b, .inl (E.2.1 1, 96, .inl gg))] (Qi E (fun (rz : Int32) uz => (∃ (f2 : Nat → Int32) (g2 : Nat → Int32), rz = (nI n) ∧ uz = [(h, .inr (4, [.int (nI (n + 1)), .int (nI r), .ref a, .ref b])), (a, .inl (E.2.1 1, 24, .inl f2)), (b, .inl (E.2.1 1, 96, .inl g2))] ∧ (am (n + 1) r f2 g2 = aAdd (am n r f gg) x) ∧ (upd f n x = f2)))) 0 0 := by
  refine ct_of rfl rfl ?_
  intro X C hT hin hro
  show WW X 3 E 0 [(0, .ref h), (1, .int x)] [] [(h, .inr (4, [.int (nI n), .int (nI r), .ref a, .ref b])), (a, .inl (E.2.1 1, 24, .inl f)), (b, .inl (E.2.1 1, 96, .inl gg))] 0 0
  refine ww_aload_n C dX4_add_0 0 rfl rfl ?_
  refine ww_get C fg_X4_9 0 rfl rfl dX4_add_1 ?_
  refine ww_aload_n C dX4_add_4 0 rfl rfl ?_
  refine ww_get C fg_X4_18 0 rfl rfl dX4_add_5 ?_
  refine ww_iload_n C dX4_add_8 1 rfl rfl ?_
  obtain ⟨f_1, ef_1⟩ : ∃ z : Nat → Int32, upd f n x = z := ⟨_, rfl⟩
  refine ww_iast (ws' := [(h, .inr (4, [.int (nI n), .int (nI r), .ref a, .ref b])), (a, .inl (E.2.1 1, 24, .inl f_1)), (b, .inl (E.2.1 1, 96, .inl gg))]) C 1 rfl (vp_in_nI (by omega) (by omega)) (ldn2 (by omega) ef_1) rfl dX4_add_9 ?_
  refine ww_iconst (v := 0) C dX4_add_10 rfl ?_
  refine ww_istore_n (lv' := [(2, .int 0), (0, .ref h), (1, .int x)]) C dX4_add_11 rfl rfl rfl ?_
  have loop_12 : ∀ (fu : Nat) (i1 : Nat) (g1 : Nat → Int32), (i1 ≤ 4) → (RZ n i1 gg g1) → 4 - i1 < fu → WW X 3 E 12 [(2, .int (nI i1)), (0, .ref h), (1, .int x)] [] [(h, .inr (4, [.int (nI n), .int (nI r), .ref a, .ref b])), (a, .inl (E.2.1 1, 24, .inl f_1)), (b, .inl (E.2.1 1, 96, .inl g1))] 0 0 := by
    intro fu
    induction fu with
    | zero => intro i1 g1 hi1 hrz hmeas; exact absurd hmeas (Nat.not_lt_zero _)
    | succ fu ih_12 =>
      intro i1 g1 hi1 hrz hmeas
      refine ww_iload_n C dX4_add_12 0 rfl rfl ?_
      refine ww_iconst (v := 4) C dX4_add_13 rfl ?_
      refine ww_icmp_ge (tgt := 38) C dX4_add_14 (by decide) (fun c_2 => ?_) (fun c_2 => ?_)
      · have zc_2 : ((i1 : Nat) : Int) ≥ 4 := i_le rfl (nI_toInt (n := i1) (by omega)) c_2
        refine ww_aload_n C dX4_add_38 1 rfl rfl ?_
        refine ww_dup C dX4_add_39 rfl ?_
        refine ww_get C fg_X4_18 0 rfl rfl dX4_add_40 ?_
        refine ww_iconst (v := 1) C dX4_add_43 rfl ?_
        refine ww_iadd (v := (nI (n + 1))) C dX4_add_44 (nI_add n 1) ?_
        refine ww_put (ws' := [(h, .inr (4, [.int (nI (n + 1)), .int (nI r), .ref a, .ref b])), (a, .inl (E.2.1 1, 24, .inl f_1)), (b, .inl (E.2.1 1, 96, .inl g1))]) C fp_X4_18 0 rfl rfl rfl rfl rfl dX4_add_45 ?_
        refine ww_aload_n C dX4_add_48 1 rfl rfl ?_
        refine ww_get C fg_X4_18 0 rfl rfl dX4_add_49 ?_
        refine ww_iconst (v := 1) C dX4_add_52 rfl ?_
        refine ww_isub (v := (nI ((n + 1) - 1))) C dX4_add_53 (pk_sub (a := (n + 1)) (b := 1) (by omega)) ?_
        exact ww_iret (u := [(h, .inr (4, [.int (nI (n + 1)), .int (nI r), .ref a, .ref b])), (a, .inl (E.2.1 1, 24, .inl f_1)), (b, .inl (E.2.1 1, 96, .inl g1))]) C hT [0, 1, 2] rfl rfl rfl rfl dX4_add_54 (⟨f_1, g1, rfl, rfl, (am_add hn ef_1 (by rw [show (4 : Nat) = i1 by omega]; exact hrz)), ef_1⟩)
      · have zc_2 : ((i1 : Nat) : Int) < 4 := i_nle rfl (nI_toInt (n := i1) (by omega)) c_2
        refine ww_aload_n C dX4_add_17 1 rfl rfl ?_
        refine ww_get C fg_X4_15 0 rfl rfl dX4_add_18 ?_
        refine ww_iload_n C dX4_add_21 0 rfl rfl ?_
        refine ww_bipush (v := 24) C dX4_add_22 rfl ?_
        refine ww_imul (v := (nI (i1 * 24))) C dX4_add_24 (pk_mul i1 24) ?_
        refine ww_aload_n C dX4_add_25 1 rfl rfl ?_
        refine ww_get C fg_X4_18 0 rfl rfl dX4_add_26 ?_
        refine ww_iadd (v := (nI ((i1 * 24) + n))) C dX4_add_29 (nI_add (i1 * 24) n) ?_
        refine ww_iconst (v := 0) C dX4_add_30 rfl ?_
        obtain ⟨f_3, ef_3⟩ : ∃ z : Nat → Int32, upd g1 ((i1 * 24) + n) 0 = z := ⟨_, rfl⟩
        refine ww_iast (ws' := [(h, .inr (4, [.int (nI n), .int (nI r), .ref a, .ref b])), (a, .inl (E.2.1 1, 24, .inl f_1)), (b, .inl (E.2.1 1, 96, .inl f_3))]) C 2 rfl (vp_in_nI (by omega) (by omega)) (ldn2 (by omega) ef_3) rfl dX4_add_31 ?_
        refine ww_iinc (j := 0) (v := (nI (i1 + 1))) (lv' := [(2, .int (nI (i1 + 1))), (0, .ref h), (1, .int x)]) C dX4_add_32 rfl (nI_add i1 1) rfl rfl ?_
        refine ww_goto (tgt := 12) C dX4_add_35 (by decide) ?_
        exact ww_lv [0, 1, 2] rfl (ww_sub [0, 1, 2] rfl rfl (ih_12 (i1 + 1) f_3 (by omega) (RZ.ext hrz (by omega) ef_3) (by omega)))
  exact ww_lv [0, 1, 2] rfl (ww_sub [0, 1, 2] rfl rfl (loop_12 _ 0 gg (by omega) RZ.nil (Nat.lt_succ_self _)))
theorem dX4_hold_0 : decode cX4_hold 0 = .ok (.aload_n 0, 1) := dl_42 (by decide +kernel)
theorem dX4_hold_1 : decode cX4_hold 1 = .ok (.iload_n 1, 1) := dl_27 (by decide +kernel)
theorem dX4_hold_2 : decode cX4_hold 2 = .ok (.iload_n 2, 1) := dl_28 (by decide +kernel)
theorem dX4_hold_3 : decode cX4_hold 3 = .ok (.invokevirtual 25, 3) := dl_182 (by decide +kernel)
theorem wl_X4_25 : Cond.methodLink RX4 25 yX4_held ∈ TB := tbm (tq2 (List.mem_of_getElem? (i := 183) (by decide +kernel))) (by decide +kernel)
theorem wc_X4_held : Cond.code yX4_held cX4_held 3 (some .int) ∈ TB := tbm (tq2 (List.mem_of_getElem? (i := 178) (rfl))) (by decide +kernel)
theorem wn_X4 : Cond.initialized RX4 ∈ TB := tbm (tq1 (List.mem_of_getElem? (i := 2) (by decide +kernel))) (by decide +kernel)
theorem wi_X4_held : Cond.instanceMethod yX4_held ∈ TB := tbm (tq2 (List.mem_of_getElem? (i := 176) (by decide +kernel))) (by decide +kernel)
theorem ws_X4_held : Cond.selects RX4 yX4_held yX4_held ∈ TB := tbm (tq2 (List.mem_of_getElem? (i := 177) (by decide +kernel))) (by decide +kernel)
theorem mi_X4_held : MI yX4_held cX4_held 3 (some .int) 2 := ⟨wc_X4_held, wn_X4, ⟨by decide +kernel, by decide +kernel, by decide +kernel⟩, wi_X4_held, ws_X4_held⟩
theorem dX4_hold_6 : decode cX4_hold 6 = .ok (.istore 5, 2) := dl_54 (by decide +kernel)
theorem dX4_hold_8 : decode cX4_hold 8 = .ok (.aload_n 0, 1) := dl_42 (by decide +kernel)
theorem dX4_hold_9 : decode cX4_hold 9 = .ok (.getfield 15, 3) := dl_180 (by decide +kernel)
theorem dX4_hold_12 : decode cX4_hold 12 = .ok (.iload_n 1, 1) := dl_27 (by decide +kernel)
theorem dX4_hold_13 : decode cX4_hold 13 = .ok (.bipush 24, 2) := dl_16 (by decide +kernel)
theorem dX4_hold_15 : decode cX4_hold 15 = .ok (.imul, 1) := dl_104 (by decide +kernel)
theorem dX4_hold_16 : decode cX4_hold 16 = .ok (.iload_n 2, 1) := dl_28 (by decide +kernel)
theorem dX4_hold_17 : decode cX4_hold 17 = .ok (.iadd, 1) := dl_96 (by decide +kernel)
theorem dX4_hold_18 : decode cX4_hold 18 = .ok (.iload 4, 2) := dl_21 (by decide +kernel)
theorem dX4_hold_20 : decode cX4_hold 20 = .ok (.ifCond .eq 12, 3) := dl_153 (by decide +kernel)
theorem dX4_hold_32 : decode cX4_hold 32 = .ok (.iload 5, 2) := dl_21 (by decide +kernel)
theorem dX4_hold_34 : decode cX4_hold 34 = .ok (.iconst 1, 1) := dl_4 (by decide +kernel)
theorem dX4_hold_35 : decode cX4_hold 35 = .ok (.iload_n 3, 1) := dl_29 (by decide +kernel)
theorem dX4_hold_36 : decode cX4_hold 36 = .ok (.ishl, 1) := dl_120 (by decide +kernel)
theorem dX4_hold_37 : decode cX4_hold 37 = .ok (.iconst (-1), 1) := dl_2 (by decide +kernel)
theorem dX4_hold_38 : decode cX4_hold 38 = .ok (.ixor, 1) := dl_130 (by decide +kernel)
theorem dX4_hold_39 : decode cX4_hold 39 = .ok (.iand, 1) := dl_126 (by decide +kernel)
theorem dX4_hold_40 : decode cX4_hold 40 = .ok (.iastore, 1) := dl_79 (by decide +kernel)
theorem dX4_hold_41 : decode cX4_hold 41 = .ok (.return_, 1) := dl_177 (by decide +kernel)
theorem dX4_hold_23 : decode cX4_hold 23 = .ok (.iload 5, 2) := dl_21 (by decide +kernel)
theorem dX4_hold_25 : decode cX4_hold 25 = .ok (.iconst 1, 1) := dl_4 (by decide +kernel)
theorem dX4_hold_26 : decode cX4_hold 26 = .ok (.iload_n 3, 1) := dl_29 (by decide +kernel)
theorem dX4_hold_27 : decode cX4_hold 27 = .ok (.ishl, 1) := dl_120 (by decide +kernel)
theorem dX4_hold_28 : decode cX4_hold 28 = .ok (.ior, 1) := dl_128 (by decide +kernel)
theorem dX4_hold_29 : decode cX4_hold 29 = .ok (.goto 11, 3) := dl_167 (by decide +kernel)
set_option maxRecDepth 100000 in
set_option maxHeartbeats 4000000 in
theorem m_hold (l : Launch) (E : EV) (ro : va_W) (h : Nat) (k : Nat) (u : Nat) (v : Int32) (is : Int32) (n : Nat) (r : Nat) (a : Nat) (b : Nat) (f : Nat → Int32) (gg : Nat → Int32) (hk : k < 4) (hw : u < 24) : CT l yX4_hold (Cond.code yX4_hold cX4_hold 6 none :: TB) ({ frames := 1, cells := 0, slots := 0, locals := 22 }) E ro [.ref h, .int (nI k), .int (nI u), .int v, .int is] [(h, .inr (4, [.int (nI n), .int (nI r), .ref a, .ref b])), (a, .inl (E.2.1 1, 24, .inl f)), (b, .inl (E.2.1 1, 96, .inl gg))] (Qv E (fun uz => (∃ (g2 : Nat → Int32), uz = [(h, .inr (4, [.int (nI n), .int (nI r), .ref a, .ref b])), (a, .inl (E.2.1 1, 24, .inl f)), (b, .inl (E.2.1 1, 96, .inl g2))] ∧ (upd gg (k * 24 + u) (hbt (gg (k * 24 + u)) v is) = g2)))) 0 0 := by
  refine ct_of rfl rfl ?_
  intro X C hT hin hro
  show WW X 6 E 0 [(0, .ref h), (1, .int (nI k)), (2, .int (nI u)), (3, .int v), (4, .int is)] [] [(h, .inr (4, [.int (nI n), .int (nI r), .ref a, .ref b])), (a, .inl (E.2.1 1, 24, .inl f)), (b, .inl (E.2.1 1, 96, .inl gg))] 0 0
  refine ww_aload_n C dX4_hold_0 0 rfl rfl ?_
  refine ww_iload_n C dX4_hold_1 1 rfl rfl ?_
  refine ww_iload_n C dX4_hold_2 2 rfl rfl ?_
  refine ww_ci (wr := []) (k' := 0) (n' := 0) C (run_V (As := [.int (nI k), .int (nI u)]) (rest := []) C (m_held X.2.1 E ro h k u n r a b f gg (by omega) (by omega)) mi_X4_held wl_X4_25 rfl 0 4 rfl rfl rfl rfl rfl dX4_hold_3) (roK hro) [0, 1, 2] [] rfl rfl rfl rfl (fun r_1 uz hw => ?_)
  refine an1 hw ?_
  clear hw
  intro he_2 hw
  have he_3 := hw
  clear hw
  have he_2 := he_2.symm
  subst he_2
  subst he_3
  refine ww_eq (ws' := [(h, .inr (4, [.int (nI n), .int (nI r), .ref a, .ref b])), (a, .inl (E.2.1 1, 24, .inl f)), (b, .inl (E.2.1 1, 96, .inl gg))]) ?_ rfl rfl rfl
  refine ww_istore (lv' := [(5, .int (gg (k * 24 + u))), (0, .ref h), (1, .int (nI k)), (2, .int (nI u)), (3, .int v), (4, .int is)]) C dX4_hold_6 rfl rfl ?_
  refine ww_aload_n C dX4_hold_8 1 rfl rfl ?_
  refine ww_get C fg_X4_15 0 rfl rfl dX4_hold_9 ?_
  refine ww_iload_n C dX4_hold_12 2 rfl rfl ?_
  refine ww_bipush (v := 24) C dX4_hold_13 rfl ?_
  refine ww_imul (v := (nI (k * 24))) C dX4_hold_15 (pk_mul k 24) ?_
  refine ww_iload_n C dX4_hold_16 3 rfl rfl ?_
  refine ww_iadd (v := (nI ((k * 24) + u))) C dX4_hold_17 (nI_add (k * 24) u) ?_
  refine ww_iload C dX4_hold_18 5 rfl ?_
  refine ww_if_eq (tgt := 32) C dX4_hold_20 (by decide) (fun c_4 => ?_) (fun c_4 => ?_)
  · have zc_4 : is.toInt = 0 := i_eq rfl rfl c_4
    refine ww_iload C dX4_hold_32 0 rfl ?_
    refine ww_iconst (v := 1) C dX4_hold_34 rfl ?_
    refine ww_iload_n C dX4_hold_35 4 rfl rfl ?_
    obtain ⟨x_5, ex_5⟩ : ∃ z : Int32, (1 : Int32) <<< (v &&& 31) = z := ⟨_, rfl⟩
    refine ww_ishl (v := x_5) C dX4_hold_36 ex_5 ?_
    refine ww_iconst (v := (-1)) C dX4_hold_37 rfl ?_
    obtain ⟨x_6, ex_6⟩ : ∃ z : Int32, x_5 ^^^ ((-1) : Int32) = z := ⟨_, rfl⟩
    refine ww_ixor (v := x_6) C dX4_hold_38 ex_6 ?_
    obtain ⟨x_7, ex_7⟩ : ∃ z : Int32, (gg (k * 24 + u)) &&& x_6 = z := ⟨_, rfl⟩
    refine ww_iand (v := x_7) C dX4_hold_39 ex_7 ?_
    obtain ⟨f_8, ef_8⟩ : ∃ z : Nat → Int32, upd gg ((k * 24) + u) x_7 = z := ⟨_, rfl⟩
    refine ww_iast (ws' := [(h, .inr (4, [.int (nI n), .int (nI r), .ref a, .ref b])), (a, .inl (E.2.1 1, 24, .inl f)), (b, .inl (E.2.1 1, 96, .inl f_8))]) C 2 rfl (vp_in_nI (by omega) (by omega)) (ldn2 (by omega) ef_8) rfl dX4_hold_40 ?_
    exact ww_vret (u := [(h, .inr (4, [.int (nI n), .int (nI r), .ref a, .ref b])), (a, .inl (E.2.1 1, 24, .inl f)), (b, .inl (E.2.1 1, 96, .inl f_8))]) C hT [0, 1, 2] rfl rfl rfl rfl dX4_hold_41 (⟨f_8, rfl, (by unfold hbt; rw [if_neg (fun h9 => h9 (by assumption)), ex_5, ex_6, ex_7]; exact ef_8)⟩)
  · have zc_4 : is.toInt ≠ 0 := i_ne rfl rfl c_4
    refine ww_iload C dX4_hold_23 0 rfl ?_
    refine ww_iconst (v := 1) C dX4_hold_25 rfl ?_
    refine ww_iload_n C dX4_hold_26 4 rfl rfl ?_
    obtain ⟨x_9, ex_9⟩ : ∃ z : Int32, (1 : Int32) <<< (v &&& 31) = z := ⟨_, rfl⟩
    refine ww_ishl (v := x_9) C dX4_hold_27 ex_9 ?_
    obtain ⟨x_10, ex_10⟩ : ∃ z : Int32, (gg (k * 24 + u)) ||| x_9 = z := ⟨_, rfl⟩
    refine ww_ior (v := x_10) C dX4_hold_28 ex_10 ?_
    refine ww_goto (tgt := 40) C dX4_hold_29 (by decide) ?_
    obtain ⟨f_11, ef_11⟩ : ∃ z : Nat → Int32, upd gg ((k * 24) + u) x_10 = z := ⟨_, rfl⟩
    refine ww_iast (ws' := [(h, .inr (4, [.int (nI n), .int (nI r), .ref a, .ref b])), (a, .inl (E.2.1 1, 24, .inl f)), (b, .inl (E.2.1 1, 96, .inl f_11))]) C 2 rfl (vp_in_nI (by omega) (by omega)) (ldn2 (by omega) ef_11) rfl dX4_hold_40 ?_
    exact ww_vret (u := [(h, .inr (4, [.int (nI n), .int (nI r), .ref a, .ref b])), (a, .inl (E.2.1 1, 24, .inl f)), (b, .inl (E.2.1 1, 96, .inl f_11))]) C hT [0, 1, 2] rfl rfl rfl rfl dX4_hold_41 (⟨f_11, rfl, (by unfold hbt; rw [if_pos (by assumption), ex_9, ex_10]; exact ef_11)⟩)
theorem dX4_alikeBut_0 : decode cX4_alikeBut 0 = .ok (.iconst 0, 1) := dl_3 (by decide +kernel)
theorem dX4_alikeBut_1 : decode cX4_alikeBut 1 = .ok (.istore_n 3, 1) := dl_62 (by decide +kernel)
theorem dX4_alikeBut_2 : decode cX4_alikeBut 2 = .ok (.iconst 0, 1) := dl_3 (by decide +kernel)
theorem dX4_alikeBut_3 : decode cX4_alikeBut 3 = .ok (.istore 4, 2) := dl_54 (by decide +kernel)
theorem dX4_alikeBut_5 : decode cX4_alikeBut 5 = .ok (.iload 4, 2) := dl_21 (by decide +kernel)
theorem dX4_alikeBut_7 : decode cX4_alikeBut 7 = .ok (.aload_n 0, 1) := dl_42 (by decide +kernel)
theorem dX4_alikeBut_8 : decode cX4_alikeBut 8 = .ok (.getfield 18, 3) := dl_180 (by decide +kernel)
theorem dX4_alikeBut_11 : decode cX4_alikeBut 11 = .ok (.if_icmp .ge 37, 3) := dl_162 (by decide +kernel)
theorem dX4_alikeBut_48 : decode cX4_alikeBut 48 = .ok (.iload_n 3, 1) := dl_29 (by decide +kernel)
theorem dX4_alikeBut_49 : decode cX4_alikeBut 49 = .ok (.ireturn, 1) := dl_172 (by decide +kernel)
theorem dX4_alikeBut_14 : decode cX4_alikeBut 14 = .ok (.aload_n 0, 1) := dl_42 (by decide +kernel)
theorem dX4_alikeBut_15 : decode cX4_alikeBut 15 = .ok (.getfield 9, 3) := dl_180 (by decide +kernel)
theorem dX4_alikeBut_18 : decode cX4_alikeBut 18 = .ok (.iload_n 2, 1) := dl_28 (by decide +kernel)
theorem dX4_alikeBut_19 : decode cX4_alikeBut 19 = .ok (.iaload, 1) := dl_46 (by decide +kernel)
theorem dX4_alikeBut_20 : decode cX4_alikeBut 20 = .ok (.aload_n 0, 1) := dl_42 (by decide +kernel)
theorem dX4_alikeBut_21 : decode cX4_alikeBut 21 = .ok (.getfield 9, 3) := dl_180 (by decide +kernel)
theorem dX4_alikeBut_24 : decode cX4_alikeBut 24 = .ok (.iload 4, 2) := dl_21 (by decide +kernel)
theorem dX4_alikeBut_26 : decode cX4_alikeBut 26 = .ok (.iaload, 1) := dl_46 (by decide +kernel)
theorem dX4_alikeBut_27 : decode cX4_alikeBut 27 = .ok (.ixor, 1) := dl_130 (by decide +kernel)
theorem dX4_alikeBut_28 : decode cX4_alikeBut 28 = .ok (.iload_n 1, 1) := dl_27 (by decide +kernel)
theorem dX4_alikeBut_29 : decode cX4_alikeBut 29 = .ok (.iconst (-1), 1) := dl_2 (by decide +kernel)
theorem dX4_alikeBut_30 : decode cX4_alikeBut 30 = .ok (.ixor, 1) := dl_130 (by decide +kernel)
theorem dX4_alikeBut_31 : decode cX4_alikeBut 31 = .ok (.iand, 1) := dl_126 (by decide +kernel)
theorem dX4_alikeBut_32 : decode cX4_alikeBut 32 = .ok (.ifCond .ne 10, 3) := dl_154 (by decide +kernel)
theorem dX4_alikeBut_42 : decode cX4_alikeBut 42 = .ok (.iinc 4 1, 3) := dl_132 (by decide +kernel)
theorem dX4_alikeBut_45 : decode cX4_alikeBut 45 = .ok (.goto (-40), 3) := dl_167 (by decide +kernel)
theorem dX4_alikeBut_35 : decode cX4_alikeBut 35 = .ok (.iload_n 3, 1) := dl_29 (by decide +kernel)
theorem dX4_alikeBut_36 : decode cX4_alikeBut 36 = .ok (.iconst 1, 1) := dl_4 (by decide +kernel)
theorem dX4_alikeBut_37 : decode cX4_alikeBut 37 = .ok (.iload 4, 2) := dl_21 (by decide +kernel)
theorem dX4_alikeBut_39 : decode cX4_alikeBut 39 = .ok (.ishl, 1) := dl_120 (by decide +kernel)
theorem dX4_alikeBut_40 : decode cX4_alikeBut 40 = .ok (.ior, 1) := dl_128 (by decide +kernel)
theorem dX4_alikeBut_41 : decode cX4_alikeBut 41 = .ok (.istore_n 3, 1) := dl_62 (by decide +kernel)
set_option maxRecDepth 100000 in
set_option maxHeartbeats 4000000 in
theorem m_alikeBut (l : Launch) (E : EV) (ro : va_W) (h : Nat) (own : Int32) (u : Nat) (n : Nat) (r : Nat) (a : Nat) (b : Nat) (f : Nat → Int32) (gg : Nat → Int32) (hn : n ≤ 24) (hr : r < n ∨ r = 0) (hu : u < 24) : CT l yX4_alikeBut (Cond.code yX4_alikeBut cX4_alikeBut 5 (some .int) :: TB) ({ frames := 0, cells := 0, slots := 0, locals := 0 }) E ro [.ref h, .int own, .int (nI u)] [(h, .inr (4, [.int (nI n), .int (nI r), .ref a, .ref b])), (a, .inl (E.2.1 1, 24, .inl f)), (b, .inl (E.2.1 1, 96, .inl gg))] (Qi E (fun (rz : Int32) uz => (uz = [(h, .inr (4, [.int (nI n), .int (nI r), .ref a, .ref b])), (a, .inl (E.2.1 1, 24, .inl f)), (b, .inl (E.2.1 1, 96, .inl gg))] ∧ (BS rz (fun v => decide (v < n) && alk f own u v))))) 0 0 := by
  refine ct_of rfl rfl ?_
  intro X C hT hin hro
  show WW X 5 E 0 [(0, .ref h), (1, .int own), (2, .int (nI u))] [] [(h, .inr (4, [.int (nI n), .int (nI r), .ref a, .ref b])), (a, .inl (E.2.1 1, 24, .inl f)), (b, .inl (E.2.1 1, 96, .inl gg))] 0 0
  refine ww_iconst (v := 0) C dX4_alikeBut_0 rfl ?_
  refine ww_istore_n (lv' := [(3, .int 0), (0, .ref h), (1, .int own), (2, .int (nI u))]) C dX4_alikeBut_1 rfl rfl rfl ?_
  refine ww_iconst (v := 0) C dX4_alikeBut_2 rfl ?_
  refine ww_istore (lv' := [(4, .int 0), (3, .int 0), (0, .ref h), (1, .int own), (2, .int (nI u))]) C dX4_alikeBut_3 rfl rfl ?_
  have loop_5 : ∀ (fu : Nat) (i1 : Nat) (ac : Int32), (i1 ≤ n) → (AC ac no_ i1 (alk f own u)) → n - i1 < fu → WW X 5 E 5 [(4, .int (nI i1)), (3, .int ac), (0, .ref h), (1, .int own), (2, .int (nI u))] [] [(h, .inr (4, [.int (nI n), .int (nI r), .ref a, .ref b])), (a, .inl (E.2.1 1, 24, .inl f)), (b, .inl (E.2.1 1, 96, .inl gg))] 0 0 := by
    intro fu
    induction fu with
    | zero => intro i1 ac hi1 hac hmeas; exact absurd hmeas (Nat.not_lt_zero _)
    | succ fu ih_5 =>
      intro i1 ac hi1 hac hmeas
      refine ww_iload C dX4_alikeBut_5 0 rfl ?_
      refine ww_aload_n C dX4_alikeBut_7 2 rfl rfl ?_
      refine ww_get C fg_X4_18 0 rfl rfl dX4_alikeBut_8 ?_
      refine ww_icmp_ge (tgt := 48) C dX4_alikeBut_11 (by decide) (fun c_1 => ?_) (fun c_1 => ?_)
      · have zc_1 : ((i1 : Nat) : Int) ≥ ((n : Nat) : Int) := i_le (nI_toInt (n := n) (by omega)) (nI_toInt (n := i1) (by omega)) c_1
        refine ww_iload_n C dX4_alikeBut_48 1 rfl rfl ?_
        exact ww_iret (u := [(h, .inr (4, [.int (nI n), .int (nI r), .ref a, .ref b])), (a, .inl (E.2.1 1, 24, .inl f)), (b, .inl (E.2.1 1, 96, .inl gg))]) C hT [0, 1, 2] rfl rfl rfl rfl dX4_alikeBut_49 (⟨rfl, (AC.fin hac (by omega))⟩)
      · have zc_1 : ((i1 : Nat) : Int) < ((n : Nat) : Int) := i_nle (nI_toInt (n := n) (by omega)) (nI_toInt (n := i1) (by omega)) c_1
        refine ww_aload_n C dX4_alikeBut_14 2 rfl rfl ?_
        refine ww_get C fg_X4_9 0 rfl rfl dX4_alikeBut_15 ?_
        refine ww_iload_n C dX4_alikeBut_18 4 rfl rfl ?_
        obtain ⟨x_2, ex_2⟩ : ∃ z : Int32, f u = z := ⟨_, rfl⟩
        refine ww_iald (v := x_2) C 1 rfl (vp_in_nI (by omega) (by omega)) (ldn (by omega) ex_2) dX4_alikeBut_19 ?_
        refine ww_aload_n C dX4_alikeBut_20 2 rfl rfl ?_
        refine ww_get C fg_X4_9 0 rfl rfl dX4_alikeBut_21 ?_
        refine ww_iload C dX4_alikeBut_24 0 rfl ?_
        obtain ⟨x_3, ex_3⟩ : ∃ z : Int32, f i1 = z := ⟨_, rfl⟩
        refine ww_iald (v := x_3) C 1 rfl (vp_in_nI (by omega) (by omega)) (ldn (by omega) ex_3) dX4_alikeBut_26 ?_
        obtain ⟨x_4, ex_4⟩ : ∃ z : Int32, x_2 ^^^ x_3 = z := ⟨_, rfl⟩
        refine ww_ixor (v := x_4) C dX4_alikeBut_27 ex_4 ?_
        refine ww_iload_n C dX4_alikeBut_28 3 rfl rfl ?_
        refine ww_iconst (v := (-1)) C dX4_alikeBut_29 rfl ?_
        obtain ⟨x_5, ex_5⟩ : ∃ z : Int32, own ^^^ ((-1) : Int32) = z := ⟨_, rfl⟩
        refine ww_ixor (v := x_5) C dX4_alikeBut_30 ex_5 ?_
        obtain ⟨x_6, ex_6⟩ : ∃ z : Int32, x_4 &&& x_5 = z := ⟨_, rfl⟩
        refine ww_iand (v := x_6) C dX4_alikeBut_31 ex_6 ?_
        refine ww_if_ne (tgt := 42) C dX4_alikeBut_32 (by decide) (fun c_7 => ?_) (fun c_7 => ?_)
        · have zc_7 : x_6.toInt ≠ 0 := i_ne rfl rfl c_7
          refine ww_iinc (j := 0) (v := (nI (i1 + 1))) (lv' := [(4, .int (nI (i1 + 1))), (3, .int ac), (0, .ref h), (1, .int own), (2, .int (nI u))]) C dX4_alikeBut_42 rfl (nI_add i1 1) rfl rfl ?_
          refine ww_goto (tgt := 5) C dX4_alikeBut_45 (by decide) ?_
          exact ww_lv [0, 1, 2, 3, 4] rfl (ww_sub [0, 1, 2] rfl rfl (ih_5 (i1 + 1) ac (by omega) (AC.f hac (decide_eq_false (fun h9 => zc_7 (by rw [← (show (f u ^^^ f i1) &&& (own ^^^ (-1 : Int32)) = x_6 by rw [ex_2, ex_3, ex_4, ex_5, ex_6]), h9]; rfl)))) (by omega)))
        · have zc_7 : x_6.toInt = 0 := i_eq rfl rfl c_7
          refine ww_iload_n C dX4_alikeBut_35 1 rfl rfl ?_
          refine ww_iconst (v := 1) C dX4_alikeBut_36 rfl ?_
          refine ww_iload C dX4_alikeBut_37 0 rfl ?_
          obtain ⟨x_8, ex_8⟩ : ∃ z : Int32, (1 : Int32) <<< ((nI i1) &&& 31) = z := ⟨_, rfl⟩
          refine ww_ishl (v := x_8) C dX4_alikeBut_39 ex_8 ?_
          obtain ⟨x_9, ex_9⟩ : ∃ z : Int32, ac ||| x_8 = z := ⟨_, rfl⟩
          refine ww_ior (v := x_9) C dX4_alikeBut_40 ex_9 ?_
          refine ww_istore_n (lv' := [(3, .int x_9), (4, .int (nI i1)), (0, .ref h), (1, .int own), (2, .int (nI u))]) C dX4_alikeBut_41 rfl rfl rfl ?_
          refine ww_iinc (j := 1) (v := (nI (i1 + 1))) (lv' := [(4, .int (nI (i1 + 1))), (3, .int x_9), (0, .ref h), (1, .int own), (2, .int (nI u))]) C dX4_alikeBut_42 rfl (nI_add i1 1) rfl rfl ?_
          refine ww_goto (tgt := 5) C dX4_alikeBut_45 (by decide) ?_
          exact ww_lv [0, 1, 2, 3, 4] rfl (ww_sub [0, 1, 2] rfl rfl (ih_5 (i1 + 1) x_9 (by omega) (AC.t hac (by omega) (decide_eq_true ((show (f u ^^^ f i1) &&& (own ^^^ (-1 : Int32)) = x_6 by rw [ex_2, ex_3, ex_4, ex_5, ex_6]).trans (i_z zc_7))) ex_9 ex_8) (by omega)))
  exact ww_lv [0, 1, 2, 3, 4] rfl (ww_sub [0, 1, 2] rfl rfl (loop_5 _ 0 0 (by omega) AC.nil (Nat.lt_succ_self _)))
theorem bl_c {a n i1 i2 S : Nat} {f : Nat → Int32} {x r : Int32} (h : a = S + sumN (fun u => cRow n f (ow x i1) u) i2) (hr : BS r (fun v => decide (v < n) && alk f (ow x i1) i2 v)) : a + cb (bt r) 32 = S + sumN (fun u => cRow n f (ow x i1) u) (i2 + 1) := by
  show _ = S + (sumN (fun u => cRow n f (ow x i1) u) i2 + cRow n f (ow x i1) i2)
  rw [h, cb_BS hr]; unfold cRow; omega
theorem dX4_blindfold_0 : decode cX4_blindfold 0 = .ok (.iconst 0, 1) := dl_3 (by decide +kernel)
theorem dX4_blindfold_1 : decode cX4_blindfold 1 = .ok (.istore_n 2, 1) := dl_61 (by decide +kernel)
theorem dX4_blindfold_2 : decode cX4_blindfold 2 = .ok (.iconst 0, 1) := dl_3 (by decide +kernel)
theorem dX4_blindfold_3 : decode cX4_blindfold 3 = .ok (.istore_n 3, 1) := dl_62 (by decide +kernel)
theorem dX4_blindfold_4 : decode cX4_blindfold 4 = .ok (.iload_n 3, 1) := dl_29 (by decide +kernel)
theorem dX4_blindfold_5 : decode cX4_blindfold 5 = .ok (.iconst 4, 1) := dl_7 (by decide +kernel)
theorem dX4_blindfold_6 : decode cX4_blindfold 6 = .ok (.if_icmp .ge 69, 3) := dl_162 (by decide +kernel)
theorem dX4_blindfold_75 : decode cX4_blindfold 75 = .ok (.iload_n 2, 1) := dl_28 (by decide +kernel)
theorem dX4_blindfold_76 : decode cX4_blindfold 76 = .ok (.ireturn, 1) := dl_172 (by decide +kernel)
theorem dX4_blindfold_9 : decode cX4_blindfold 9 = .ok (.iload_n 1, 1) := dl_27 (by decide +kernel)
theorem dX4_blindfold_10 : decode cX4_blindfold 10 = .ok (.iconst 4, 1) := dl_7 (by decide +kernel)
theorem dX4_blindfold_11 : decode cX4_blindfold 11 = .ok (.iload_n 3, 1) := dl_29 (by decide +kernel)
theorem dX4_blindfold_12 : decode cX4_blindfold 12 = .ok (.imul, 1) := dl_104 (by decide +kernel)
theorem dX4_blindfold_13 : decode cX4_blindfold 13 = .ok (.ishr, 1) := dl_122 (by decide +kernel)
theorem dX4_blindfold_14 : decode cX4_blindfold 14 = .ok (.bipush 15, 2) := dl_16 (by decide +kernel)
theorem dX4_blindfold_16 : decode cX4_blindfold 16 = .ok (.iand, 1) := dl_126 (by decide +kernel)
theorem dX4_blindfold_17 : decode cX4_blindfold 17 = .ok (.istore 4, 2) := dl_54 (by decide +kernel)
theorem dX4_blindfold_19 : decode cX4_blindfold 19 = .ok (.iconst 0, 1) := dl_3 (by decide +kernel)
theorem dX4_blindfold_20 : decode cX4_blindfold 20 = .ok (.istore 5, 2) := dl_54 (by decide +kernel)
theorem dX4_blindfold_22 : decode cX4_blindfold 22 = .ok (.iload 5, 2) := dl_21 (by decide +kernel)
theorem dX4_blindfold_24 : decode cX4_blindfold 24 = .ok (.aload_n 0, 1) := dl_42 (by decide +kernel)
theorem dX4_blindfold_25 : decode cX4_blindfold 25 = .ok (.getfield 18, 3) := dl_180 (by decide +kernel)
theorem dX4_blindfold_28 : decode cX4_blindfold 28 = .ok (.if_icmp .ge 41, 3) := dl_162 (by decide +kernel)
theorem dX4_blindfold_69 : decode cX4_blindfold 69 = .ok (.iinc 3 1, 3) := dl_132 (by decide +kernel)
theorem dX4_blindfold_72 : decode cX4_blindfold 72 = .ok (.goto (-68), 3) := dl_167 (by decide +kernel)
theorem dX4_blindfold_31 : decode cX4_blindfold 31 = .ok (.aload_n 0, 1) := dl_42 (by decide +kernel)
theorem dX4_blindfold_32 : decode cX4_blindfold 32 = .ok (.iload 4, 2) := dl_21 (by decide +kernel)
theorem dX4_blindfold_34 : decode cX4_blindfold 34 = .ok (.iload 5, 2) := dl_21 (by decide +kernel)
theorem dX4_blindfold_36 : decode cX4_blindfold 36 = .ok (.invokevirtual 29, 3) := dl_182 (by decide +kernel)
theorem wl_X4_29 : Cond.methodLink RX4 29 yX4_alikeBut ∈ TB := tbm (tq2 (List.mem_of_getElem? (i := 193) (by decide +kernel))) (by decide +kernel)
theorem wc_X4_alikeBut : Cond.code yX4_alikeBut cX4_alikeBut 5 (some .int) ∈ TB := tbm (tq2 (List.mem_of_getElem? (i := 196) (rfl))) (by decide +kernel)
theorem wi_X4_alikeBut : Cond.instanceMethod yX4_alikeBut ∈ TB := tbm (tq2 (List.mem_of_getElem? (i := 195) (by decide +kernel))) (by decide +kernel)
theorem ws_X4_alikeBut : Cond.selects RX4 yX4_alikeBut yX4_alikeBut ∈ TB := tbm (tq0 (List.mem_of_getElem? (i := 1) (by decide +kernel))) (by decide +kernel)
theorem mi_X4_alikeBut : MI yX4_alikeBut cX4_alikeBut 5 (some .int) 2 := ⟨wc_X4_alikeBut, wn_X4, ⟨by decide +kernel, by decide +kernel, by decide +kernel⟩, wi_X4_alikeBut, ws_X4_alikeBut⟩
theorem dX4_blindfold_39 : decode cX4_blindfold 39 = .ok (.istore 6, 2) := dl_54 (by decide +kernel)
theorem dX4_blindfold_41 : decode cX4_blindfold 41 = .ok (.aload_n 0, 1) := dl_42 (by decide +kernel)
theorem dX4_blindfold_42 : decode cX4_blindfold 42 = .ok (.getfield 15, 3) := dl_180 (by decide +kernel)
theorem dX4_blindfold_45 : decode cX4_blindfold 45 = .ok (.iload_n 3, 1) := dl_29 (by decide +kernel)
theorem dX4_blindfold_46 : decode cX4_blindfold 46 = .ok (.bipush 24, 2) := dl_16 (by decide +kernel)
theorem dX4_blindfold_48 : decode cX4_blindfold 48 = .ok (.imul, 1) := dl_104 (by decide +kernel)
theorem dX4_blindfold_49 : decode cX4_blindfold 49 = .ok (.iload 5, 2) := dl_21 (by decide +kernel)
theorem dX4_blindfold_51 : decode cX4_blindfold 51 = .ok (.iadd, 1) := dl_96 (by decide +kernel)
theorem dX4_blindfold_52 : decode cX4_blindfold 52 = .ok (.iload 6, 2) := dl_21 (by decide +kernel)
theorem dX4_blindfold_54 : decode cX4_blindfold 54 = .ok (.iastore, 1) := dl_79 (by decide +kernel)
theorem dX4_blindfold_55 : decode cX4_blindfold 55 = .ok (.iload_n 2, 1) := dl_28 (by decide +kernel)
theorem dX4_blindfold_56 : decode cX4_blindfold 56 = .ok (.iload 6, 2) := dl_21 (by decide +kernel)
theorem dX4_blindfold_58 : decode cX4_blindfold 58 = .ok (.invokestatic 32, 3) := dl_184 (by decide +kernel)
theorem wl_X4_32 : Cond.methodLink RX4 32 yJ6_bitCount_0f7a4 ∈ TB := tbm (tq2 (List.mem_of_getElem? (i := 197) (by decide +kernel))) (by decide +kernel)
theorem wc_J6_bitCount_0f7a4 : Cond.code yJ6_bitCount_0f7a4 cJ6_bitCount_0f7a4 1 (some .int) ∈ TB := tbm (tq2 (List.mem_of_getElem? (i := 199) (rfl))) (by decide +kernel)
theorem wn_J6 : Cond.initialized RJ6 ∈ TB := tbm (tq1 (List.mem_of_getElem? (i := 15) (by decide +kernel))) (by decide +kernel)
theorem wt_J6_bitCount_0f7a4 : Cond.static yJ6_bitCount_0f7a4 ∈ TB := tbm (tq2 (List.mem_of_getElem? (i := 198) (by decide +kernel))) (by decide +kernel)
theorem ms_J6_bitCount_0f7a4 : MS yJ6_bitCount_0f7a4 cJ6_bitCount_0f7a4 1 (some .int) 1 := ⟨wc_J6_bitCount_0f7a4, wn_J6, ⟨by decide +kernel, by decide +kernel, by decide +kernel⟩, wt_J6_bitCount_0f7a4⟩
theorem dX4_blindfold_61 : decode cX4_blindfold 61 = .ok (.iadd, 1) := dl_96 (by decide +kernel)
theorem dX4_blindfold_62 : decode cX4_blindfold 62 = .ok (.istore_n 2, 1) := dl_61 (by decide +kernel)
theorem dX4_blindfold_63 : decode cX4_blindfold 63 = .ok (.iinc 5 1, 3) := dl_132 (by decide +kernel)
theorem dX4_blindfold_66 : decode cX4_blindfold 66 = .ok (.goto (-44), 3) := dl_167 (by decide +kernel)
set_option maxRecDepth 100000 in
set_option maxHeartbeats 4000000 in
theorem m_blindfold (l : Launch) (E : EV) (ro : va_W) (h : Nat) (bl : Int32) (n : Nat) (r : Nat) (a : Nat) (b : Nat) (f : Nat → Int32) (gg : Nat → Int32) (hn : n ≤ 24) (hr : r < n ∨ r = 0) : CT l yX4_blindfold (Cond.code yX4_blindfold cX4_blindfold 7 (some .int) :: TB) ({ frames := 1, cells := 0, slots := 0, locals := 24 }) E ro [.ref h, .int bl] [(h, .inr (4, [.int (nI n), .int (nI r), .ref a, .ref b])), (a, .inl (E.2.1 1, 24, .inl f)), (b, .inl (E.2.1 1, 96, .inl gg))] (Qi E (fun (rz : Int32) uz => (∃ (g2 : Nat → Int32), rz = (nI (cBl n f bl)) ∧ uz = [(h, .inr (4, [.int (nI n), .int (nI r), .ref a, .ref b])), (a, .inl (E.2.1 1, 24, .inl f)), (b, .inl (E.2.1 1, 96, .inl g2))] ∧ (am n r f g2 = aBlind (am n r f gg) bl)))) 0 0 := by
  refine ct_of rfl rfl ?_
  intro X C hT hin hro
  show WW X 7 E 0 [(0, .ref h), (1, .int bl)] [] [(h, .inr (4, [.int (nI n), .int (nI r), .ref a, .ref b])), (a, .inl (E.2.1 1, 24, .inl f)), (b, .inl (E.2.1 1, 96, .inl gg))] 0 0
  refine ww_iconst (v := 0) C dX4_blindfold_0 rfl ?_
  refine ww_istore_n (lv' := [(2, .int 0), (0, .ref h), (1, .int bl)]) C dX4_blindfold_1 rfl rfl rfl ?_
  refine ww_iconst (v := 0) C dX4_blindfold_2 rfl ?_
  refine ww_istore_n (lv' := [(3, .int 0), (2, .int 0), (0, .ref h), (1, .int bl)]) C dX4_blindfold_3 rfl rfl rfl ?_
  have loop_4 : ∀ (fu : Nat) (i1 : Nat) (ac : Nat) (g1 : Nat → Int32), (i1 ≤ 4) → (BLR n f bl i1 0 g1) → (ac = sumN (fun k => sumN (fun u => cRow n f (ow bl k) u) n) i1) → 4 - i1 < fu → WW X 7 E 4 [(3, .int (nI i1)), (2, .int (nI ac)), (0, .ref h), (1, .int bl)] [] [(h, .inr (4, [.int (nI n), .int (nI r), .ref a, .ref b])), (a, .inl (E.2.1 1, 24, .inl f)), (b, .inl (E.2.1 1, 96, .inl g1))] 0 0 := by
    intro fu
    induction fu with
    | zero => intro i1 ac g1 hi1 hbl1 hac1 hmeas; exact absurd hmeas (Nat.not_lt_zero _)
    | succ fu ih_4 =>
      intro i1 ac g1 hi1 hbl1 hac1 hmeas
      refine ww_iload_n C dX4_blindfold_4 0 rfl rfl ?_
      refine ww_iconst (v := 4) C dX4_blindfold_5 rfl ?_
      refine ww_icmp_ge (tgt := 75) C dX4_blindfold_6 (by decide) (fun c_1 => ?_) (fun c_1 => ?_)
      · have zc_1 : ((i1 : Nat) : Int) ≥ 4 := i_le rfl (nI_toInt (n := i1) (by omega)) c_1
        refine ww_iload_n C dX4_blindfold_75 1 rfl rfl ?_
        exact ww_iret (u := [(h, .inr (4, [.int (nI n), .int (nI r), .ref a, .ref b])), (a, .inl (E.2.1 1, 24, .inl f)), (b, .inl (E.2.1 1, 96, .inl g1))]) C hT [0, 1, 2] rfl rfl rfl rfl dX4_blindfold_76 (⟨g1, (by rw [hac1, show i1 = 4 by omega]; rfl), rfl, (am_blind hn hbl1 (by omega))⟩)
      · have zc_1 : ((i1 : Nat) : Int) < 4 := i_nle rfl (nI_toInt (n := i1) (by omega)) c_1
        refine ww_iload_n C dX4_blindfold_9 3 rfl rfl ?_
        refine ww_iconst (v := 4) C dX4_blindfold_10 rfl ?_
        refine ww_iload_n C dX4_blindfold_11 0 rfl rfl ?_
        refine ww_imul (v := (nI (4 * i1))) C dX4_blindfold_12 (pk_mul 4 i1) ?_
        obtain ⟨x_2, ex_2⟩ : ∃ z : Int32, bl >>> ((nI (4 * i1)) &&& 31) = z := ⟨_, rfl⟩
        refine ww_ishr (v := x_2) C dX4_blindfold_13 ex_2 ?_
        refine ww_bipush (v := 15) C dX4_blindfold_14 rfl ?_
        obtain ⟨x_3, ex_3⟩ : ∃ z : Int32, x_2 &&& (15 : Int32) = z := ⟨_, rfl⟩
        refine ww_iand (v := x_3) C dX4_blindfold_16 ex_3 ?_
        refine ww_istore (lv' := [(4, .int x_3), (3, .int (nI i1)), (2, .int (nI ac)), (0, .ref h), (1, .int bl)]) C dX4_blindfold_17 rfl rfl ?_
        refine ww_iconst (v := 0) C dX4_blindfold_19 rfl ?_
        refine ww_istore (lv' := [(5, .int 0), (4, .int x_3), (3, .int (nI i1)), (2, .int (nI ac)), (0, .ref h), (1, .int bl)]) C dX4_blindfold_20 rfl rfl ?_
        have how : x_3 = ow bl i1 := by unfold ow; rw [ex_2, ex_3]
        have loop_22 : ∀ (fu : Nat) (i2 : Nat) (ac2 : Nat) (g3 : Nat → Int32), (i2 ≤ n) → (BLR n f bl i1 i2 g3) → (ac2 = sumN (fun k => sumN (fun u => cRow n f (ow bl k) u) n) i1 + sumN (fun u => cRow n f (ow bl i1) u) i2) → n - i2 < fu → WW X 7 E 22 [(5, .int (nI i2)), (4, .int x_3), (3, .int (nI i1)), (2, .int (nI ac2)), (0, .ref h), (1, .int bl)] [] [(h, .inr (4, [.int (nI n), .int (nI r), .ref a, .ref b])), (a, .inl (E.2.1 1, 24, .inl f)), (b, .inl (E.2.1 1, 96, .inl g3))] 0 0 := by
          intro fu
          induction fu with
          | zero => intro i2 ac2 g3 hi2 hbl2 hac2 hmeas; exact absurd hmeas (Nat.not_lt_zero _)
          | succ fu ih_22 =>
            intro i2 ac2 g3 hi2 hbl2 hac2 hmeas
            refine ww_iload C dX4_blindfold_22 0 rfl ?_
            refine ww_aload_n C dX4_blindfold_24 4 rfl rfl ?_
            refine ww_get C fg_X4_18 0 rfl rfl dX4_blindfold_25 ?_
            refine ww_icmp_ge (tgt := 69) C dX4_blindfold_28 (by decide) (fun c_4 => ?_) (fun c_4 => ?_)
            · have zc_4 : ((i2 : Nat) : Int) ≥ ((n : Nat) : Int) := i_le (nI_toInt (n := n) (by omega)) (nI_toInt (n := i2) (by omega)) c_4
              refine ww_iinc (j := 2) (v := (nI (i1 + 1))) (lv' := [(3, .int (nI (i1 + 1))), (5, .int (nI i2)), (4, .int x_3), (2, .int (nI ac2)), (0, .ref h), (1, .int bl)]) C dX4_blindfold_69 rfl (nI_add i1 1) rfl rfl ?_
              refine ww_goto (tgt := 4) C dX4_blindfold_72 (by decide) ?_
              exact ww_lv [0, 3, 4, 5] rfl (ww_sub [0, 1, 2] rfl rfl (ih_4 (i1 + 1) ac2 g3 (by omega) (BLR.up hbl2 (by omega)) (by rw [hac2, show i2 = n by omega]; rfl) (by omega)))
            · have zc_4 : ((i2 : Nat) : Int) < ((n : Nat) : Int) := i_nle (nI_toInt (n := n) (by omega)) (nI_toInt (n := i2) (by omega)) c_4
              refine ww_aload_n C dX4_blindfold_31 4 rfl rfl ?_
              refine ww_iload C dX4_blindfold_32 1 rfl ?_
              refine ww_iload C dX4_blindfold_34 0 rfl ?_
              refine ww_ci (wr := []) (k' := 0) (n' := 0) C (run_V (As := [.int x_3, .int (nI i2)]) (rest := []) C (m_alikeBut X.2.1 E ro h x_3 i2 n r a b f g3 (by omega) (by omega) (by omega)) mi_X4_alikeBut wl_X4_29 rfl 0 4 rfl rfl rfl rfl rfl dX4_blindfold_36) (roK hro) [0, 1, 2] [] rfl rfl rfl rfl (fun r_5 uz hw => ?_)
              refine an1 hw ?_
              clear hw
              intro he_7 hw
              have h_6 := hw
              clear hw
              subst he_7
              refine ww_eq (ws' := [(h, .inr (4, [.int (nI n), .int (nI r), .ref a, .ref b])), (a, .inl (E.2.1 1, 24, .inl f)), (b, .inl (E.2.1 1, 96, .inl g3))]) ?_ rfl rfl rfl
              refine ww_istore (lv' := [(6, .int r_5), (5, .int (nI i2)), (4, .int x_3), (3, .int (nI i1)), (2, .int (nI ac2)), (0, .ref h), (1, .int bl)]) C dX4_blindfold_39 rfl rfl ?_
              refine ww_aload_n C dX4_blindfold_41 5 rfl rfl ?_
              refine ww_get C fg_X4_15 0 rfl rfl dX4_blindfold_42 ?_
              refine ww_iload_n C dX4_blindfold_45 3 rfl rfl ?_
              refine ww_bipush (v := 24) C dX4_blindfold_46 rfl ?_
              refine ww_imul (v := (nI (i1 * 24))) C dX4_blindfold_48 (pk_mul i1 24) ?_
              refine ww_iload C dX4_blindfold_49 1 rfl ?_
              refine ww_iadd (v := (nI ((i1 * 24) + i2))) C dX4_blindfold_51 (nI_add (i1 * 24) i2) ?_
              refine ww_iload C dX4_blindfold_52 0 rfl ?_
              obtain ⟨f_8, ef_8⟩ : ∃ z : Nat → Int32, upd g3 ((i1 * 24) + i2) r_5 = z := ⟨_, rfl⟩
              refine ww_iast (ws' := [(h, .inr (4, [.int (nI n), .int (nI r), .ref a, .ref b])), (a, .inl (E.2.1 1, 24, .inl f)), (b, .inl (E.2.1 1, 96, .inl f_8))]) C 2 rfl (vp_in_nI (by omega) (by omega)) (ldn2 (by omega) ef_8) rfl dX4_blindfold_54 ?_
              refine ww_iload_n C dX4_blindfold_55 4 rfl rfl ?_
              refine ww_iload C dX4_blindfold_56 0 rfl ?_
              refine ww_ci (wr := [(h, .inr (4, [.int (nI n), .int (nI r), .ref a, .ref b])), (a, .inl (E.2.1 1, 24, .inl f)), (b, .inl (E.2.1 1, 96, .inl f_8))]) (k' := 0) (n' := 0) C (run_S (As := [.int r_5]) (rest := [.int (nI ac2)]) C (c_bitCount X.2.1 E ro r_5) ms_J6_bitCount_0f7a4 wl_X4_32 rfl rfl rfl rfl dX4_blindfold_58) (roK hro) [] [0, 1, 2] rfl rfl rfl rfl (fun r_9 uz hw => ?_)
              refine an1 hw ?_
              clear hw
              intro he_10 hw
              have he_11 := hw
              clear hw
              have he_10 := he_10.symm
              subst he_10
              subst he_11
              refine ww_eq (ws' := [(h, .inr (4, [.int (nI n), .int (nI r), .ref a, .ref b])), (a, .inl (E.2.1 1, 24, .inl f)), (b, .inl (E.2.1 1, 96, .inl f_8))]) ?_ rfl rfl rfl
              refine ww_iadd (v := (nI (ac2 + cb (bt r_5) 32))) C dX4_blindfold_61 (by rw [bcf_bt, nI_add]) ?_
              refine ww_istore_n (lv' := [(2, .int (nI (ac2 + cb (bt r_5) 32))), (6, .int r_5), (5, .int (nI i2)), (4, .int x_3), (3, .int (nI i1)), (0, .ref h), (1, .int bl)]) C dX4_blindfold_62 rfl rfl rfl ?_
              refine ww_iinc (j := 2) (v := (nI (i2 + 1))) (lv' := [(5, .int (nI (i2 + 1))), (2, .int (nI (ac2 + cb (bt r_5) 32))), (6, .int r_5), (4, .int x_3), (3, .int (nI i1)), (0, .ref h), (1, .int bl)]) C dX4_blindfold_63 rfl (nI_add i2 1) rfl rfl ?_
              refine ww_goto (tgt := 22) C dX4_blindfold_66 (by decide) ?_
              exact ww_lv [0, 3, 4, 1, 5, 6] rfl (ww_sub [0, 1, 2] rfl rfl (ih_22 (i2 + 1) (ac2 + cb (bt r_5) 32) f_8 (by omega) (BLR.ext hbl2 (by omega) (by omega) (how ▸ h_6) ef_8) (bl_c hac2 (how ▸ h_6)) (by omega)))
        exact ww_lv [0, 1, 2, 3, 4, 5] rfl (ww_sub [0, 1, 2] rfl rfl (loop_22 _ 0 ac g1 (by omega) hbl1 hac1 (Nat.lt_succ_self _)))
  exact ww_lv [0, 1, 2, 3] rfl (ww_sub [0, 1, 2] rfl rfl (loop_4 _ 0 0 gg (by omega) BLR.nil rfl (Nat.lt_succ_self _)))
theorem dX4_lost_0 : decode cX4_lost 0 = .ok (.iconst 0, 1) := dl_3 (by decide +kernel)
theorem dX4_lost_1 : decode cX4_lost 1 = .ok (.istore_n 2, 1) := dl_61 (by decide +kernel)
theorem dX4_lost_2 : decode cX4_lost 2 = .ok (.iconst 0, 1) := dl_3 (by decide +kernel)
theorem dX4_lost_3 : decode cX4_lost 3 = .ok (.istore_n 3, 1) := dl_62 (by decide +kernel)
theorem dX4_lost_4 : decode cX4_lost 4 = .ok (.iload_n 3, 1) := dl_29 (by decide +kernel)
theorem dX4_lost_5 : decode cX4_lost 5 = .ok (.iconst 4, 1) := dl_7 (by decide +kernel)
theorem dX4_lost_6 : decode cX4_lost 6 = .ok (.if_icmp .ge 24, 3) := dl_162 (by decide +kernel)
theorem dX4_lost_30 : decode cX4_lost 30 = .ok (.iload_n 2, 1) := dl_28 (by decide +kernel)
theorem dX4_lost_31 : decode cX4_lost 31 = .ok (.ireturn, 1) := dl_172 (by decide +kernel)
theorem dX4_lost_9 : decode cX4_lost 9 = .ok (.aload_n 0, 1) := dl_42 (by decide +kernel)
theorem dX4_lost_10 : decode cX4_lost 10 = .ok (.iload_n 3, 1) := dl_29 (by decide +kernel)
theorem dX4_lost_11 : decode cX4_lost 11 = .ok (.iload_n 1, 1) := dl_27 (by decide +kernel)
theorem dX4_lost_12 : decode cX4_lost 12 = .ok (.invokevirtual 25, 3) := dl_182 (by decide +kernel)
theorem dX4_lost_15 : decode cX4_lost 15 = .ok (.ifCond .ne 9, 3) := dl_154 (by decide +kernel)
theorem dX4_lost_24 : decode cX4_lost 24 = .ok (.iinc 3 1, 3) := dl_132 (by decide +kernel)
theorem dX4_lost_27 : decode cX4_lost 27 = .ok (.goto (-23), 3) := dl_167 (by decide +kernel)
theorem dX4_lost_18 : decode cX4_lost 18 = .ok (.iload_n 2, 1) := dl_28 (by decide +kernel)
theorem dX4_lost_19 : decode cX4_lost 19 = .ok (.iconst 1, 1) := dl_4 (by decide +kernel)
theorem dX4_lost_20 : decode cX4_lost 20 = .ok (.iload_n 3, 1) := dl_29 (by decide +kernel)
theorem dX4_lost_21 : decode cX4_lost 21 = .ok (.ishl, 1) := dl_120 (by decide +kernel)
theorem dX4_lost_22 : decode cX4_lost 22 = .ok (.ior, 1) := dl_128 (by decide +kernel)
theorem dX4_lost_23 : decode cX4_lost 23 = .ok (.istore_n 2, 1) := dl_61 (by decide +kernel)
set_option maxRecDepth 100000 in
set_option maxHeartbeats 4000000 in
theorem m_lost (l : Launch) (E : EV) (ro : va_W) (h : Nat) (w : Nat) (n : Nat) (r : Nat) (a : Nat) (b : Nat) (f : Nat → Int32) (gg : Nat → Int32) (hw : w < 24) : CT l yX4_lost (Cond.code yX4_lost cX4_lost 4 (some .int) :: TB) ({ frames := 1, cells := 0, slots := 0, locals := 22 }) E ro [.ref h, .int (nI w)] [(h, .inr (4, [.int (nI n), .int (nI r), .ref a, .ref b])), (a, .inl (E.2.1 1, 24, .inl f)), (b, .inl (E.2.1 1, 96, .inl gg))] (Qi E (fun (rz : Int32) uz => (uz = [(h, .inr (4, [.int (nI n), .int (nI r), .ref a, .ref b])), (a, .inl (E.2.1 1, 24, .inl f)), (b, .inl (E.2.1 1, 96, .inl gg))] ∧ (BS rz (fun k => decide (k < 4) && decide (gg (k * 24 + w) = 0)))))) 0 0 := by
  refine ct_of rfl rfl ?_
  intro X C hT hin hro
  show WW X 4 E 0 [(0, .ref h), (1, .int (nI w))] [] [(h, .inr (4, [.int (nI n), .int (nI r), .ref a, .ref b])), (a, .inl (E.2.1 1, 24, .inl f)), (b, .inl (E.2.1 1, 96, .inl gg))] 0 0
  refine ww_iconst (v := 0) C dX4_lost_0 rfl ?_
  refine ww_istore_n (lv' := [(2, .int 0), (0, .ref h), (1, .int (nI w))]) C dX4_lost_1 rfl rfl rfl ?_
  refine ww_iconst (v := 0) C dX4_lost_2 rfl ?_
  refine ww_istore_n (lv' := [(3, .int 0), (2, .int 0), (0, .ref h), (1, .int (nI w))]) C dX4_lost_3 rfl rfl rfl ?_
  have loop_4 : ∀ (fu : Nat) (i1 : Nat) (ac : Int32), (i1 ≤ 4) → (AC ac no_ i1 (fun k => decide (gg (k * 24 + w) = 0))) → 4 - i1 < fu → WW X 4 E 4 [(3, .int (nI i1)), (2, .int ac), (0, .ref h), (1, .int (nI w))] [] [(h, .inr (4, [.int (nI n), .int (nI r), .ref a, .ref b])), (a, .inl (E.2.1 1, 24, .inl f)), (b, .inl (E.2.1 1, 96, .inl gg))] 0 0 := by
    intro fu
    induction fu with
    | zero => intro i1 ac hi1 hac hmeas; exact absurd hmeas (Nat.not_lt_zero _)
    | succ fu ih_4 =>
      intro i1 ac hi1 hac hmeas
      refine ww_iload_n C dX4_lost_4 0 rfl rfl ?_
      refine ww_iconst (v := 4) C dX4_lost_5 rfl ?_
      refine ww_icmp_ge (tgt := 30) C dX4_lost_6 (by decide) (fun c_1 => ?_) (fun c_1 => ?_)
      · have zc_1 : ((i1 : Nat) : Int) ≥ 4 := i_le rfl (nI_toInt (n := i1) (by omega)) c_1
        refine ww_iload_n C dX4_lost_30 1 rfl rfl ?_
        exact ww_iret (u := [(h, .inr (4, [.int (nI n), .int (nI r), .ref a, .ref b])), (a, .inl (E.2.1 1, 24, .inl f)), (b, .inl (E.2.1 1, 96, .inl gg))]) C hT [0, 1, 2] rfl rfl rfl rfl dX4_lost_31 (⟨rfl, (AC.fin hac (by omega))⟩)
      · have zc_1 : ((i1 : Nat) : Int) < 4 := i_nle rfl (nI_toInt (n := i1) (by omega)) c_1
        refine ww_aload_n C dX4_lost_9 2 rfl rfl ?_
        refine ww_iload_n C dX4_lost_10 0 rfl rfl ?_
        refine ww_iload_n C dX4_lost_11 3 rfl rfl ?_
        refine ww_ci (wr := []) (k' := 0) (n' := 0) C (run_V (As := [.int (nI i1), .int (nI w)]) (rest := []) C (m_held X.2.1 E ro h i1 w n r a b f gg (by omega) (by omega)) mi_X4_held wl_X4_25 rfl 0 4 rfl rfl rfl rfl rfl dX4_lost_12) (roK hro) [0, 1, 2] [] rfl rfl rfl rfl (fun r_2 uz hw => ?_)
        refine an1 hw ?_
        clear hw
        intro he_3 hw
        have he_4 := hw
        clear hw
        have he_3 := he_3.symm
        subst he_3
        subst he_4
        refine ww_eq (ws' := [(h, .inr (4, [.int (nI n), .int (nI r), .ref a, .ref b])), (a, .inl (E.2.1 1, 24, .inl f)), (b, .inl (E.2.1 1, 96, .inl gg))]) ?_ rfl rfl rfl
        refine ww_if_ne (tgt := 24) C dX4_lost_15 (by decide) (fun c_5 => ?_) (fun c_5 => ?_)
        · have zc_5 : (gg (i1 * 24 + w)).toInt ≠ 0 := i_ne rfl rfl c_5
          refine ww_iinc (j := 0) (v := (nI (i1 + 1))) (lv' := [(3, .int (nI (i1 + 1))), (2, .int ac), (0, .ref h), (1, .int (nI w))]) C dX4_lost_24 rfl (nI_add i1 1) rfl rfl ?_
          refine ww_goto (tgt := 4) C dX4_lost_27 (by decide) ?_
          exact ww_lv [0, 1, 2, 3] rfl (ww_sub [0, 1, 2] rfl rfl (ih_4 (i1 + 1) ac (by omega) (AC.f hac (decide_eq_false (i_nz zc_5))) (by omega)))
        · have zc_5 : (gg (i1 * 24 + w)).toInt = 0 := i_eq rfl rfl c_5
          refine ww_iload_n C dX4_lost_18 1 rfl rfl ?_
          refine ww_iconst (v := 1) C dX4_lost_19 rfl ?_
          refine ww_iload_n C dX4_lost_20 0 rfl rfl ?_
          obtain ⟨x_6, ex_6⟩ : ∃ z : Int32, (1 : Int32) <<< ((nI i1) &&& 31) = z := ⟨_, rfl⟩
          refine ww_ishl (v := x_6) C dX4_lost_21 ex_6 ?_
          obtain ⟨x_7, ex_7⟩ : ∃ z : Int32, ac ||| x_6 = z := ⟨_, rfl⟩
          refine ww_ior (v := x_7) C dX4_lost_22 ex_7 ?_
          refine ww_istore_n (lv' := [(2, .int x_7), (3, .int (nI i1)), (0, .ref h), (1, .int (nI w))]) C dX4_lost_23 rfl rfl rfl ?_
          refine ww_iinc (j := 1) (v := (nI (i1 + 1))) (lv' := [(3, .int (nI (i1 + 1))), (2, .int x_7), (0, .ref h), (1, .int (nI w))]) C dX4_lost_24 rfl (nI_add i1 1) rfl rfl ?_
          refine ww_goto (tgt := 4) C dX4_lost_27 (by decide) ?_
          exact ww_lv [0, 1, 2, 3] rfl (ww_sub [0, 1, 2] rfl rfl (ih_4 (i1 + 1) x_7 (by omega) (AC.t hac (by omega) (decide_eq_true (i_z zc_5)) ex_7 ex_6) (by omega)))
  exact ww_lv [0, 1, 2, 3] rfl (ww_sub [0, 1, 2] rfl rfl (loop_4 _ 0 0 (by omega) AC.nil (Nat.lt_succ_self _)))
theorem am_cpy {n r : Nat} {f g f0 g0 f3 g3 : Nat → Int32} (hn : n ≤ 24) (e1 : va_cpy f f0 0 0 24 = f3) (e2 : va_cpy g g0 0 0 96 = g3) : am n r f3 g3 = am n r f g := by
  refine am_eq (fun w hw => ?_) (fun k w hk hw => ?_)
  · rw [← e1]; unfold va_cpy; rw [if_pos (by omega)]; congr 1; omega
  · rw [← e2]; unfold va_cpy; rw [if_pos (by omega)]; congr 1; omega
theorem dX4_become_0 : decode cX4_become 0 = .ok (.aload_n 0, 1) := dl_42 (by decide +kernel)
theorem dX4_become_1 : decode cX4_become 1 = .ok (.aload_n 1, 1) := dl_43 (by decide +kernel)
theorem dX4_become_2 : decode cX4_become 2 = .ok (.getfield 18, 3) := dl_180 (by decide +kernel)
theorem dX4_become_5 : decode cX4_become 5 = .ok (.putfield 18, 3) := dl_181 (by decide +kernel)
theorem dX4_become_8 : decode cX4_become 8 = .ok (.aload_n 0, 1) := dl_42 (by decide +kernel)
theorem dX4_become_9 : decode cX4_become 9 = .ok (.aload_n 1, 1) := dl_43 (by decide +kernel)
theorem dX4_become_10 : decode cX4_become 10 = .ok (.getfield 22, 3) := dl_180 (by decide +kernel)
theorem fg_X4_22 : FG RX4 22 4 1 := ⟨RX4, TX4, 4, uw_X4, wf_X4_22, rfl, by decide, rfl⟩
theorem dX4_become_13 : decode cX4_become 13 = .ok (.putfield 22, 3) := dl_181 (by decide +kernel)
theorem dX4_become_16 : decode cX4_become 16 = .ok (.aload_n 1, 1) := dl_43 (by decide +kernel)
theorem dX4_become_17 : decode cX4_become 17 = .ok (.getfield 9, 3) := dl_180 (by decide +kernel)
theorem dX4_become_20 : decode cX4_become 20 = .ok (.iconst 0, 1) := dl_3 (by decide +kernel)
theorem dX4_become_21 : decode cX4_become 21 = .ok (.aload_n 0, 1) := dl_42 (by decide +kernel)
theorem dX4_become_22 : decode cX4_become 22 = .ok (.getfield 9, 3) := dl_180 (by decide +kernel)
theorem dX4_become_25 : decode cX4_become 25 = .ok (.iconst 0, 1) := dl_3 (by decide +kernel)
theorem dX4_become_26 : decode cX4_become 26 = .ok (.bipush 24, 2) := dl_16 (by decide +kernel)
theorem dX4_become_28 : decode cX4_become 28 = .ok (.invokestatic 38, 3) := dl_184 (by decide +kernel)
theorem wl_X4_38 : Cond.methodLink RX4 38 arraycopyName ∈ TB := tbm (tq2 (List.mem_of_getElem? (i := 157) (by decide +kernel))) (by decide +kernel)
theorem wn_ac : Cond.native arraycopyName ∈ TB := tbm (tq2 (List.mem_of_getElem? (i := 159) (by decide +kernel))) (by decide +kernel)
theorem wt_ac : Cond.static arraycopyName ∈ TB := tbm (tq2 (List.mem_of_getElem? (i := 158) (by decide +kernel))) (by decide +kernel)
theorem wn_Sys : Cond.initialized "java/lang/System" ∈ TB := tbm (tq1 (List.mem_of_getElem? (i := 13) (by decide +kernel))) (by decide +kernel)
theorem dX4_become_31 : decode cX4_become 31 = .ok (.aload_n 1, 1) := dl_43 (by decide +kernel)
theorem dX4_become_32 : decode cX4_become 32 = .ok (.getfield 15, 3) := dl_180 (by decide +kernel)
theorem dX4_become_35 : decode cX4_become 35 = .ok (.iconst 0, 1) := dl_3 (by decide +kernel)
theorem dX4_become_36 : decode cX4_become 36 = .ok (.aload_n 0, 1) := dl_42 (by decide +kernel)
theorem dX4_become_37 : decode cX4_become 37 = .ok (.getfield 15, 3) := dl_180 (by decide +kernel)
theorem dX4_become_40 : decode cX4_become 40 = .ok (.iconst 0, 1) := dl_3 (by decide +kernel)
theorem dX4_become_41 : decode cX4_become 41 = .ok (.bipush 96, 2) := dl_16 (by decide +kernel)
theorem dX4_become_43 : decode cX4_become 43 = .ok (.invokestatic 38, 3) := dl_184 (by decide +kernel)
theorem dX4_become_46 : decode cX4_become 46 = .ok (.return_, 1) := dl_177 (by decide +kernel)
set_option maxRecDepth 100000 in
set_option maxHeartbeats 4000000 in
theorem m_become (l : Launch) (E : EV) (ro : va_W) (h : Nat) (o : Nat) (n : Nat) (r : Nat) (a : Nat) (b : Nat) (f : Nat → Int32) (gg : Nat → Int32) (n2 : Nat) (r2 : Nat) (c : Nat) (d : Nat) (f2 : Nat → Int32) (g2 : Nat → Int32) (hn2 : n2 ≤ 24) : CT l yX4_become (Cond.code yX4_become cX4_become 2 none :: TB) ({ frames := 1, cells := 0, slots := 0, locals := 64 }) E ro [.ref h, .ref o] [(h, .inr (4, [.int (nI n), .int (nI r), .ref a, .ref b])), (a, .inl (E.2.1 1, 24, .inl f)), (b, .inl (E.2.1 1, 96, .inl gg)), (o, .inr (4, [.int (nI n2), .int (nI r2), .ref c, .ref d])), (c, .inl (E.2.1 1, 24, .inl f2)), (d, .inl (E.2.1 1, 96, .inl g2))] (Qv E (fun uz => (∃ (f3 : Nat → Int32) (g3 : Nat → Int32), uz = [(h, .inr (4, [.int (nI n2), .int (nI r2), .ref a, .ref b])), (a, .inl (E.2.1 1, 24, .inl f3)), (b, .inl (E.2.1 1, 96, .inl g3)), (o, .inr (4, [.int (nI n2), .int (nI r2), .ref c, .ref d])), (c, .inl (E.2.1 1, 24, .inl f2)), (d, .inl (E.2.1 1, 96, .inl g2))] ∧ (am n2 r2 f3 g3 = am n2 r2 f2 g2)))) 0 0 := by
  refine ct_of rfl rfl ?_
  intro X C hT hin hro
  show WW X 2 E 0 [(0, .ref h), (1, .ref o)] [] [(h, .inr (4, [.int (nI n), .int (nI r), .ref a, .ref b])), (a, .inl (E.2.1 1, 24, .inl f)), (b, .inl (E.2.1 1, 96, .inl gg)), (o, .inr (4, [.int (nI n2), .int (nI r2), .ref c, .ref d])), (c, .inl (E.2.1 1, 24, .inl f2)), (d, .inl (E.2.1 1, 96, .inl g2))] 0 0
  refine ww_aload_n C dX4_become_0 0 rfl rfl ?_
  refine ww_aload_n C dX4_become_1 1 rfl rfl ?_
  refine ww_get C fg_X4_18 3 rfl rfl dX4_become_2 ?_
  refine ww_put (ws' := [(h, .inr (4, [.int (nI n2), .int (nI r), .ref a, .ref b])), (a, .inl (E.2.1 1, 24, .inl f)), (b, .inl (E.2.1 1, 96, .inl gg)), (o, .inr (4, [.int (nI n2), .int (nI r2), .ref c, .ref d])), (c, .inl (E.2.1 1, 24, .inl f2)), (d, .inl (E.2.1 1, 96, .inl g2))]) C fp_X4_18 0 rfl rfl rfl rfl rfl dX4_become_5 ?_
  refine ww_aload_n C dX4_become_8 0 rfl rfl ?_
  refine ww_aload_n C dX4_become_9 1 rfl rfl ?_
  refine ww_get C fg_X4_22 3 rfl rfl dX4_become_10 ?_
  refine ww_put (ws' := [(h, .inr (4, [.int (nI n2), .int (nI r2), .ref a, .ref b])), (a, .inl (E.2.1 1, 24, .inl f)), (b, .inl (E.2.1 1, 96, .inl gg)), (o, .inr (4, [.int (nI n2), .int (nI r2), .ref c, .ref d])), (c, .inl (E.2.1 1, 24, .inl f2)), (d, .inl (E.2.1 1, 96, .inl g2))]) C fp_X4_22 0 rfl rfl rfl rfl rfl dX4_become_13 ?_
  refine ww_aload_n C dX4_become_16 1 rfl rfl ?_
  refine ww_get C fg_X4_9 3 rfl rfl dX4_become_17 ?_
  refine ww_iconst (v := 0) C dX4_become_20 rfl ?_
  refine ww_aload_n C dX4_become_21 0 rfl rfl ?_
  refine ww_get C fg_X4_9 0 rfl rfl dX4_become_22 ?_
  refine ww_iconst (v := 0) C dX4_become_25 rfl ?_
  refine ww_bipush (v := 24) C dX4_become_26 rfl ?_
  obtain ⟨f_1, ef_1⟩ : ∃ z : Nat → Int32, va_cpy f2 f 0 0 24 = z := ⟨_, rfl⟩
  refine ww_copyi (ws' := [(h, .inr (4, [.int (nI n2), .int (nI r2), .ref a, .ref b])), (a, .inl (E.2.1 1, 24, .inl f_1)), (b, .inl (E.2.1 1, 96, .inl gg)), (o, .inr (4, [.int (nI n2), .int (nI r2), .ref c, .ref d])), (c, .inl (E.2.1 1, 24, .inl f2)), (d, .inl (E.2.1 1, 96, .inl g2))]) C wl_X4_38 wn_ac wt_ac wn_Sys 4 1 rfl rfl (by decide) (by decide) (by decide) (by decide) (by decide) rfl ef_1 rfl dX4_become_28 ?_
  refine ww_aload_n C dX4_become_31 1 rfl rfl ?_
  refine ww_get C fg_X4_15 3 rfl rfl dX4_become_32 ?_
  refine ww_iconst (v := 0) C dX4_become_35 rfl ?_
  refine ww_aload_n C dX4_become_36 0 rfl rfl ?_
  refine ww_get C fg_X4_15 0 rfl rfl dX4_become_37 ?_
  refine ww_iconst (v := 0) C dX4_become_40 rfl ?_
  refine ww_bipush (v := 96) C dX4_become_41 rfl ?_
  obtain ⟨f_2, ef_2⟩ : ∃ z : Nat → Int32, va_cpy g2 gg 0 0 96 = z := ⟨_, rfl⟩
  refine ww_copyi (ws' := [(h, .inr (4, [.int (nI n2), .int (nI r2), .ref a, .ref b])), (a, .inl (E.2.1 1, 24, .inl f_1)), (b, .inl (E.2.1 1, 96, .inl f_2)), (o, .inr (4, [.int (nI n2), .int (nI r2), .ref c, .ref d])), (c, .inl (E.2.1 1, 24, .inl f2)), (d, .inl (E.2.1 1, 96, .inl g2))]) C wl_X4_38 wn_ac wt_ac wn_Sys 5 2 rfl rfl (by decide) (by decide) (by decide) (by decide) (by decide) rfl ef_2 rfl dX4_become_43 ?_
  exact ww_vret (u := [(h, .inr (4, [.int (nI n2), .int (nI r2), .ref a, .ref b])), (a, .inl (E.2.1 1, 24, .inl f_1)), (b, .inl (E.2.1 1, 96, .inl f_2)), (o, .inr (4, [.int (nI n2), .int (nI r2), .ref c, .ref d])), (c, .inl (E.2.1 1, 24, .inl f2)), (d, .inl (E.2.1 1, 96, .inl g2))]) C hT [0, 1, 2, 3, 4, 5] rfl rfl rfl rfl dX4_become_46 (⟨f_1, f_2, rfl, (am_cpy hn2 ef_1 ef_2)⟩)
theorem vF_bs {n r : Nat} {f g : Nat → Int32} {x y : Int32} (h : BS y (fun w => decide (w < n) && decide (¬ (f w &&& x = 0)))) : BS y (vF (am n r f g) x) := h.cg (fun w _ => by
  show _ = (decide (w < n) && decide (¬ ((am n r f g).2.2.1 w &&& x = 0)))
  by_cases q : w < n
  · rw [am_F q]
  · rw [decide_eq_false q, Bool.false_and, Bool.false_and])
theorem dX4_withFact_0 : decode cX4_withFact 0 = .ok (.iconst 0, 1) := dl_3 (by decide +kernel)
theorem dX4_withFact_1 : decode cX4_withFact 1 = .ok (.istore_n 2, 1) := dl_61 (by decide +kernel)
theorem dX4_withFact_2 : decode cX4_withFact 2 = .ok (.iconst 0, 1) := dl_3 (by decide +kernel)
theorem dX4_withFact_3 : decode cX4_withFact 3 = .ok (.istore_n 3, 1) := dl_62 (by decide +kernel)
theorem dX4_withFact_4 : decode cX4_withFact 4 = .ok (.iload_n 3, 1) := dl_29 (by decide +kernel)
theorem dX4_withFact_5 : decode cX4_withFact 5 = .ok (.aload_n 0, 1) := dl_42 (by decide +kernel)
theorem dX4_withFact_6 : decode cX4_withFact 6 = .ok (.getfield 18, 3) := dl_180 (by decide +kernel)
theorem dX4_withFact_9 : decode cX4_withFact 9 = .ok (.if_icmp .ge 26, 3) := dl_162 (by decide +kernel)
theorem dX4_withFact_35 : decode cX4_withFact 35 = .ok (.iload_n 2, 1) := dl_28 (by decide +kernel)
theorem dX4_withFact_36 : decode cX4_withFact 36 = .ok (.ireturn, 1) := dl_172 (by decide +kernel)
theorem dX4_withFact_12 : decode cX4_withFact 12 = .ok (.aload_n 0, 1) := dl_42 (by decide +kernel)
theorem dX4_withFact_13 : decode cX4_withFact 13 = .ok (.getfield 9, 3) := dl_180 (by decide +kernel)
theorem dX4_withFact_16 : decode cX4_withFact 16 = .ok (.iload_n 3, 1) := dl_29 (by decide +kernel)
theorem dX4_withFact_17 : decode cX4_withFact 17 = .ok (.iaload, 1) := dl_46 (by decide +kernel)
theorem dX4_withFact_18 : decode cX4_withFact 18 = .ok (.iload_n 1, 1) := dl_27 (by decide +kernel)
theorem dX4_withFact_19 : decode cX4_withFact 19 = .ok (.iand, 1) := dl_126 (by decide +kernel)
theorem dX4_withFact_20 : decode cX4_withFact 20 = .ok (.ifCond .eq 9, 3) := dl_153 (by decide +kernel)
theorem dX4_withFact_29 : decode cX4_withFact 29 = .ok (.iinc 3 1, 3) := dl_132 (by decide +kernel)
theorem dX4_withFact_32 : decode cX4_withFact 32 = .ok (.goto (-28), 3) := dl_167 (by decide +kernel)
theorem dX4_withFact_23 : decode cX4_withFact 23 = .ok (.iload_n 2, 1) := dl_28 (by decide +kernel)
theorem dX4_withFact_24 : decode cX4_withFact 24 = .ok (.iconst 1, 1) := dl_4 (by decide +kernel)
theorem dX4_withFact_25 : decode cX4_withFact 25 = .ok (.iload_n 3, 1) := dl_29 (by decide +kernel)
theorem dX4_withFact_26 : decode cX4_withFact 26 = .ok (.ishl, 1) := dl_120 (by decide +kernel)
theorem dX4_withFact_27 : decode cX4_withFact 27 = .ok (.ior, 1) := dl_128 (by decide +kernel)
theorem dX4_withFact_28 : decode cX4_withFact 28 = .ok (.istore_n 2, 1) := dl_61 (by decide +kernel)
set_option maxRecDepth 100000 in
set_option maxHeartbeats 4000000 in
theorem m_withFact (l : Launch) (E : EV) (ro : va_W) (h : Nat) (x : Int32) (n : Nat) (r : Nat) (a : Nat) (b : Nat) (f : Nat → Int32) (gg : Nat → Int32) (hn : n ≤ 24) (hr : r < n ∨ r = 0) : CT l yX4_withFact (Cond.code yX4_withFact cX4_withFact 4 (some .int) :: TB) ({ frames := 0, cells := 0, slots := 0, locals := 0 }) E ro [.ref h, .int x] [(h, .inr (4, [.int (nI n), .int (nI r), .ref a, .ref b])), (a, .inl (E.2.1 1, 24, .inl f)), (b, .inl (E.2.1 1, 96, .inl gg))] (Qi E (fun (rz : Int32) uz => (uz = [(h, .inr (4, [.int (nI n), .int (nI r), .ref a, .ref b])), (a, .inl (E.2.1 1, 24, .inl f)), (b, .inl (E.2.1 1, 96, .inl gg))] ∧ (BS rz (vF (am n r f gg) x))))) 0 0 := by
  refine ct_of rfl rfl ?_
  intro X C hT hin hro
  show WW X 4 E 0 [(0, .ref h), (1, .int x)] [] [(h, .inr (4, [.int (nI n), .int (nI r), .ref a, .ref b])), (a, .inl (E.2.1 1, 24, .inl f)), (b, .inl (E.2.1 1, 96, .inl gg))] 0 0
  refine ww_iconst (v := 0) C dX4_withFact_0 rfl ?_
  refine ww_istore_n (lv' := [(2, .int 0), (0, .ref h), (1, .int x)]) C dX4_withFact_1 rfl rfl rfl ?_
  refine ww_iconst (v := 0) C dX4_withFact_2 rfl ?_
  refine ww_istore_n (lv' := [(3, .int 0), (2, .int 0), (0, .ref h), (1, .int x)]) C dX4_withFact_3 rfl rfl rfl ?_
  have loop_4 : ∀ (fu : Nat) (i1 : Nat) (ac : Int32), (i1 ≤ n) → (AC ac no_ i1 (fun w => decide (¬ (f w &&& x = 0)))) → n - i1 < fu → WW X 4 E 4 [(3, .int (nI i1)), (2, .int ac), (0, .ref h), (1, .int x)] [] [(h, .inr (4, [.int (nI n), .int (nI r), .ref a, .ref b])), (a, .inl (E.2.1 1, 24, .inl f)), (b, .inl (E.2.1 1, 96, .inl gg))] 0 0 := by
    intro fu
    induction fu with
    | zero => intro i1 ac hi1 hac hmeas; exact absurd hmeas (Nat.not_lt_zero _)
    | succ fu ih_4 =>
      intro i1 ac hi1 hac hmeas
      refine ww_iload_n C dX4_withFact_4 0 rfl rfl ?_
      refine ww_aload_n C dX4_withFact_5 2 rfl rfl ?_
      refine ww_get C fg_X4_18 0 rfl rfl dX4_withFact_6 ?_
      refine ww_icmp_ge (tgt := 35) C dX4_withFact_9 (by decide) (fun c_1 => ?_) (fun c_1 => ?_)
      · have zc_1 : ((i1 : Nat) : Int) ≥ ((n : Nat) : Int) := i_le (nI_toInt (n := n) (by omega)) (nI_toInt (n := i1) (by omega)) c_1
        refine ww_iload_n C dX4_withFact_35 1 rfl rfl ?_
        exact ww_iret (u := [(h, .inr (4, [.int (nI n), .int (nI r), .ref a, .ref b])), (a, .inl (E.2.1 1, 24, .inl f)), (b, .inl (E.2.1 1, 96, .inl gg))]) C hT [0, 1, 2] rfl rfl rfl rfl dX4_withFact_36 (⟨rfl, (vF_bs (AC.fin hac (by omega)))⟩)
      · have zc_1 : ((i1 : Nat) : Int) < ((n : Nat) : Int) := i_nle (nI_toInt (n := n) (by omega)) (nI_toInt (n := i1) (by omega)) c_1
        refine ww_aload_n C dX4_withFact_12 2 rfl rfl ?_
        refine ww_get C fg_X4_9 0 rfl rfl dX4_withFact_13 ?_
        refine ww_iload_n C dX4_withFact_16 0 rfl rfl ?_
        obtain ⟨x_2, ex_2⟩ : ∃ z : Int32, f i1 = z := ⟨_, rfl⟩
        refine ww_iald (v := x_2) C 1 rfl (vp_in_nI (by omega) (by omega)) (ldn (by omega) ex_2) dX4_withFact_17 ?_
        refine ww_iload_n C dX4_withFact_18 3 rfl rfl ?_
        obtain ⟨x_3, ex_3⟩ : ∃ z : Int32, x_2 &&& x = z := ⟨_, rfl⟩
        refine ww_iand (v := x_3) C dX4_withFact_19 ex_3 ?_
        refine ww_if_eq (tgt := 29) C dX4_withFact_20 (by decide) (fun c_4 => ?_) (fun c_4 => ?_)
        · have zc_4 : x_3.toInt = 0 := i_eq rfl rfl c_4
          refine ww_iinc (j := 0) (v := (nI (i1 + 1))) (lv' := [(3, .int (nI (i1 + 1))), (2, .int ac), (0, .ref h), (1, .int x)]) C dX4_withFact_29 rfl (nI_add i1 1) rfl rfl ?_
          refine ww_goto (tgt := 4) C dX4_withFact_32 (by decide) ?_
          exact ww_lv [0, 1, 2, 3] rfl (ww_sub [0, 1, 2] rfl rfl (ih_4 (i1 + 1) ac (by omega) (AC.f hac (decide_eq_false (fun h9 => h9 ((show f i1 &&& x = x_3 by rw [ex_2, ex_3]).trans (i_z zc_4))))) (by omega)))
        · have zc_4 : x_3.toInt ≠ 0 := i_ne rfl rfl c_4
          refine ww_iload_n C dX4_withFact_23 1 rfl rfl ?_
          refine ww_iconst (v := 1) C dX4_withFact_24 rfl ?_
          refine ww_iload_n C dX4_withFact_25 0 rfl rfl ?_
          obtain ⟨x_5, ex_5⟩ : ∃ z : Int32, (1 : Int32) <<< ((nI i1) &&& 31) = z := ⟨_, rfl⟩
          refine ww_ishl (v := x_5) C dX4_withFact_26 ex_5 ?_
          obtain ⟨x_6, ex_6⟩ : ∃ z : Int32, ac ||| x_5 = z := ⟨_, rfl⟩
          refine ww_ior (v := x_6) C dX4_withFact_27 ex_6 ?_
          refine ww_istore_n (lv' := [(2, .int x_6), (3, .int (nI i1)), (0, .ref h), (1, .int x)]) C dX4_withFact_28 rfl rfl rfl ?_
          refine ww_iinc (j := 1) (v := (nI (i1 + 1))) (lv' := [(3, .int (nI (i1 + 1))), (2, .int x_6), (0, .ref h), (1, .int x)]) C dX4_withFact_29 rfl (nI_add i1 1) rfl rfl ?_
          refine ww_goto (tgt := 4) C dX4_withFact_32 (by decide) ?_
          exact ww_lv [0, 1, 2, 3] rfl (ww_sub [0, 1, 2] rfl rfl (ih_4 (i1 + 1) x_6 (by omega) (AC.t hac (by omega) (decide_eq_true (fun h9 => zc_4 (by rw [← (show f i1 &&& x = x_3 by rw [ex_2, ex_3]), h9]; rfl))) ex_6 ex_5) (by omega)))
  exact ww_lv [0, 1, 2, 3] rfl (ww_sub [0, 1, 2] rfl rfl (loop_4 _ 0 0 (by omega) AC.nil (Nat.lt_succ_self _)))
theorem dX4_nextOf_0 : decode cX4_nextOf 0 = .ok (.iconst 0, 1) := dl_3 (by decide +kernel)
theorem dX4_nextOf_1 : decode cX4_nextOf 1 = .ok (.istore_n 3, 1) := dl_62 (by decide +kernel)
theorem dX4_nextOf_2 : decode cX4_nextOf 2 = .ok (.iconst 0, 1) := dl_3 (by decide +kernel)
theorem dX4_nextOf_3 : decode cX4_nextOf 3 = .ok (.istore 4, 2) := dl_54 (by decide +kernel)
theorem dX4_nextOf_5 : decode cX4_nextOf 5 = .ok (.iload 4, 2) := dl_21 (by decide +kernel)
theorem dX4_nextOf_7 : decode cX4_nextOf 7 = .ok (.iconst 4, 1) := dl_7 (by decide +kernel)
theorem dX4_nextOf_8 : decode cX4_nextOf 8 = .ok (.if_icmp .ge 33, 3) := dl_162 (by decide +kernel)
theorem dX4_nextOf_41 : decode cX4_nextOf 41 = .ok (.iload_n 3, 1) := dl_29 (by decide +kernel)
theorem dX4_nextOf_42 : decode cX4_nextOf 42 = .ok (.ireturn, 1) := dl_172 (by decide +kernel)
theorem dX4_nextOf_11 : decode cX4_nextOf 11 = .ok (.iload_n 1, 1) := dl_27 (by decide +kernel)
theorem dX4_nextOf_12 : decode cX4_nextOf 12 = .ok (.iload 4, 2) := dl_21 (by decide +kernel)
theorem dX4_nextOf_14 : decode cX4_nextOf 14 = .ok (.ishr, 1) := dl_122 (by decide +kernel)
theorem dX4_nextOf_15 : decode cX4_nextOf 15 = .ok (.iconst 1, 1) := dl_4 (by decide +kernel)
theorem dX4_nextOf_16 : decode cX4_nextOf 16 = .ok (.iand, 1) := dl_126 (by decide +kernel)
theorem dX4_nextOf_17 : decode cX4_nextOf 17 = .ok (.ifCond .eq 18, 3) := dl_153 (by decide +kernel)
theorem dX4_nextOf_35 : decode cX4_nextOf 35 = .ok (.iinc 4 1, 3) := dl_132 (by decide +kernel)
theorem dX4_nextOf_38 : decode cX4_nextOf 38 = .ok (.goto (-33), 3) := dl_167 (by decide +kernel)
theorem dX4_nextOf_20 : decode cX4_nextOf 20 = .ok (.iload_n 3, 1) := dl_29 (by decide +kernel)
theorem dX4_nextOf_21 : decode cX4_nextOf 21 = .ok (.aload_n 0, 1) := dl_42 (by decide +kernel)
theorem dX4_nextOf_22 : decode cX4_nextOf 22 = .ok (.getfield 15, 3) := dl_180 (by decide +kernel)
theorem dX4_nextOf_25 : decode cX4_nextOf 25 = .ok (.iload 4, 2) := dl_21 (by decide +kernel)
theorem dX4_nextOf_27 : decode cX4_nextOf 27 = .ok (.bipush 24, 2) := dl_16 (by decide +kernel)
theorem dX4_nextOf_29 : decode cX4_nextOf 29 = .ok (.imul, 1) := dl_104 (by decide +kernel)
theorem dX4_nextOf_30 : decode cX4_nextOf 30 = .ok (.iload_n 2, 1) := dl_28 (by decide +kernel)
theorem dX4_nextOf_31 : decode cX4_nextOf 31 = .ok (.iadd, 1) := dl_96 (by decide +kernel)
theorem dX4_nextOf_32 : decode cX4_nextOf 32 = .ok (.iaload, 1) := dl_46 (by decide +kernel)
theorem dX4_nextOf_33 : decode cX4_nextOf 33 = .ok (.ior, 1) := dl_128 (by decide +kernel)
theorem dX4_nextOf_34 : decode cX4_nextOf 34 = .ok (.istore_n 3, 1) := dl_62 (by decide +kernel)
set_option maxRecDepth 100000 in
set_option maxHeartbeats 4000000 in
theorem m_nextOf (l : Launch) (E : EV) (ro : va_W) (h : Nat) (gr : Int32) (w : Nat) (n : Nat) (r : Nat) (a : Nat) (b : Nat) (f : Nat → Int32) (gg : Nat → Int32) (hw : w < n) (hn : n ≤ 24) : CT l yX4_nextOf (Cond.code yX4_nextOf cX4_nextOf 5 (some .int) :: TB) ({ frames := 0, cells := 0, slots := 0, locals := 0 }) E ro [.ref h, .int gr, .int (nI w)] [(h, .inr (4, [.int (nI n), .int (nI r), .ref a, .ref b])), (a, .inl (E.2.1 1, 24, .inl f)), (b, .inl (E.2.1 1, 96, .inl gg))] (Qi E (fun (rz : Int32) uz => (uz = [(h, .inr (4, [.int (nI n), .int (nI r), .ref a, .ref b])), (a, .inl (E.2.1 1, 24, .inl f)), (b, .inl (E.2.1 1, 96, .inl gg))] ∧ (BS rz (nx (am n r f gg) gr w))))) 0 0 := by
  refine ct_of rfl rfl ?_
  intro X C hT hin hro
  show WW X 5 E 0 [(0, .ref h), (1, .int gr), (2, .int (nI w))] [] [(h, .inr (4, [.int (nI n), .int (nI r), .ref a, .ref b])), (a, .inl (E.2.1 1, 24, .inl f)), (b, .inl (E.2.1 1, 96, .inl gg))] 0 0
  refine ww_iconst (v := 0) C dX4_nextOf_0 rfl ?_
  refine ww_istore_n (lv' := [(3, .int 0), (0, .ref h), (1, .int gr), (2, .int (nI w))]) C dX4_nextOf_1 rfl rfl rfl ?_
  refine ww_iconst (v := 0) C dX4_nextOf_2 rfl ?_
  refine ww_istore (lv' := [(4, .int 0), (3, .int 0), (0, .ref h), (1, .int gr), (2, .int (nI w))]) C dX4_nextOf_3 rfl rfl ?_
  have loop_5 : ∀ (fu : Nat) (i1 : Nat) (ac : Int32), (i1 ≤ 4) → (NXr gr gg w i1 ac) → 4 - i1 < fu → WW X 5 E 5 [(4, .int (nI i1)), (3, .int ac), (0, .ref h), (1, .int gr), (2, .int (nI w))] [] [(h, .inr (4, [.int (nI n), .int (nI r), .ref a, .ref b])), (a, .inl (E.2.1 1, 24, .inl f)), (b, .inl (E.2.1 1, 96, .inl gg))] 0 0 := by
    intro fu
    induction fu with
    | zero => intro i1 ac hi1 hnx hmeas; exact absurd hmeas (Nat.not_lt_zero _)
    | succ fu ih_5 =>
      intro i1 ac hi1 hnx hmeas
      refine ww_iload C dX4_nextOf_5 0 rfl ?_
      refine ww_iconst (v := 4) C dX4_nextOf_7 rfl ?_
      refine ww_icmp_ge (tgt := 41) C dX4_nextOf_8 (by decide) (fun c_1 => ?_) (fun c_1 => ?_)
      · have zc_1 : ((i1 : Nat) : Int) ≥ 4 := i_le rfl (nI_toInt (n := i1) (by omega)) c_1
        refine ww_iload_n C dX4_nextOf_41 1 rfl rfl ?_
        exact ww_iret (u := [(h, .inr (4, [.int (nI n), .int (nI r), .ref a, .ref b])), (a, .inl (E.2.1 1, 24, .inl f)), (b, .inl (E.2.1 1, 96, .inl gg))]) C hT [0, 1, 2] rfl rfl rfl rfl dX4_nextOf_42 (⟨rfl, (nx_am hw (by have h9 : NXr gr gg w 4 ac := (by rw [show (4 : Nat) = i1 by omega]; exact hnx); exact h9))⟩)
      · have zc_1 : ((i1 : Nat) : Int) < 4 := i_nle rfl (nI_toInt (n := i1) (by omega)) c_1
        refine ww_iload_n C dX4_nextOf_11 3 rfl rfl ?_
        refine ww_iload C dX4_nextOf_12 0 rfl ?_
        obtain ⟨x_2, ex_2⟩ : ∃ z : Int32, gr >>> ((nI i1) &&& 31) = z := ⟨_, rfl⟩
        refine ww_ishr (v := x_2) C dX4_nextOf_14 ex_2 ?_
        refine ww_iconst (v := 1) C dX4_nextOf_15 rfl ?_
        obtain ⟨j_3, hj_3, ej_3⟩ := pk_andE x_2 (m := 1) 1 rfl
        refine ww_iand (v := (nI j_3)) C dX4_nextOf_16 ej_3 ?_
        refine ww_if_eq (tgt := 35) C dX4_nextOf_17 (by decide) (fun c_4 => ?_) (fun c_4 => ?_)
        · have zc_4 : ((j_3 : Nat) : Int) = 0 := i_eq (nI_toInt (n := j_3) (by omega)) rfl c_4
          refine ww_iinc (j := 0) (v := (nI (i1 + 1))) (lv' := [(4, .int (nI (i1 + 1))), (3, .int ac), (0, .ref h), (1, .int gr), (2, .int (nI w))]) C dX4_nextOf_35 rfl (nI_add i1 1) rfl rfl ?_
          refine ww_goto (tgt := 5) C dX4_nextOf_38 (by decide) ?_
          exact ww_lv [0, 1, 2, 3, 4] rfl (ww_sub [0, 1, 2] rfl rfl (ih_5 (i1 + 1) ac (by omega) (NXr.f hnx (hasb_0 (by omega) ex_2 ej_3 (by omega))) (by omega)))
        · have zc_4 : ((j_3 : Nat) : Int) ≠ 0 := i_ne (nI_toInt (n := j_3) (by omega)) rfl c_4
          refine ww_iload_n C dX4_nextOf_20 1 rfl rfl ?_
          refine ww_aload_n C dX4_nextOf_21 2 rfl rfl ?_
          refine ww_get C fg_X4_15 0 rfl rfl dX4_nextOf_22 ?_
          refine ww_iload C dX4_nextOf_25 0 rfl ?_
          refine ww_bipush (v := 24) C dX4_nextOf_27 rfl ?_
          refine ww_imul (v := (nI (i1 * 24))) C dX4_nextOf_29 (pk_mul i1 24) ?_
          refine ww_iload_n C dX4_nextOf_30 4 rfl rfl ?_
          refine ww_iadd (v := (nI ((i1 * 24) + w))) C dX4_nextOf_31 (nI_add (i1 * 24) w) ?_
          obtain ⟨x_5, ex_5⟩ : ∃ z : Int32, gg ((i1 * 24) + w) = z := ⟨_, rfl⟩
          refine ww_iald (v := x_5) C 2 rfl (vp_in_nI (by omega) (by omega)) (ldn (by omega) ex_5) dX4_nextOf_32 ?_
          obtain ⟨x_6, ex_6⟩ : ∃ z : Int32, ac ||| x_5 = z := ⟨_, rfl⟩
          refine ww_ior (v := x_6) C dX4_nextOf_33 ex_6 ?_
          refine ww_istore_n (lv' := [(3, .int x_6), (4, .int (nI i1)), (0, .ref h), (1, .int gr), (2, .int (nI w))]) C dX4_nextOf_34 rfl rfl rfl ?_
          refine ww_iinc (j := 1) (v := (nI (i1 + 1))) (lv' := [(4, .int (nI (i1 + 1))), (3, .int x_6), (0, .ref h), (1, .int gr), (2, .int (nI w))]) C dX4_nextOf_35 rfl (nI_add i1 1) rfl rfl ?_
          refine ww_goto (tgt := 5) C dX4_nextOf_38 (by decide) ?_
          exact ww_lv [0, 1, 2, 3, 4] rfl (ww_sub [0, 1, 2] rfl rfl (ih_5 (i1 + 1) x_6 (by omega) (NXr.t hnx (hasb_1 (by omega) ex_2 ej_3 (by omega)) ex_5 ex_6) (by omega)))
  exact ww_lv [0, 1, 2, 3, 4] rfl (ww_sub [0, 1, 2] rfl rfl (loop_5 _ 0 0 (by omega) NXr.nil (Nat.lt_succ_self _)))
theorem dX4_leadingTo_0 : decode cX4_leadingTo 0 = .ok (.iconst 0, 1) := dl_3 (by decide +kernel)
theorem dX4_leadingTo_1 : decode cX4_leadingTo 1 = .ok (.istore 4, 2) := dl_54 (by decide +kernel)
theorem dX4_leadingTo_3 : decode cX4_leadingTo 3 = .ok (.iconst 0, 1) := dl_3 (by decide +kernel)
theorem dX4_leadingTo_4 : decode cX4_leadingTo 4 = .ok (.istore 5, 2) := dl_54 (by decide +kernel)
theorem dX4_leadingTo_6 : decode cX4_leadingTo 6 = .ok (.iload 5, 2) := dl_21 (by decide +kernel)
theorem dX4_leadingTo_8 : decode cX4_leadingTo 8 = .ok (.iload_n 3, 1) := dl_29 (by decide +kernel)
theorem dX4_leadingTo_9 : decode cX4_leadingTo 9 = .ok (.if_icmp .ge 69, 3) := dl_162 (by decide +kernel)
theorem dX4_leadingTo_78 : decode cX4_leadingTo 78 = .ok (.iload 4, 2) := dl_21 (by decide +kernel)
theorem dX4_leadingTo_80 : decode cX4_leadingTo 80 = .ok (.ireturn, 1) := dl_172 (by decide +kernel)
theorem dX4_leadingTo_12 : decode cX4_leadingTo 12 = .ok (.iload 4, 2) := dl_21 (by decide +kernel)
theorem dX4_leadingTo_14 : decode cX4_leadingTo 14 = .ok (.istore 6, 2) := dl_54 (by decide +kernel)
theorem dX4_leadingTo_16 : decode cX4_leadingTo 16 = .ok (.iconst 0, 1) := dl_3 (by decide +kernel)
theorem dX4_leadingTo_17 : decode cX4_leadingTo 17 = .ok (.istore 7, 2) := dl_54 (by decide +kernel)
theorem dX4_leadingTo_19 : decode cX4_leadingTo 19 = .ok (.iload 7, 2) := dl_21 (by decide +kernel)
theorem dX4_leadingTo_21 : decode cX4_leadingTo 21 = .ok (.aload_n 0, 1) := dl_42 (by decide +kernel)
theorem dX4_leadingTo_22 : decode cX4_leadingTo 22 = .ok (.getfield 18, 3) := dl_180 (by decide +kernel)
theorem dX4_leadingTo_25 : decode cX4_leadingTo 25 = .ok (.if_icmp .ge 33, 3) := dl_162 (by decide +kernel)
theorem dX4_leadingTo_58 : decode cX4_leadingTo 58 = .ok (.iload 6, 2) := dl_21 (by decide +kernel)
theorem dX4_leadingTo_60 : decode cX4_leadingTo 60 = .ok (.iload 4, 2) := dl_21 (by decide +kernel)
theorem dX4_leadingTo_62 : decode cX4_leadingTo 62 = .ok (.if_icmp .ne 6, 3) := dl_160 (by decide +kernel)
theorem dX4_leadingTo_68 : decode cX4_leadingTo 68 = .ok (.iload 6, 2) := dl_21 (by decide +kernel)
theorem dX4_leadingTo_70 : decode cX4_leadingTo 70 = .ok (.istore 4, 2) := dl_54 (by decide +kernel)
theorem dX4_leadingTo_72 : decode cX4_leadingTo 72 = .ok (.iinc 5 1, 3) := dl_132 (by decide +kernel)
theorem dX4_leadingTo_75 : decode cX4_leadingTo 75 = .ok (.goto (-69), 3) := dl_167 (by decide +kernel)
theorem dX4_leadingTo_65 : decode cX4_leadingTo 65 = .ok (.goto 13, 3) := dl_167 (by decide +kernel)
theorem dX4_leadingTo_28 : decode cX4_leadingTo 28 = .ok (.aload_n 0, 1) := dl_42 (by decide +kernel)
theorem dX4_leadingTo_29 : decode cX4_leadingTo 29 = .ok (.iload_n 1, 1) := dl_27 (by decide +kernel)
theorem dX4_leadingTo_30 : decode cX4_leadingTo 30 = .ok (.iload 7, 2) := dl_21 (by decide +kernel)
theorem dX4_leadingTo_32 : decode cX4_leadingTo 32 = .ok (.invokevirtual 44, 3) := dl_182 (by decide +kernel)
theorem wl_X4_44 : Cond.methodLink RX4 44 yX4_nextOf ∈ TB := tbm (tq2 (List.mem_of_getElem? (i := 223) (by decide +kernel))) (by decide +kernel)
theorem wc_X4_nextOf : Cond.code yX4_nextOf cX4_nextOf 5 (some .int) ∈ TB := tbm (tq2 (List.mem_of_getElem? (i := 226) (rfl))) (by decide +kernel)
theorem wi_X4_nextOf : Cond.instanceMethod yX4_nextOf ∈ TB := tbm (tq2 (List.mem_of_getElem? (i := 225) (by decide +kernel))) (by decide +kernel)
theorem ws_X4_nextOf : Cond.selects RX4 yX4_nextOf yX4_nextOf ∈ TB := tbm (tq0 (List.mem_of_getElem? (i := 2) (by decide +kernel))) (by decide +kernel)
theorem mi_X4_nextOf : MI yX4_nextOf cX4_nextOf 5 (some .int) 2 := ⟨wc_X4_nextOf, wn_X4, ⟨by decide +kernel, by decide +kernel, by decide +kernel⟩, wi_X4_nextOf, ws_X4_nextOf⟩
theorem dX4_leadingTo_35 : decode cX4_leadingTo 35 = .ok (.iload_n 2, 1) := dl_28 (by decide +kernel)
theorem dX4_leadingTo_36 : decode cX4_leadingTo 36 = .ok (.iload 4, 2) := dl_21 (by decide +kernel)
theorem dX4_leadingTo_38 : decode cX4_leadingTo 38 = .ok (.ior, 1) := dl_128 (by decide +kernel)
theorem dX4_leadingTo_39 : decode cX4_leadingTo 39 = .ok (.iand, 1) := dl_126 (by decide +kernel)
theorem dX4_leadingTo_40 : decode cX4_leadingTo 40 = .ok (.ifCond .eq 12, 3) := dl_153 (by decide +kernel)
theorem dX4_leadingTo_52 : decode cX4_leadingTo 52 = .ok (.iinc 7 1, 3) := dl_132 (by decide +kernel)
theorem dX4_leadingTo_55 : decode cX4_leadingTo 55 = .ok (.goto (-36), 3) := dl_167 (by decide +kernel)
theorem dX4_leadingTo_43 : decode cX4_leadingTo 43 = .ok (.iload 6, 2) := dl_21 (by decide +kernel)
theorem dX4_leadingTo_45 : decode cX4_leadingTo 45 = .ok (.iconst 1, 1) := dl_4 (by decide +kernel)
theorem dX4_leadingTo_46 : decode cX4_leadingTo 46 = .ok (.iload 7, 2) := dl_21 (by decide +kernel)
theorem dX4_leadingTo_48 : decode cX4_leadingTo 48 = .ok (.ishl, 1) := dl_120 (by decide +kernel)
theorem dX4_leadingTo_49 : decode cX4_leadingTo 49 = .ok (.ior, 1) := dl_128 (by decide +kernel)
theorem dX4_leadingTo_50 : decode cX4_leadingTo 50 = .ok (.istore 6, 2) := dl_54 (by decide +kernel)
set_option maxRecDepth 100000 in
set_option maxHeartbeats 4000000 in
theorem m_leadingTo (l : Launch) (E : EV) (ro : va_W) (h : Nat) (gr : Int32) (wd : Int32) (st : Nat) (n : Nat) (r : Nat) (a : Nat) (b : Nat) (f : Nat → Int32) (gg : Nat → Int32) (hn : n ≤ 24) (hr : r < n ∨ r = 0) (hst : st ≤ 24) : CT l yX4_leadingTo (Cond.code yX4_leadingTo cX4_leadingTo 8 (some .int) :: TB) ({ frames := 1, cells := 0, slots := 0, locals := 24 }) E ro [.ref h, .int gr, .int wd, .int (nI st)] [(h, .inr (4, [.int (nI n), .int (nI r), .ref a, .ref b])), (a, .inl (E.2.1 1, 24, .inl f)), (b, .inl (E.2.1 1, 96, .inl gg))] (Qi E (fun (rz : Int32) uz => (uz = [(h, .inr (4, [.int (nI n), .int (nI r), .ref a, .ref b])), (a, .inl (E.2.1 1, 24, .inl f)), (b, .inl (E.2.1 1, 96, .inl gg))] ∧ (BS rz (ld (am n r f gg) gr (bt wd) st))))) 0 0 := by
  refine ct_of rfl rfl ?_
  intro X C hT hin hro
  show WW X 8 E 0 [(0, .ref h), (1, .int gr), (2, .int wd), (3, .int (nI st))] [] [(h, .inr (4, [.int (nI n), .int (nI r), .ref a, .ref b])), (a, .inl (E.2.1 1, 24, .inl f)), (b, .inl (E.2.1 1, 96, .inl gg))] 0 0
  refine ww_iconst (v := 0) C dX4_leadingTo_0 rfl ?_
  refine ww_istore (lv' := [(4, .int 0), (0, .ref h), (1, .int gr), (2, .int wd), (3, .int (nI st))]) C dX4_leadingTo_1 rfl rfl ?_
  refine ww_iconst (v := 0) C dX4_leadingTo_3 rfl ?_
  refine ww_istore (lv' := [(5, .int 0), (4, .int 0), (0, .ref h), (1, .int gr), (2, .int wd), (3, .int (nI st))]) C dX4_leadingTo_4 rfl rfl ?_
  have loop_6 : ∀ (fu : Nat) (i1 : Nat) (ac : Int32), (i1 ≤ st) → (BS ac (ld (am n r f gg) gr (bt wd) i1)) → st - i1 < fu → WW X 8 E 6 [(5, .int (nI i1)), (4, .int ac), (0, .ref h), (1, .int gr), (2, .int wd), (3, .int (nI st))] [] [(h, .inr (4, [.int (nI n), .int (nI r), .ref a, .ref b])), (a, .inl (E.2.1 1, 24, .inl f)), (b, .inl (E.2.1 1, 96, .inl gg))] 0 0 := by
    intro fu
    induction fu with
    | zero => intro i1 ac hi1 hld hmeas; exact absurd hmeas (Nat.not_lt_zero _)
    | succ fu ih_6 =>
      intro i1 ac hi1 hld hmeas
      refine ww_iload C dX4_leadingTo_6 0 rfl ?_
      refine ww_iload_n C dX4_leadingTo_8 5 rfl rfl ?_
      refine ww_icmp_ge (tgt := 78) C dX4_leadingTo_9 (by decide) (fun c_1 => ?_) (fun c_1 => ?_)
      · have zc_1 : ((i1 : Nat) : Int) ≥ ((st : Nat) : Int) := i_le (nI_toInt (n := st) (by omega)) (nI_toInt (n := i1) (by omega)) c_1
        refine ww_iload C dX4_leadingTo_78 1 rfl ?_
        exact ww_iret (u := [(h, .inr (4, [.int (nI n), .int (nI r), .ref a, .ref b])), (a, .inl (E.2.1 1, 24, .inl f)), (b, .inl (E.2.1 1, 96, .inl gg))]) C hT [0, 1, 2] rfl rfl rfl rfl dX4_leadingTo_80 (⟨rfl, (by rw [show st = i1 by omega]; exact hld)⟩)
      · have zc_1 : ((i1 : Nat) : Int) < ((st : Nat) : Int) := i_nle (nI_toInt (n := st) (by omega)) (nI_toInt (n := i1) (by omega)) c_1
        refine ww_iload C dX4_leadingTo_12 1 rfl ?_
        refine ww_istore (lv' := [(6, .int ac), (5, .int (nI i1)), (4, .int ac), (0, .ref h), (1, .int gr), (2, .int wd), (3, .int (nI st))]) C dX4_leadingTo_14 rfl rfl ?_
        refine ww_iconst (v := 0) C dX4_leadingTo_16 rfl ?_
        refine ww_istore (lv' := [(7, .int 0), (6, .int ac), (5, .int (nI i1)), (4, .int ac), (0, .ref h), (1, .int gr), (2, .int wd), (3, .int (nI st))]) C dX4_leadingTo_17 rfl rfl ?_
        have loop_19 : ∀ (fu : Nat) (i2 : Nat) (ac2 : Int32), (i2 ≤ n) → (AC ac2 (ld (am n r f gg) gr (bt wd) i1) i2 (fun w => anyN (fun v => nx (am n r f gg) gr w v && (bt wd v || ld (am n r f gg) gr (bt wd) i1 v)) 32)) → n - i2 < fu → WW X 8 E 19 [(7, .int (nI i2)), (6, .int ac2), (5, .int (nI i1)), (4, .int ac), (0, .ref h), (1, .int gr), (2, .int wd), (3, .int (nI st))] [] [(h, .inr (4, [.int (nI n), .int (nI r), .ref a, .ref b])), (a, .inl (E.2.1 1, 24, .inl f)), (b, .inl (E.2.1 1, 96, .inl gg))] 0 0 := by
          intro fu
          induction fu with
          | zero => intro i2 ac2 hi2 hac hmeas; exact absurd hmeas (Nat.not_lt_zero _)
          | succ fu ih_19 =>
            intro i2 ac2 hi2 hac hmeas
            refine ww_iload C dX4_leadingTo_19 0 rfl ?_
            refine ww_aload_n C dX4_leadingTo_21 4 rfl rfl ?_
            refine ww_get C fg_X4_18 0 rfl rfl dX4_leadingTo_22 ?_
            refine ww_icmp_ge (tgt := 58) C dX4_leadingTo_25 (by decide) (fun c_2 => ?_) (fun c_2 => ?_)
            · have zc_2 : ((i2 : Nat) : Int) ≥ ((n : Nat) : Int) := i_le (nI_toInt (n := n) (by omega)) (nI_toInt (n := i2) (by omega)) c_2
              refine ww_iload C dX4_leadingTo_58 1 rfl ?_
              refine ww_iload C dX4_leadingTo_60 3 rfl ?_
              refine ww_icmp_ne (tgt := 68) C dX4_leadingTo_62 (by decide) (fun c_3 => ?_) (fun c_3 => ?_)
              · have zc_3 : ac2.toInt ≠ ac.toInt := i_ne rfl rfl c_3
                refine ww_iload C dX4_leadingTo_68 1 rfl ?_
                refine ww_istore (lv' := [(4, .int ac2), (7, .int (nI i2)), (6, .int ac2), (5, .int (nI i1)), (0, .ref h), (1, .int gr), (2, .int wd), (3, .int (nI st))]) C dX4_leadingTo_70 rfl rfl ?_
                refine ww_iinc (j := 3) (v := (nI (i1 + 1))) (lv' := [(5, .int (nI (i1 + 1))), (4, .int ac2), (7, .int (nI i2)), (6, .int ac2), (0, .ref h), (1, .int gr), (2, .int wd), (3, .int (nI st))]) C dX4_leadingTo_72 rfl (nI_add i1 1) rfl rfl ?_
                refine ww_goto (tgt := 6) C dX4_leadingTo_75 (by decide) ?_
                exact ww_lv [0, 1, 4, 5, 6, 7] rfl (ww_sub [0, 1, 2] rfl rfl (ih_6 (i1 + 1) ac2 (by omega) (AC.end (n := n) hac (by omega)) (by omega)))
              · have zc_3 : ac2.toInt = ac.toInt := i_eq rfl rfl c_3
                refine ww_goto (tgt := 78) C dX4_leadingTo_65 (by decide) ?_
                refine ww_iload C dX4_leadingTo_78 3 rfl ?_
                exact ww_iret (u := [(h, .inr (4, [.int (nI n), .int (nI r), .ref a, .ref b])), (a, .inl (E.2.1 1, 24, .inl f)), (b, .inl (E.2.1 1, 96, .inl gg))]) C hT [0, 1, 2] rfl rfl rfl rfl dX4_leadingTo_80 (⟨rfl, (ld_end hld (by rw [← (show ac2 = ac from Int32.toInt_inj.mp zc_3)]; exact AC.end (n := n) hac (by omega)) (by omega))⟩)
            · have zc_2 : ((i2 : Nat) : Int) < ((n : Nat) : Int) := i_nle (nI_toInt (n := n) (by omega)) (nI_toInt (n := i2) (by omega)) c_2
              refine ww_aload_n C dX4_leadingTo_28 4 rfl rfl ?_
              refine ww_iload_n C dX4_leadingTo_29 5 rfl rfl ?_
              refine ww_iload C dX4_leadingTo_30 0 rfl ?_
              refine ww_ci (wr := []) (k' := 0) (n' := 0) C (run_V (As := [.int gr, .int (nI i2)]) (rest := []) C (m_nextOf X.2.1 E ro h gr i2 n r a b f gg (by omega) (by omega)) mi_X4_nextOf wl_X4_44 rfl 0 4 rfl rfl rfl rfl rfl dX4_leadingTo_32) (roK hro) [0, 1, 2] [] rfl rfl rfl rfl (fun r_4 uz hw => ?_)
              refine an1 hw ?_
              clear hw
              intro he_6 hw
              have h_5 := hw
              clear hw
              subst he_6
              refine ww_eq (ws' := [(h, .inr (4, [.int (nI n), .int (nI r), .ref a, .ref b])), (a, .inl (E.2.1 1, 24, .inl f)), (b, .inl (E.2.1 1, 96, .inl gg))]) ?_ rfl rfl rfl
              refine ww_iload_n C dX4_leadingTo_35 6 rfl rfl ?_
              refine ww_iload C dX4_leadingTo_36 3 rfl ?_
              obtain ⟨x_7, ex_7⟩ : ∃ z : Int32, wd ||| ac = z := ⟨_, rfl⟩
              refine ww_ior (v := x_7) C dX4_leadingTo_38 ex_7 ?_
              obtain ⟨x_8, ex_8⟩ : ∃ z : Int32, r_4 &&& x_7 = z := ⟨_, rfl⟩
              refine ww_iand (v := x_8) C dX4_leadingTo_39 ex_8 ?_
              refine ww_if_eq (tgt := 52) C dX4_leadingTo_40 (by decide) (fun c_9 => ?_) (fun c_9 => ?_)
              · have zc_9 : x_8.toInt = 0 := i_eq rfl rfl c_9
                refine ww_iinc (j := 0) (v := (nI (i2 + 1))) (lv' := [(7, .int (nI (i2 + 1))), (6, .int ac2), (5, .int (nI i1)), (4, .int ac), (0, .ref h), (1, .int gr), (2, .int wd), (3, .int (nI st))]) C dX4_leadingTo_52 rfl (nI_add i2 1) rfl rfl ?_
                refine ww_goto (tgt := 19) C dX4_leadingTo_55 (by decide) ?_
                exact ww_lv [0, 1, 2, 3, 4, 5, 6, 7] rfl (ww_sub [0, 1, 2] rfl rfl (ih_19 (i2 + 1) ac2 (by omega) (AC.f hac (BS.iz (BS.and h_5 (BS.or (BS.refl wd) hld ex_7) ex_8) (i_z zc_9))) (by omega)))
              · have zc_9 : x_8.toInt ≠ 0 := i_ne rfl rfl c_9
                refine ww_iload C dX4_leadingTo_43 1 rfl ?_
                refine ww_iconst (v := 1) C dX4_leadingTo_45 rfl ?_
                refine ww_iload C dX4_leadingTo_46 0 rfl ?_
                obtain ⟨x_10, ex_10⟩ : ∃ z : Int32, (1 : Int32) <<< ((nI i2) &&& 31) = z := ⟨_, rfl⟩
                refine ww_ishl (v := x_10) C dX4_leadingTo_48 ex_10 ?_
                obtain ⟨x_11, ex_11⟩ : ∃ z : Int32, ac2 ||| x_10 = z := ⟨_, rfl⟩
                refine ww_ior (v := x_11) C dX4_leadingTo_49 ex_11 ?_
                refine ww_istore (lv' := [(6, .int x_11), (7, .int (nI i2)), (5, .int (nI i1)), (4, .int ac), (0, .ref h), (1, .int gr), (2, .int wd), (3, .int (nI st))]) C dX4_leadingTo_50 rfl rfl ?_
                refine ww_iinc (j := 1) (v := (nI (i2 + 1))) (lv' := [(7, .int (nI (i2 + 1))), (6, .int x_11), (5, .int (nI i1)), (4, .int ac), (0, .ref h), (1, .int gr), (2, .int wd), (3, .int (nI st))]) C dX4_leadingTo_52 rfl (nI_add i2 1) rfl rfl ?_
                refine ww_goto (tgt := 19) C dX4_leadingTo_55 (by decide) ?_
                exact ww_lv [0, 1, 2, 3, 4, 5, 6, 7] rfl (ww_sub [0, 1, 2] rfl rfl (ih_19 (i2 + 1) x_11 (by omega) (AC.t hac (by omega) (BS.nz (BS.and h_5 (BS.or (BS.refl wd) hld ex_7) ex_8) (i_nz zc_9)) ex_11 ex_10) (by omega)))
        exact ww_lv [0, 1, 2, 3, 4, 5, 6, 7] rfl (ww_sub [0, 1, 2] rfl rfl (loop_19 _ 0 ac (by omega) (AC.st hld) (Nat.lt_succ_self _)))
  exact ww_lv [0, 1, 2, 3, 4, 5] rfl (ww_sub [0, 1, 2] rfl rfl (loop_6 _ 0 0 (by omega) BS.z (Nat.lt_succ_self _)))
theorem dX4_togetherWithin_0 : decode cX4_togetherWithin 0 = .ok (.iconst 0, 1) := dl_3 (by decide +kernel)
theorem dX4_togetherWithin_1 : decode cX4_togetherWithin 1 = .ok (.istore_n 3, 1) := dl_62 (by decide +kernel)
theorem dX4_togetherWithin_2 : decode cX4_togetherWithin 2 = .ok (.iconst 0, 1) := dl_3 (by decide +kernel)
theorem dX4_togetherWithin_3 : decode cX4_togetherWithin 3 = .ok (.istore 4, 2) := dl_54 (by decide +kernel)
theorem dX4_togetherWithin_5 : decode cX4_togetherWithin 5 = .ok (.iload 4, 2) := dl_21 (by decide +kernel)
theorem dX4_togetherWithin_7 : decode cX4_togetherWithin 7 = .ok (.aload_n 0, 1) := dl_42 (by decide +kernel)
theorem dX4_togetherWithin_8 : decode cX4_togetherWithin 8 = .ok (.getfield 18, 3) := dl_180 (by decide +kernel)
theorem dX4_togetherWithin_11 : decode cX4_togetherWithin 11 = .ok (.if_icmp .ge 73, 3) := dl_162 (by decide +kernel)
theorem dX4_togetherWithin_84 : decode cX4_togetherWithin 84 = .ok (.iload_n 3, 1) := dl_29 (by decide +kernel)
theorem dX4_togetherWithin_85 : decode cX4_togetherWithin 85 = .ok (.ireturn, 1) := dl_172 (by decide +kernel)
theorem dX4_togetherWithin_14 : decode cX4_togetherWithin 14 = .ok (.aload_n 0, 1) := dl_42 (by decide +kernel)
theorem dX4_togetherWithin_15 : decode cX4_togetherWithin 15 = .ok (.invokevirtual 47, 3) := dl_182 (by decide +kernel)
theorem wl_X4_47 : Cond.methodLink RX4 47 yX4_all ∈ TB := tbm (tq4 (List.mem_of_getElem? (i := 1) (by decide +kernel))) (by decide +kernel)
theorem wc_X4_all : Cond.code yX4_all cX4_all 1 (some .int) ∈ TB := tbm (tq3 (List.mem_of_getElem? (i := 222) (rfl))) (by decide +kernel)
theorem wi_X4_all : Cond.instanceMethod yX4_all ∈ TB := tbm (tq3 (List.mem_of_getElem? (i := 220) (by decide +kernel))) (by decide +kernel)
theorem ws_X4_all : Cond.selects RX4 yX4_all yX4_all ∈ TB := tbm (tq3 (List.mem_of_getElem? (i := 221) (by decide +kernel))) (by decide +kernel)
theorem mi_X4_all : MI yX4_all cX4_all 1 (some .int) 0 := ⟨wc_X4_all, wn_X4, ⟨by decide +kernel, by decide +kernel, by decide +kernel⟩, wi_X4_all, ws_X4_all⟩
theorem dX4_togetherWithin_18 : decode cX4_togetherWithin 18 = .ok (.istore 5, 2) := dl_54 (by decide +kernel)
theorem dX4_togetherWithin_20 : decode cX4_togetherWithin 20 = .ok (.iconst 0, 1) := dl_3 (by decide +kernel)
theorem dX4_togetherWithin_21 : decode cX4_togetherWithin 21 = .ok (.istore 6, 2) := dl_54 (by decide +kernel)
theorem dX4_togetherWithin_23 : decode cX4_togetherWithin 23 = .ok (.iload 6, 2) := dl_21 (by decide +kernel)
theorem dX4_togetherWithin_25 : decode cX4_togetherWithin 25 = .ok (.iconst 4, 1) := dl_7 (by decide +kernel)
theorem dX4_togetherWithin_26 : decode cX4_togetherWithin 26 = .ok (.if_icmp .ge 36, 3) := dl_162 (by decide +kernel)
theorem dX4_togetherWithin_62 : decode cX4_togetherWithin 62 = .ok (.iload 5, 2) := dl_21 (by decide +kernel)
theorem dX4_togetherWithin_64 : decode cX4_togetherWithin 64 = .ok (.iload_n 2, 1) := dl_28 (by decide +kernel)
theorem dX4_togetherWithin_65 : decode cX4_togetherWithin 65 = .ok (.iconst (-1), 1) := dl_2 (by decide +kernel)
theorem dX4_togetherWithin_66 : decode cX4_togetherWithin 66 = .ok (.ixor, 1) := dl_130 (by decide +kernel)
theorem dX4_togetherWithin_67 : decode cX4_togetherWithin 67 = .ok (.iand, 1) := dl_126 (by decide +kernel)
theorem dX4_togetherWithin_68 : decode cX4_togetherWithin 68 = .ok (.ifCond .ne 10, 3) := dl_154 (by decide +kernel)
theorem dX4_togetherWithin_78 : decode cX4_togetherWithin 78 = .ok (.iinc 4 1, 3) := dl_132 (by decide +kernel)
theorem dX4_togetherWithin_81 : decode cX4_togetherWithin 81 = .ok (.goto (-76), 3) := dl_167 (by decide +kernel)
theorem dX4_togetherWithin_71 : decode cX4_togetherWithin 71 = .ok (.iload_n 3, 1) := dl_29 (by decide +kernel)
theorem dX4_togetherWithin_72 : decode cX4_togetherWithin 72 = .ok (.iconst 1, 1) := dl_4 (by decide +kernel)
theorem dX4_togetherWithin_73 : decode cX4_togetherWithin 73 = .ok (.iload 4, 2) := dl_21 (by decide +kernel)
theorem dX4_togetherWithin_75 : decode cX4_togetherWithin 75 = .ok (.ishl, 1) := dl_120 (by decide +kernel)
theorem dX4_togetherWithin_76 : decode cX4_togetherWithin 76 = .ok (.ior, 1) := dl_128 (by decide +kernel)
theorem dX4_togetherWithin_77 : decode cX4_togetherWithin 77 = .ok (.istore_n 3, 1) := dl_62 (by decide +kernel)
theorem dX4_togetherWithin_29 : decode cX4_togetherWithin 29 = .ok (.iload_n 1, 1) := dl_27 (by decide +kernel)
theorem dX4_togetherWithin_30 : decode cX4_togetherWithin 30 = .ok (.iload 6, 2) := dl_21 (by decide +kernel)
theorem dX4_togetherWithin_32 : decode cX4_togetherWithin 32 = .ok (.invokestatic 51, 3) := dl_184 (by decide +kernel)
theorem wc_X11_has : Cond.code yX11_has cX11_has 2 (some .boolean) ∈ TB := tbm (tq2 (List.mem_of_getElem? (i := 229) (rfl))) (by decide +kernel)
theorem wn_X11 : Cond.initialized RX11 ∈ TB := tbm (tq1 (List.mem_of_getElem? (i := 1) (by decide +kernel))) (by decide +kernel)
theorem wt_X11_has : Cond.static yX11_has ∈ TB := tbm (tq2 (List.mem_of_getElem? (i := 228) (by decide +kernel))) (by decide +kernel)
theorem ms_X11_has : MS yX11_has cX11_has 2 (some .boolean) 2 := ⟨wc_X11_has, wn_X11, ⟨by decide +kernel, by decide +kernel, by decide +kernel⟩, wt_X11_has⟩
theorem dX4_togetherWithin_35 : decode cX4_togetherWithin 35 = .ok (.ifCond .eq 21, 3) := dl_153 (by decide +kernel)
theorem dX4_togetherWithin_38 : decode cX4_togetherWithin 38 = .ok (.iload 5, 2) := dl_21 (by decide +kernel)
theorem dX4_togetherWithin_40 : decode cX4_togetherWithin 40 = .ok (.aload_n 0, 1) := dl_42 (by decide +kernel)
theorem dX4_togetherWithin_41 : decode cX4_togetherWithin 41 = .ok (.getfield 15, 3) := dl_180 (by decide +kernel)
theorem dX4_togetherWithin_44 : decode cX4_togetherWithin 44 = .ok (.iload 6, 2) := dl_21 (by decide +kernel)
theorem dX4_togetherWithin_46 : decode cX4_togetherWithin 46 = .ok (.bipush 24, 2) := dl_16 (by decide +kernel)
theorem dX4_togetherWithin_48 : decode cX4_togetherWithin 48 = .ok (.imul, 1) := dl_104 (by decide +kernel)
theorem dX4_togetherWithin_49 : decode cX4_togetherWithin 49 = .ok (.iload 4, 2) := dl_21 (by decide +kernel)
theorem dX4_togetherWithin_51 : decode cX4_togetherWithin 51 = .ok (.iadd, 1) := dl_96 (by decide +kernel)
theorem dX4_togetherWithin_52 : decode cX4_togetherWithin 52 = .ok (.iaload, 1) := dl_46 (by decide +kernel)
theorem dX4_togetherWithin_53 : decode cX4_togetherWithin 53 = .ok (.iand, 1) := dl_126 (by decide +kernel)
theorem dX4_togetherWithin_54 : decode cX4_togetherWithin 54 = .ok (.istore 5, 2) := dl_54 (by decide +kernel)
theorem dX4_togetherWithin_56 : decode cX4_togetherWithin 56 = .ok (.iinc 6 1, 3) := dl_132 (by decide +kernel)
theorem dX4_togetherWithin_59 : decode cX4_togetherWithin 59 = .ok (.goto (-36), 3) := dl_167 (by decide +kernel)
set_option maxRecDepth 100000 in
set_option maxHeartbeats 4000000 in
theorem m_togetherWithin (l : Launch) (E : EV) (ro : va_W) (h : Nat) (gr : Int32) (wd : Int32) (n : Nat) (r : Nat) (a : Nat) (b : Nat) (f : Nat → Int32) (gg : Nat → Int32) (hn : n ≤ 24) (hr : r < n ∨ r = 0) : CT l yX4_togetherWithin (Cond.code yX4_togetherWithin cX4_togetherWithin 7 (some .int) :: TB) ({ frames := 1, cells := 0, slots := 0, locals := 21 }) E ro [.ref h, .int gr, .int wd] [(h, .inr (4, [.int (nI n), .int (nI r), .ref a, .ref b])), (a, .inl (E.2.1 1, 24, .inl f)), (b, .inl (E.2.1 1, 96, .inl gg))] (Qi E (fun (rz : Int32) uz => (uz = [(h, .inr (4, [.int (nI n), .int (nI r), .ref a, .ref b])), (a, .inl (E.2.1 1, 24, .inl f)), (b, .inl (E.2.1 1, 96, .inl gg))] ∧ (BS rz (vTog (am n r f gg) gr (bt wd)))))) 0 0 := by
  refine ct_of rfl rfl ?_
  intro X C hT hin hro
  show WW X 7 E 0 [(0, .ref h), (1, .int gr), (2, .int wd)] [] [(h, .inr (4, [.int (nI n), .int (nI r), .ref a, .ref b])), (a, .inl (E.2.1 1, 24, .inl f)), (b, .inl (E.2.1 1, 96, .inl gg))] 0 0
  refine ww_iconst (v := 0) C dX4_togetherWithin_0 rfl ?_
  refine ww_istore_n (lv' := [(3, .int 0), (0, .ref h), (1, .int gr), (2, .int wd)]) C dX4_togetherWithin_1 rfl rfl rfl ?_
  refine ww_iconst (v := 0) C dX4_togetherWithin_2 rfl ?_
  refine ww_istore (lv' := [(4, .int 0), (3, .int 0), (0, .ref h), (1, .int gr), (2, .int wd)]) C dX4_togetherWithin_3 rfl rfl ?_
  have loop_5 : ∀ (fu : Nat) (i1 : Nat) (ac : Int32), (i1 ≤ n) → (AC ac no_ i1 (fun w => !anyN (fun v => shr (am n r f gg) gr w v && !bt wd v) 32)) → n - i1 < fu → WW X 7 E 5 [(4, .int (nI i1)), (3, .int ac), (0, .ref h), (1, .int gr), (2, .int wd)] [] [(h, .inr (4, [.int (nI n), .int (nI r), .ref a, .ref b])), (a, .inl (E.2.1 1, 24, .inl f)), (b, .inl (E.2.1 1, 96, .inl gg))] 0 0 := by
    intro fu
    induction fu with
    | zero => intro i1 ac hi1 hac hmeas; exact absurd hmeas (Nat.not_lt_zero _)
    | succ fu ih_5 =>
      intro i1 ac hi1 hac hmeas
      refine ww_iload C dX4_togetherWithin_5 0 rfl ?_
      refine ww_aload_n C dX4_togetherWithin_7 2 rfl rfl ?_
      refine ww_get C fg_X4_18 0 rfl rfl dX4_togetherWithin_8 ?_
      refine ww_icmp_ge (tgt := 84) C dX4_togetherWithin_11 (by decide) (fun c_1 => ?_) (fun c_1 => ?_)
      · have zc_1 : ((i1 : Nat) : Int) ≥ ((n : Nat) : Int) := i_le (nI_toInt (n := n) (by omega)) (nI_toInt (n := i1) (by omega)) c_1
        refine ww_iload_n C dX4_togetherWithin_84 1 rfl rfl ?_
        exact ww_iret (u := [(h, .inr (4, [.int (nI n), .int (nI r), .ref a, .ref b])), (a, .inl (E.2.1 1, 24, .inl f)), (b, .inl (E.2.1 1, 96, .inl gg))]) C hT [0, 1, 2] rfl rfl rfl rfl dX4_togetherWithin_85 (⟨rfl, (AC.fin (n := n) hac (by omega))⟩)
      · have zc_1 : ((i1 : Nat) : Int) < ((n : Nat) : Int) := i_nle (nI_toInt (n := n) (by omega)) (nI_toInt (n := i1) (by omega)) c_1
        refine ww_aload_n C dX4_togetherWithin_14 2 rfl rfl ?_
        refine ww_ci (wr := [(a, .inl (E.2.1 1, 24, .inl f)), (b, .inl (E.2.1 1, 96, .inl gg))]) (k' := 0) (n' := 0) C (run_V (As := []) (rest := []) C (m_all X.2.1 E ro h n r a b (by omega)) mi_X4_all wl_X4_47 rfl 0 4 rfl rfl rfl rfl rfl dX4_togetherWithin_15) (roK hro) [0] [1, 2] rfl rfl rfl rfl (fun r_2 uz hw => ?_)
        refine an1 hw ?_
        clear hw
        intro he_4 hw
        have h_3 := hw
        clear hw
        subst he_4
        refine ww_eq (ws' := [(a, .inl (E.2.1 1, 24, .inl f)), (b, .inl (E.2.1 1, 96, .inl gg)), (h, .inr (4, [.int (nI n), .int (nI r), .ref a, .ref b]))]) ?_ rfl rfl rfl
        refine ww_istore (lv' := [(5, .int r_2), (4, .int (nI i1)), (3, .int ac), (0, .ref h), (1, .int gr), (2, .int wd)]) C dX4_togetherWithin_18 rfl rfl ?_
        refine ww_iconst (v := 0) C dX4_togetherWithin_20 rfl ?_
        refine ww_istore (lv' := [(6, .int 0), (5, .int r_2), (4, .int (nI i1)), (3, .int ac), (0, .ref h), (1, .int gr), (2, .int wd)]) C dX4_togetherWithin_21 rfl rfl ?_
        have loop_23 : ∀ (fu : Nat) (i2 : Nat) (ac2 : Int32), (i2 ≤ 4) → (SHr n gr gg i1 i2 ac2) → 4 - i2 < fu → WW X 7 E 23 [(6, .int (nI i2)), (5, .int ac2), (4, .int (nI i1)), (3, .int ac), (0, .ref h), (1, .int gr), (2, .int wd)] [] [(a, .inl (E.2.1 1, 24, .inl f)), (b, .inl (E.2.1 1, 96, .inl gg)), (h, .inr (4, [.int (nI n), .int (nI r), .ref a, .ref b]))] 0 0 := by
          intro fu
          induction fu with
          | zero => intro i2 ac2 hi2 hsh hmeas; exact absurd hmeas (Nat.not_lt_zero _)
          | succ fu ih_23 =>
            intro i2 ac2 hi2 hsh hmeas
            refine ww_iload C dX4_togetherWithin_23 0 rfl ?_
            refine ww_iconst (v := 4) C dX4_togetherWithin_25 rfl ?_
            refine ww_icmp_ge (tgt := 62) C dX4_togetherWithin_26 (by decide) (fun c_5 => ?_) (fun c_5 => ?_)
            · have zc_5 : ((i2 : Nat) : Int) ≥ 4 := i_le rfl (nI_toInt (n := i2) (by omega)) c_5
              refine ww_iload C dX4_togetherWithin_62 1 rfl ?_
              refine ww_iload_n C dX4_togetherWithin_64 6 rfl rfl ?_
              refine ww_iconst (v := (-1)) C dX4_togetherWithin_65 rfl ?_
              obtain ⟨x_6, ex_6⟩ : ∃ z : Int32, wd ^^^ ((-1) : Int32) = z := ⟨_, rfl⟩
              refine ww_ixor (v := x_6) C dX4_togetherWithin_66 ex_6 ?_
              obtain ⟨x_7, ex_7⟩ : ∃ z : Int32, ac2 &&& x_6 = z := ⟨_, rfl⟩
              refine ww_iand (v := x_7) C dX4_togetherWithin_67 ex_7 ?_
              refine ww_if_ne (tgt := 78) C dX4_togetherWithin_68 (by decide) (fun c_8 => ?_) (fun c_8 => ?_)
              · have zc_8 : x_7.toInt ≠ 0 := i_ne rfl rfl c_8
                refine ww_iinc (j := 2) (v := (nI (i1 + 1))) (lv' := [(4, .int (nI (i1 + 1))), (6, .int (nI i2)), (5, .int ac2), (3, .int ac), (0, .ref h), (1, .int gr), (2, .int wd)]) C dX4_togetherWithin_78 rfl (nI_add i1 1) rfl rfl ?_
                refine ww_goto (tgt := 5) C dX4_togetherWithin_81 (by decide) ?_
                exact ww_lv [0, 3, 4, 5, 6] rfl (ww_sub [2, 0, 1] rfl rfl (ih_5 (i1 + 1) ac (by omega) (AC.f hac (by rw [show anyN _ 32 = true from BS.nz (BS.and (SHr.amx (by omega) (by have h9 : SHr n gr gg i1 4 ac2 := (by rw [show (4 : Nat) = i2 by omega]; exact hsh); exact h9)) (BS.not (BS.refl wd) ex_6) ex_7) (i_nz zc_8)]; rfl)) (by omega)))
              · have zc_8 : x_7.toInt = 0 := i_eq rfl rfl c_8
                refine ww_iload_n C dX4_togetherWithin_71 3 rfl rfl ?_
                refine ww_iconst (v := 1) C dX4_togetherWithin_72 rfl ?_
                refine ww_iload C dX4_togetherWithin_73 2 rfl ?_
                obtain ⟨x_9, ex_9⟩ : ∃ z : Int32, (1 : Int32) <<< ((nI i1) &&& 31) = z := ⟨_, rfl⟩
                refine ww_ishl (v := x_9) C dX4_togetherWithin_75 ex_9 ?_
                obtain ⟨x_10, ex_10⟩ : ∃ z : Int32, ac ||| x_9 = z := ⟨_, rfl⟩
                refine ww_ior (v := x_10) C dX4_togetherWithin_76 ex_10 ?_
                refine ww_istore_n (lv' := [(3, .int x_10), (6, .int (nI i2)), (5, .int ac2), (4, .int (nI i1)), (0, .ref h), (1, .int gr), (2, .int wd)]) C dX4_togetherWithin_77 rfl rfl rfl ?_
                refine ww_iinc (j := 3) (v := (nI (i1 + 1))) (lv' := [(4, .int (nI (i1 + 1))), (3, .int x_10), (6, .int (nI i2)), (5, .int ac2), (0, .ref h), (1, .int gr), (2, .int wd)]) C dX4_togetherWithin_78 rfl (nI_add i1 1) rfl rfl ?_
                refine ww_goto (tgt := 5) C dX4_togetherWithin_81 (by decide) ?_
                exact ww_lv [0, 1, 4, 5, 6] rfl (ww_sub [2, 0, 1] rfl rfl (ih_5 (i1 + 1) x_10 (by omega) (AC.t hac (by omega) (by rw [show anyN _ 32 = false from BS.iz (BS.and (SHr.amx (by omega) (by have h9 : SHr n gr gg i1 4 ac2 := (by rw [show (4 : Nat) = i2 by omega]; exact hsh); exact h9)) (BS.not (BS.refl wd) ex_6) ex_7) (i_z zc_8)]; rfl) ex_10 ex_9) (by omega)))
            · have zc_5 : ((i2 : Nat) : Int) < 4 := i_nle rfl (nI_toInt (n := i2) (by omega)) c_5
              refine ww_iload_n C dX4_togetherWithin_29 5 rfl rfl ?_
              refine ww_iload C dX4_togetherWithin_30 0 rfl ?_
              refine ww_ci (wr := [(a, .inl (E.2.1 1, 24, .inl f)), (b, .inl (E.2.1 1, 96, .inl gg)), (h, .inr (4, [.int (nI n), .int (nI r), .ref a, .ref b]))]) (k' := 0) (n' := 0) C (run_SN (As := [.int gr, .int (nI i2)]) (rest := []) C (c_hasN X.2.1 E ro gr i2 (by omega)) ms_X11_has (List.mem_of_getElem? (i := 12) rfl) rfl rfl rfl rfl dX4_togetherWithin_32) (roK hro) [] [0, 1, 2] rfl rfl rfl rfl (fun r_11 uz hw => ?_)
              rcases hw with hw | hw
              · refine an2 hw ?_
                clear hw
                intro he_13 he_14 hw
                have h_12 := hw
                clear hw
                have he_13 := he_13.symm
                subst he_13
                subst he_14
                refine ww_eq (ws' := [(a, .inl (E.2.1 1, 24, .inl f)), (b, .inl (E.2.1 1, 96, .inl gg)), (h, .inr (4, [.int (nI n), .int (nI r), .ref a, .ref b]))]) ?_ rfl rfl rfl
                refine ww_if_eq_f (tgt := 56) C dX4_togetherWithin_35 (by decide) (by decide) ?_
                refine ww_iload C dX4_togetherWithin_38 1 rfl ?_
                refine ww_aload_n C dX4_togetherWithin_40 4 rfl rfl ?_
                refine ww_get C fg_X4_15 2 rfl rfl dX4_togetherWithin_41 ?_
                refine ww_iload C dX4_togetherWithin_44 0 rfl ?_
                refine ww_bipush (v := 24) C dX4_togetherWithin_46 rfl ?_
                refine ww_imul (v := (nI (i2 * 24))) C dX4_togetherWithin_48 (pk_mul i2 24) ?_
                refine ww_iload C dX4_togetherWithin_49 2 rfl ?_
                refine ww_iadd (v := (nI ((i2 * 24) + i1))) C dX4_togetherWithin_51 (nI_add (i2 * 24) i1) ?_
                obtain ⟨x_18, ex_18⟩ : ∃ z : Int32, gg ((i2 * 24) + i1) = z := ⟨_, rfl⟩
                refine ww_iald (v := x_18) C 1 rfl (vp_in_nI (by omega) (by omega)) (ldn (by omega) ex_18) dX4_togetherWithin_52 ?_
                obtain ⟨x_19, ex_19⟩ : ∃ z : Int32, ac2 &&& x_18 = z := ⟨_, rfl⟩
                refine ww_iand (v := x_19) C dX4_togetherWithin_53 ex_19 ?_
                refine ww_istore (lv' := [(5, .int x_19), (6, .int (nI i2)), (4, .int (nI i1)), (3, .int ac), (0, .ref h), (1, .int gr), (2, .int wd)]) C dX4_togetherWithin_54 rfl rfl ?_
                refine ww_iinc (j := 1) (v := (nI (i2 + 1))) (lv' := [(6, .int (nI (i2 + 1))), (5, .int x_19), (4, .int (nI i1)), (3, .int ac), (0, .ref h), (1, .int gr), (2, .int wd)]) C dX4_togetherWithin_56 rfl (nI_add i2 1) rfl rfl ?_
                refine ww_goto (tgt := 23) C dX4_togetherWithin_59 (by decide) ?_
                exact ww_lv [0, 1, 2, 3, 4, 5, 6] rfl (ww_sub [0, 1, 2] rfl rfl (ih_23 (i2 + 1) x_19 (by omega) (SHr.t hsh h_12 ex_18 ex_19) (by omega)))
              · refine an2 hw ?_
                clear hw
                intro he_16 he_17 hw
                have h_15 := hw
                clear hw
                have he_16 := he_16.symm
                subst he_16
                subst he_17
                refine ww_eq (ws' := [(a, .inl (E.2.1 1, 24, .inl f)), (b, .inl (E.2.1 1, 96, .inl gg)), (h, .inr (4, [.int (nI n), .int (nI r), .ref a, .ref b]))]) ?_ rfl rfl rfl
                refine ww_if_eq_t (tgt := 56) C dX4_togetherWithin_35 (by decide) (rfl) ?_
                refine ww_iinc (j := 0) (v := (nI (i2 + 1))) (lv' := [(6, .int (nI (i2 + 1))), (5, .int ac2), (4, .int (nI i1)), (3, .int ac), (0, .ref h), (1, .int gr), (2, .int wd)]) C dX4_togetherWithin_56 rfl (nI_add i2 1) rfl rfl ?_
                refine ww_goto (tgt := 23) C dX4_togetherWithin_59 (by decide) ?_
                exact ww_lv [0, 1, 2, 3, 4, 5, 6] rfl (ww_sub [0, 1, 2] rfl rfl (ih_23 (i2 + 1) ac2 (by omega) (SHr.f hsh h_15) (by omega)))
        exact ww_lv [0, 1, 2, 3, 4, 5, 6] rfl (ww_sub [0, 1, 2] rfl rfl (loop_23 _ 0 r_2 (by omega) (SHr.nil h_3) (Nat.lt_succ_self _)))
  exact ww_lv [0, 1, 2, 3, 4] rfl (ww_sub [0, 1, 2] rfl rfl (loop_5 _ 0 0 (by omega) AC.nil (Nat.lt_succ_self _)))
theorem dX4_reached_0 : decode cX4_reached 0 = .ok (.aload_n 0, 1) := dl_42 (by decide +kernel)
theorem dX4_reached_1 : decode cX4_reached 1 = .ok (.iload_n 1, 1) := dl_27 (by decide +kernel)
theorem dX4_reached_2 : decode cX4_reached 2 = .ok (.iload_n 2, 1) := dl_28 (by decide +kernel)
theorem dX4_reached_3 : decode cX4_reached 3 = .ok (.invokevirtual 44, 3) := dl_182 (by decide +kernel)
theorem dX4_reached_6 : decode cX4_reached 6 = .ok (.istore_n 3, 1) := dl_62 (by decide +kernel)
theorem dX4_reached_7 : decode cX4_reached 7 = .ok (.iconst 0, 1) := dl_3 (by decide +kernel)
theorem dX4_reached_8 : decode cX4_reached 8 = .ok (.istore 4, 2) := dl_54 (by decide +kernel)
theorem dX4_reached_10 : decode cX4_reached 10 = .ok (.iload 4, 2) := dl_21 (by decide +kernel)
theorem dX4_reached_12 : decode cX4_reached 12 = .ok (.aload_n 0, 1) := dl_42 (by decide +kernel)
theorem dX4_reached_13 : decode cX4_reached 13 = .ok (.getfield 18, 3) := dl_180 (by decide +kernel)
theorem dX4_reached_16 : decode cX4_reached 16 = .ok (.if_icmp .ge 63, 3) := dl_162 (by decide +kernel)
theorem dX4_reached_79 : decode cX4_reached 79 = .ok (.iload_n 3, 1) := dl_29 (by decide +kernel)
theorem dX4_reached_80 : decode cX4_reached 80 = .ok (.ireturn, 1) := dl_172 (by decide +kernel)
theorem dX4_reached_19 : decode cX4_reached 19 = .ok (.iload_n 3, 1) := dl_29 (by decide +kernel)
theorem dX4_reached_20 : decode cX4_reached 20 = .ok (.istore 5, 2) := dl_54 (by decide +kernel)
theorem dX4_reached_22 : decode cX4_reached 22 = .ok (.iconst 0, 1) := dl_3 (by decide +kernel)
theorem dX4_reached_23 : decode cX4_reached 23 = .ok (.istore 6, 2) := dl_54 (by decide +kernel)
theorem dX4_reached_25 : decode cX4_reached 25 = .ok (.iload 6, 2) := dl_21 (by decide +kernel)
theorem dX4_reached_27 : decode cX4_reached 27 = .ok (.aload_n 0, 1) := dl_42 (by decide +kernel)
theorem dX4_reached_28 : decode cX4_reached 28 = .ok (.getfield 18, 3) := dl_180 (by decide +kernel)
theorem dX4_reached_31 : decode cX4_reached 31 = .ok (.if_icmp .ge 30, 3) := dl_162 (by decide +kernel)
theorem dX4_reached_61 : decode cX4_reached 61 = .ok (.iload 5, 2) := dl_21 (by decide +kernel)
theorem dX4_reached_63 : decode cX4_reached 63 = .ok (.iload_n 3, 1) := dl_29 (by decide +kernel)
theorem dX4_reached_64 : decode cX4_reached 64 = .ok (.if_icmp .ne 6, 3) := dl_160 (by decide +kernel)
theorem dX4_reached_70 : decode cX4_reached 70 = .ok (.iload 5, 2) := dl_21 (by decide +kernel)
theorem dX4_reached_72 : decode cX4_reached 72 = .ok (.istore_n 3, 1) := dl_62 (by decide +kernel)
theorem dX4_reached_73 : decode cX4_reached 73 = .ok (.iinc 4 1, 3) := dl_132 (by decide +kernel)
theorem dX4_reached_76 : decode cX4_reached 76 = .ok (.goto (-66), 3) := dl_167 (by decide +kernel)
theorem dX4_reached_67 : decode cX4_reached 67 = .ok (.goto 12, 3) := dl_167 (by decide +kernel)
theorem dX4_reached_34 : decode cX4_reached 34 = .ok (.iload_n 3, 1) := dl_29 (by decide +kernel)
theorem dX4_reached_35 : decode cX4_reached 35 = .ok (.iload 6, 2) := dl_21 (by decide +kernel)
theorem dX4_reached_37 : decode cX4_reached 37 = .ok (.invokestatic 51, 3) := dl_184 (by decide +kernel)
theorem dX4_reached_40 : decode cX4_reached 40 = .ok (.ifCond .eq 15, 3) := dl_153 (by decide +kernel)
theorem dX4_reached_43 : decode cX4_reached 43 = .ok (.iload 5, 2) := dl_21 (by decide +kernel)
theorem dX4_reached_45 : decode cX4_reached 45 = .ok (.aload_n 0, 1) := dl_42 (by decide +kernel)
theorem dX4_reached_46 : decode cX4_reached 46 = .ok (.iload_n 1, 1) := dl_27 (by decide +kernel)
theorem dX4_reached_47 : decode cX4_reached 47 = .ok (.iload 6, 2) := dl_21 (by decide +kernel)
theorem dX4_reached_49 : decode cX4_reached 49 = .ok (.invokevirtual 44, 3) := dl_182 (by decide +kernel)
theorem dX4_reached_52 : decode cX4_reached 52 = .ok (.ior, 1) := dl_128 (by decide +kernel)
theorem dX4_reached_53 : decode cX4_reached 53 = .ok (.istore 5, 2) := dl_54 (by decide +kernel)
theorem dX4_reached_55 : decode cX4_reached 55 = .ok (.iinc 6 1, 3) := dl_132 (by decide +kernel)
theorem dX4_reached_58 : decode cX4_reached 58 = .ok (.goto (-33), 3) := dl_167 (by decide +kernel)
set_option maxRecDepth 100000 in
set_option maxHeartbeats 4000000 in
theorem m_reached (l : Launch) (E : EV) (ro : va_W) (h : Nat) (gr : Int32) (w : Nat) (n : Nat) (r : Nat) (a : Nat) (b : Nat) (f : Nat → Int32) (gg : Nat → Int32) (hn : n ≤ 24) (hr : r < n ∨ r = 0) (hw : w < n) : CT l yX4_reached (Cond.code yX4_reached cX4_reached 7 (some .int) :: TB) ({ frames := 1, cells := 0, slots := 0, locals := 24 }) E ro [.ref h, .int gr, .int (nI w)] [(h, .inr (4, [.int (nI n), .int (nI r), .ref a, .ref b])), (a, .inl (E.2.1 1, 24, .inl f)), (b, .inl (E.2.1 1, 96, .inl gg))] (Qi E (fun (rz : Int32) uz => (uz = [(h, .inr (4, [.int (nI n), .int (nI r), .ref a, .ref b])), (a, .inl (E.2.1 1, 24, .inl f)), (b, .inl (E.2.1 1, 96, .inl gg))] ∧ (BS rz (fw (am n r f gg) gr w n))))) 0 0 := by
  refine ct_of rfl rfl ?_
  intro X C hT hin hro
  show WW X 7 E 0 [(0, .ref h), (1, .int gr), (2, .int (nI w))] [] [(h, .inr (4, [.int (nI n), .int (nI r), .ref a, .ref b])), (a, .inl (E.2.1 1, 24, .inl f)), (b, .inl (E.2.1 1, 96, .inl gg))] 0 0
  refine ww_aload_n C dX4_reached_0 0 rfl rfl ?_
  refine ww_iload_n C dX4_reached_1 1 rfl rfl ?_
  refine ww_iload_n C dX4_reached_2 2 rfl rfl ?_
  refine ww_ci (wr := []) (k' := 0) (n' := 0) C (run_V (As := [.int gr, .int (nI w)]) (rest := []) C (m_nextOf X.2.1 E ro h gr w n r a b f gg (by omega) (by omega)) mi_X4_nextOf wl_X4_44 rfl 0 4 rfl rfl rfl rfl rfl dX4_reached_3) (roK hro) [0, 1, 2] [] rfl rfl rfl rfl (fun r_1 uz hw => ?_)
  refine an1 hw ?_
  clear hw
  intro he_3 hw
  have h_2 := hw
  clear hw
  subst he_3
  refine ww_eq (ws' := [(h, .inr (4, [.int (nI n), .int (nI r), .ref a, .ref b])), (a, .inl (E.2.1 1, 24, .inl f)), (b, .inl (E.2.1 1, 96, .inl gg))]) ?_ rfl rfl rfl
  refine ww_istore_n (lv' := [(3, .int r_1), (0, .ref h), (1, .int gr), (2, .int (nI w))]) C dX4_reached_6 rfl rfl rfl ?_
  refine ww_iconst (v := 0) C dX4_reached_7 rfl ?_
  refine ww_istore (lv' := [(4, .int 0), (3, .int r_1), (0, .ref h), (1, .int gr), (2, .int (nI w))]) C dX4_reached_8 rfl rfl ?_
  have loop_10 : ∀ (fu : Nat) (i1 : Nat) (ac : Int32), (i1 ≤ n) → (BS ac (fw (am n r f gg) gr w i1)) → n - i1 < fu → WW X 7 E 10 [(4, .int (nI i1)), (3, .int ac), (0, .ref h), (1, .int gr), (2, .int (nI w))] [] [(h, .inr (4, [.int (nI n), .int (nI r), .ref a, .ref b])), (a, .inl (E.2.1 1, 24, .inl f)), (b, .inl (E.2.1 1, 96, .inl gg))] 0 0 := by
    intro fu
    induction fu with
    | zero => intro i1 ac hi1 hfw hmeas; exact absurd hmeas (Nat.not_lt_zero _)
    | succ fu ih_10 =>
      intro i1 ac hi1 hfw hmeas
      refine ww_iload C dX4_reached_10 0 rfl ?_
      refine ww_aload_n C dX4_reached_12 2 rfl rfl ?_
      refine ww_get C fg_X4_18 0 rfl rfl dX4_reached_13 ?_
      refine ww_icmp_ge (tgt := 79) C dX4_reached_16 (by decide) (fun c_4 => ?_) (fun c_4 => ?_)
      · have zc_4 : ((i1 : Nat) : Int) ≥ ((n : Nat) : Int) := i_le (nI_toInt (n := n) (by omega)) (nI_toInt (n := i1) (by omega)) c_4
        refine ww_iload_n C dX4_reached_79 1 rfl rfl ?_
        exact ww_iret (u := [(h, .inr (4, [.int (nI n), .int (nI r), .ref a, .ref b])), (a, .inl (E.2.1 1, 24, .inl f)), (b, .inl (E.2.1 1, 96, .inl gg))]) C hT [0, 1, 2] rfl rfl rfl rfl dX4_reached_80 (⟨rfl, (by have h9 : i1 = n := (by omega); rw [h9] at hfw; exact hfw)⟩)
      · have zc_4 : ((i1 : Nat) : Int) < ((n : Nat) : Int) := i_nle (nI_toInt (n := n) (by omega)) (nI_toInt (n := i1) (by omega)) c_4
        refine ww_iload_n C dX4_reached_19 1 rfl rfl ?_
        refine ww_istore (lv' := [(5, .int ac), (4, .int (nI i1)), (3, .int ac), (0, .ref h), (1, .int gr), (2, .int (nI w))]) C dX4_reached_20 rfl rfl ?_
        refine ww_iconst (v := 0) C dX4_reached_22 rfl ?_
        refine ww_istore (lv' := [(6, .int 0), (5, .int ac), (4, .int (nI i1)), (3, .int ac), (0, .ref h), (1, .int gr), (2, .int (nI w))]) C dX4_reached_23 rfl rfl ?_
        have loop_25 : ∀ (fu : Nat) (i2 : Nat) (ac2 : Int32), (i2 ≤ n) → (FWr (am n r f gg) gr (fw (am n r f gg) gr w i1) i2 ac2) → n - i2 < fu → WW X 7 E 25 [(6, .int (nI i2)), (5, .int ac2), (4, .int (nI i1)), (3, .int ac), (0, .ref h), (1, .int gr), (2, .int (nI w))] [] [(h, .inr (4, [.int (nI n), .int (nI r), .ref a, .ref b])), (a, .inl (E.2.1 1, 24, .inl f)), (b, .inl (E.2.1 1, 96, .inl gg))] 0 0 := by
          intro fu
          induction fu with
          | zero => intro i2 ac2 hi2 hac hmeas; exact absurd hmeas (Nat.not_lt_zero _)
          | succ fu ih_25 =>
            intro i2 ac2 hi2 hac hmeas
            refine ww_iload C dX4_reached_25 0 rfl ?_
            refine ww_aload_n C dX4_reached_27 4 rfl rfl ?_
            refine ww_get C fg_X4_18 0 rfl rfl dX4_reached_28 ?_
            refine ww_icmp_ge (tgt := 61) C dX4_reached_31 (by decide) (fun c_5 => ?_) (fun c_5 => ?_)
            · have zc_5 : ((i2 : Nat) : Int) ≥ ((n : Nat) : Int) := i_le (nI_toInt (n := n) (by omega)) (nI_toInt (n := i2) (by omega)) c_5
              refine ww_iload C dX4_reached_61 1 rfl ?_
              refine ww_iload_n C dX4_reached_63 3 rfl rfl ?_
              refine ww_icmp_ne (tgt := 70) C dX4_reached_64 (by decide) (fun c_6 => ?_) (fun c_6 => ?_)
              · have zc_6 : ac2.toInt ≠ ac.toInt := i_ne rfl rfl c_6
                refine ww_iload C dX4_reached_70 1 rfl ?_
                refine ww_istore_n (lv' := [(3, .int ac2), (6, .int (nI i2)), (5, .int ac2), (4, .int (nI i1)), (0, .ref h), (1, .int gr), (2, .int (nI w))]) C dX4_reached_72 rfl rfl rfl ?_
                refine ww_iinc (j := 3) (v := (nI (i1 + 1))) (lv' := [(4, .int (nI (i1 + 1))), (3, .int ac2), (6, .int (nI i2)), (5, .int ac2), (0, .ref h), (1, .int gr), (2, .int (nI w))]) C dX4_reached_73 rfl (nI_add i1 1) rfl rfl ?_
                refine ww_goto (tgt := 10) C dX4_reached_76 (by decide) ?_
                exact ww_lv [0, 1, 4, 5, 6] rfl (ww_sub [0, 1, 2] rfl rfl (ih_10 (i1 + 1) ac2 (by omega) (show BS ac2 (fw (am n r f gg) gr w (i1 + 1)) by rw [show i2 = n by omega] at hac; exact hac) (by omega)))
              · have zc_6 : ac2.toInt = ac.toInt := i_eq rfl rfl c_6
                refine ww_goto (tgt := 79) C dX4_reached_67 (by decide) ?_
                refine ww_iload_n C dX4_reached_79 3 rfl rfl ?_
                exact ww_iret (u := [(h, .inr (4, [.int (nI n), .int (nI r), .ref a, .ref b])), (a, .inl (E.2.1 1, 24, .inl f)), (b, .inl (E.2.1 1, 96, .inl gg))]) C hT [0, 1, 2] rfl rfl rfl rfl dX4_reached_80 (⟨rfl, (fw_end (show n ≤ 32 by omega) hfw (by rw [← (show ac2 = ac from Int32.toInt_inj.mp zc_6)]; exact (show BS ac2 (fw (am n r f gg) gr w (i1 + 1)) by rw [show i2 = n by omega] at hac; exact hac)) hi1)⟩)
            · have zc_5 : ((i2 : Nat) : Int) < ((n : Nat) : Int) := i_nle (nI_toInt (n := n) (by omega)) (nI_toInt (n := i2) (by omega)) c_5
              refine ww_iload_n C dX4_reached_34 3 rfl rfl ?_
              refine ww_iload C dX4_reached_35 0 rfl ?_
              refine ww_ci (wr := [(h, .inr (4, [.int (nI n), .int (nI r), .ref a, .ref b])), (a, .inl (E.2.1 1, 24, .inl f)), (b, .inl (E.2.1 1, 96, .inl gg))]) (k' := 0) (n' := 0) C (run_SN (As := [.int ac, .int (nI i2)]) (rest := []) C (c_hasN X.2.1 E ro ac i2 (by omega)) ms_X11_has (List.mem_of_getElem? (i := 12) rfl) rfl rfl rfl rfl dX4_reached_37) (roK hro) [] [0, 1, 2] rfl rfl rfl rfl (fun r_7 uz hw => ?_)
              rcases hw with hw | hw
              · refine an2 hw ?_
                clear hw
                intro he_9 he_10 hw
                have h_8 := hw
                clear hw
                have he_9 := he_9.symm
                subst he_9
                subst he_10
                refine ww_eq (ws' := [(h, .inr (4, [.int (nI n), .int (nI r), .ref a, .ref b])), (a, .inl (E.2.1 1, 24, .inl f)), (b, .inl (E.2.1 1, 96, .inl gg))]) ?_ rfl rfl rfl
                refine ww_if_eq_f (tgt := 55) C dX4_reached_40 (by decide) (by decide) ?_
                refine ww_iload C dX4_reached_43 1 rfl ?_
                refine ww_aload_n C dX4_reached_45 4 rfl rfl ?_
                refine ww_iload_n C dX4_reached_46 5 rfl rfl ?_
                refine ww_iload C dX4_reached_47 0 rfl ?_
                refine ww_ci (wr := []) (k' := 0) (n' := 0) C (run_V (As := [.int gr, .int (nI i2)]) (rest := [.int ac2]) C (m_nextOf X.2.1 E ro h gr i2 n r a b f gg (by omega) (by omega)) mi_X4_nextOf wl_X4_44 rfl 0 4 rfl rfl rfl rfl rfl dX4_reached_49) (roK hro) [0, 1, 2] [] rfl rfl rfl rfl (fun r_14 uz hw => ?_)
                refine an1 hw ?_
                clear hw
                intro he_16 hw
                have h_15 := hw
                clear hw
                subst he_16
                refine ww_eq (ws' := [(h, .inr (4, [.int (nI n), .int (nI r), .ref a, .ref b])), (a, .inl (E.2.1 1, 24, .inl f)), (b, .inl (E.2.1 1, 96, .inl gg))]) ?_ rfl rfl rfl
                obtain ⟨x_17, ex_17⟩ : ∃ z : Int32, ac2 ||| r_14 = z := ⟨_, rfl⟩
                refine ww_ior (v := x_17) C dX4_reached_52 ex_17 ?_
                refine ww_istore (lv' := [(5, .int x_17), (6, .int (nI i2)), (4, .int (nI i1)), (3, .int ac), (0, .ref h), (1, .int gr), (2, .int (nI w))]) C dX4_reached_53 rfl rfl ?_
                refine ww_iinc (j := 1) (v := (nI (i2 + 1))) (lv' := [(6, .int (nI (i2 + 1))), (5, .int x_17), (4, .int (nI i1)), (3, .int ac), (0, .ref h), (1, .int gr), (2, .int (nI w))]) C dX4_reached_55 rfl (nI_add i2 1) rfl rfl ?_
                refine ww_goto (tgt := 25) C dX4_reached_58 (by decide) ?_
                exact ww_lv [0, 1, 2, 3, 4, 5, 6] rfl (ww_sub [0, 1, 2] rfl rfl (ih_25 (i2 + 1) x_17 (by omega) (FWr.t hac (BS.t hfw (by omega) h_8) h_15 ex_17) (by omega)))
              · refine an2 hw ?_
                clear hw
                intro he_12 he_13 hw
                have h_11 := hw
                clear hw
                have he_12 := he_12.symm
                subst he_12
                subst he_13
                refine ww_eq (ws' := [(h, .inr (4, [.int (nI n), .int (nI r), .ref a, .ref b])), (a, .inl (E.2.1 1, 24, .inl f)), (b, .inl (E.2.1 1, 96, .inl gg))]) ?_ rfl rfl rfl
                refine ww_if_eq_t (tgt := 55) C dX4_reached_40 (by decide) (rfl) ?_
                refine ww_iinc (j := 0) (v := (nI (i2 + 1))) (lv' := [(6, .int (nI (i2 + 1))), (5, .int ac2), (4, .int (nI i1)), (3, .int ac), (0, .ref h), (1, .int gr), (2, .int (nI w))]) C dX4_reached_55 rfl (nI_add i2 1) rfl rfl ?_
                refine ww_goto (tgt := 25) C dX4_reached_58 (by decide) ?_
                exact ww_lv [0, 1, 2, 3, 4, 5, 6] rfl (ww_sub [0, 1, 2] rfl rfl (ih_25 (i2 + 1) ac2 (by omega) (FWr.f hac (BS.f hfw (by omega) h_11)) (by omega)))
        exact ww_lv [0, 1, 2, 3, 4, 5, 6] rfl (ww_sub [0, 1, 2] rfl rfl (loop_25 _ 0 ac (by omega) (FWr.nil hfw) (Nat.lt_succ_self _)))
  exact ww_lv [0, 1, 2, 3, 4] rfl (ww_sub [0, 1, 2] rfl rfl (loop_10 _ 0 r_1 (by omega) h_2 (Nat.lt_succ_self _)))
theorem dX4_squeezed_0 : decode cX4_squeezed 0 = .ok (.iconst 0, 1) := dl_3 (by decide +kernel)
theorem dX4_squeezed_1 : decode cX4_squeezed 1 = .ok (.istore_n 2, 1) := dl_61 (by decide +kernel)
theorem dX4_squeezed_2 : decode cX4_squeezed 2 = .ok (.iconst 0, 1) := dl_3 (by decide +kernel)
theorem dX4_squeezed_3 : decode cX4_squeezed 3 = .ok (.istore_n 3, 1) := dl_62 (by decide +kernel)
theorem dX4_squeezed_4 : decode cX4_squeezed 4 = .ok (.iconst 0, 1) := dl_3 (by decide +kernel)
theorem dX4_squeezed_5 : decode cX4_squeezed 5 = .ok (.istore 4, 2) := dl_54 (by decide +kernel)
theorem dX4_squeezed_7 : decode cX4_squeezed 7 = .ok (.iload 4, 2) := dl_21 (by decide +kernel)
theorem dX4_squeezed_9 : decode cX4_squeezed 9 = .ok (.bipush 24, 2) := dl_16 (by decide +kernel)
theorem dX4_squeezed_11 : decode cX4_squeezed 11 = .ok (.if_icmp .ge 32, 3) := dl_162 (by decide +kernel)
theorem dX4_squeezed_43 : decode cX4_squeezed 43 = .ok (.iload_n 2, 1) := dl_28 (by decide +kernel)
theorem dX4_squeezed_44 : decode cX4_squeezed 44 = .ok (.ireturn, 1) := dl_172 (by decide +kernel)
theorem dX4_squeezed_14 : decode cX4_squeezed 14 = .ok (.iload_n 1, 1) := dl_27 (by decide +kernel)
theorem dX4_squeezed_15 : decode cX4_squeezed 15 = .ok (.iload 4, 2) := dl_21 (by decide +kernel)
theorem dX4_squeezed_17 : decode cX4_squeezed 17 = .ok (.invokestatic 51, 3) := dl_184 (by decide +kernel)
theorem dX4_squeezed_20 : decode cX4_squeezed 20 = .ok (.ifCond .eq 17, 3) := dl_153 (by decide +kernel)
theorem dX4_squeezed_23 : decode cX4_squeezed 23 = .ok (.iload_n 2, 1) := dl_28 (by decide +kernel)
theorem dX4_squeezed_24 : decode cX4_squeezed 24 = .ok (.iload_n 0, 1) := dl_26 (by decide +kernel)
theorem dX4_squeezed_25 : decode cX4_squeezed 25 = .ok (.iload 4, 2) := dl_21 (by decide +kernel)
theorem dX4_squeezed_27 : decode cX4_squeezed 27 = .ok (.ishr, 1) := dl_122 (by decide +kernel)
theorem dX4_squeezed_28 : decode cX4_squeezed 28 = .ok (.iconst 1, 1) := dl_4 (by decide +kernel)
theorem dX4_squeezed_29 : decode cX4_squeezed 29 = .ok (.iand, 1) := dl_126 (by decide +kernel)
theorem dX4_squeezed_30 : decode cX4_squeezed 30 = .ok (.iload_n 3, 1) := dl_29 (by decide +kernel)
theorem dX4_squeezed_31 : decode cX4_squeezed 31 = .ok (.ishl, 1) := dl_120 (by decide +kernel)
theorem dX4_squeezed_32 : decode cX4_squeezed 32 = .ok (.ior, 1) := dl_128 (by decide +kernel)
theorem dX4_squeezed_33 : decode cX4_squeezed 33 = .ok (.istore_n 2, 1) := dl_61 (by decide +kernel)
theorem dX4_squeezed_34 : decode cX4_squeezed 34 = .ok (.iinc 3 1, 3) := dl_132 (by decide +kernel)
theorem dX4_squeezed_37 : decode cX4_squeezed 37 = .ok (.iinc 4 1, 3) := dl_132 (by decide +kernel)
theorem dX4_squeezed_40 : decode cX4_squeezed 40 = .ok (.goto (-33), 3) := dl_167 (by decide +kernel)
set_option maxRecDepth 100000 in
set_option maxHeartbeats 4000000 in
theorem m_squeezed (l : Launch) (E : EV) (ro : va_W) (bi : Int32) (sy : Int32)  : CT l yX4_squeezed (Cond.code yX4_squeezed cX4_squeezed 5 (some .int) :: TB) ({ frames := 1, cells := 0, slots := 0, locals := 21 }) E ro [.int bi, .int sy] [] (Qi E (fun (rz : Int32) uz => (uz = [] ∧ (SQr bi sy 24 rz)))) 0 0 := by
  refine ct_of rfl rfl ?_
  intro X C hT hin hro
  show WW X 5 E 0 [(0, .int bi), (1, .int sy)] [] [] 0 0
  refine ww_iconst (v := 0) C dX4_squeezed_0 rfl ?_
  refine ww_istore_n (lv' := [(2, .int 0), (0, .int bi), (1, .int sy)]) C dX4_squeezed_1 rfl rfl rfl ?_
  refine ww_iconst (v := 0) C dX4_squeezed_2 rfl ?_
  refine ww_istore_n (lv' := [(3, .int 0), (2, .int 0), (0, .int bi), (1, .int sy)]) C dX4_squeezed_3 rfl rfl rfl ?_
  refine ww_iconst (v := 0) C dX4_squeezed_4 rfl ?_
  refine ww_istore (lv' := [(4, .int 0), (3, .int 0), (2, .int 0), (0, .int bi), (1, .int sy)]) C dX4_squeezed_5 rfl rfl ?_
  have loop_7 : ∀ (fu : Nat) (i1 : Nat) (ac : Int32) (pl : Nat), (i1 ≤ 24) → (SQr bi sy i1 ac) → (pl = cb (bt sy) i1) → 24 - i1 < fu → WW X 5 E 7 [(4, .int (nI i1)), (3, .int (nI pl)), (2, .int ac), (0, .int bi), (1, .int sy)] [] [] 0 0 := by
    intro fu
    induction fu with
    | zero => intro i1 ac pl hi1 hsq hpl hmeas; exact absurd hmeas (Nat.not_lt_zero _)
    | succ fu ih_7 =>
      intro i1 ac pl hi1 hsq hpl hmeas
      refine ww_iload C dX4_squeezed_7 0 rfl ?_
      refine ww_bipush (v := 24) C dX4_squeezed_9 rfl ?_
      refine ww_icmp_ge (tgt := 43) C dX4_squeezed_11 (by decide) (fun c_1 => ?_) (fun c_1 => ?_)
      · have zc_1 : ((i1 : Nat) : Int) ≥ 24 := i_le rfl (nI_toInt (n := i1) (by omega)) c_1
        refine ww_iload_n C dX4_squeezed_43 2 rfl rfl ?_
        exact ww_iret (u := []) C hT [] rfl rfl rfl rfl dX4_squeezed_44 (⟨rfl, (by rw [show (24 : Nat) = i1 by omega]; exact hsq)⟩)
      · have zc_1 : ((i1 : Nat) : Int) < 24 := i_nle rfl (nI_toInt (n := i1) (by omega)) c_1
        refine ww_iload_n C dX4_squeezed_14 4 rfl rfl ?_
        refine ww_iload C dX4_squeezed_15 0 rfl ?_
        refine ww_ci (wr := []) (k' := 0) (n' := 0) C (run_SN (As := [.int sy, .int (nI i1)]) (rest := []) C (c_hasN X.2.1 E ro sy i1 (by omega)) ms_X11_has (List.mem_of_getElem? (i := 12) rfl) rfl rfl rfl rfl dX4_squeezed_17) (roK hro) [] [] rfl rfl rfl rfl (fun r_2 uz hw => ?_)
        rcases hw with hw | hw
        · refine an2 hw ?_
          clear hw
          intro he_4 he_5 hw
          have h_3 := hw
          clear hw
          have he_4 := he_4.symm
          subst he_4
          subst he_5
          refine ww_eq (ws' := []) ?_ rfl rfl rfl
          refine ww_if_eq_f (tgt := 37) C dX4_squeezed_20 (by decide) (by decide) ?_
          refine ww_iload_n C dX4_squeezed_23 2 rfl rfl ?_
          refine ww_iload_n C dX4_squeezed_24 3 rfl rfl ?_
          refine ww_iload C dX4_squeezed_25 0 rfl ?_
          obtain ⟨x_9, ex_9⟩ : ∃ z : Int32, bi >>> ((nI i1) &&& 31) = z := ⟨_, rfl⟩
          refine ww_ishr (v := x_9) C dX4_squeezed_27 ex_9 ?_
          refine ww_iconst (v := 1) C dX4_squeezed_28 rfl ?_
          obtain ⟨j_10, hj_10, ej_10⟩ := pk_andE x_9 (m := 1) 1 rfl
          refine ww_iand (v := (nI j_10)) C dX4_squeezed_29 ej_10 ?_
          refine ww_iload_n C dX4_squeezed_30 1 rfl rfl ?_
          obtain ⟨x_11, ex_11⟩ : ∃ z : Int32, (nI j_10) <<< ((nI pl) &&& 31) = z := ⟨_, rfl⟩
          refine ww_ishl (v := x_11) C dX4_squeezed_31 ex_11 ?_
          obtain ⟨x_12, ex_12⟩ : ∃ z : Int32, ac ||| x_11 = z := ⟨_, rfl⟩
          refine ww_ior (v := x_12) C dX4_squeezed_32 ex_12 ?_
          refine ww_istore_n (lv' := [(2, .int x_12), (4, .int (nI i1)), (3, .int (nI pl)), (0, .int bi), (1, .int sy)]) C dX4_squeezed_33 rfl rfl rfl ?_
          refine ww_iinc (j := 2) (v := (nI (pl + 1))) (lv' := [(3, .int (nI (pl + 1))), (2, .int x_12), (4, .int (nI i1)), (0, .int bi), (1, .int sy)]) C dX4_squeezed_34 rfl (nI_add pl 1) rfl rfl ?_
          refine ww_iinc (j := 2) (v := (nI (i1 + 1))) (lv' := [(4, .int (nI (i1 + 1))), (3, .int (nI (pl + 1))), (2, .int x_12), (0, .int bi), (1, .int sy)]) C dX4_squeezed_37 rfl (nI_add i1 1) rfl rfl ?_
          refine ww_goto (tgt := 7) C dX4_squeezed_40 (by decide) ?_
          exact ww_lv [0, 1, 2, 3, 4] rfl (ww_sub [] rfl rfl (ih_7 (i1 + 1) x_12 (pl + 1) (by omega) (SQr.t hsq (by omega) h_3 hpl ex_9 ej_10 (by omega) ex_11 ex_12) (by rw [cb_t h_3]; omega) (by omega)))
        · refine an2 hw ?_
          clear hw
          intro he_7 he_8 hw
          have h_6 := hw
          clear hw
          have he_7 := he_7.symm
          subst he_7
          subst he_8
          refine ww_eq (ws' := []) ?_ rfl rfl rfl
          refine ww_if_eq_t (tgt := 37) C dX4_squeezed_20 (by decide) (rfl) ?_
          refine ww_iinc (j := 0) (v := (nI (i1 + 1))) (lv' := [(4, .int (nI (i1 + 1))), (3, .int (nI pl)), (2, .int ac), (0, .int bi), (1, .int sy)]) C dX4_squeezed_37 rfl (nI_add i1 1) rfl rfl ?_
          refine ww_goto (tgt := 7) C dX4_squeezed_40 (by decide) ?_
          exact ww_lv [0, 1, 2, 3, 4] rfl (ww_sub [] rfl rfl (ih_7 (i1 + 1) ac pl (by omega) (SQr.f hsq h_6) (by rw [cb_f h_6]; omega) (by omega)))
  exact ww_lv [0, 1, 2, 3, 4] rfl (ww_sub [] rfl rfl (loop_7 _ 0 0 0 (by omega) SQr.nil rfl (Nat.lt_succ_self _)))
theorem dX4_cut_0 : decode cX4_cut 0 = .ok (.iconst 0, 1) := dl_3 (by decide +kernel)
theorem dX4_cut_1 : decode cX4_cut 1 = .ok (.istore_n 2, 1) := dl_61 (by decide +kernel)
theorem dX4_cut_2 : decode cX4_cut 2 = .ok (.iconst 0, 1) := dl_3 (by decide +kernel)
theorem dX4_cut_3 : decode cX4_cut 3 = .ok (.istore_n 3, 1) := dl_62 (by decide +kernel)
theorem dX4_cut_4 : decode cX4_cut 4 = .ok (.iload_n 3, 1) := dl_29 (by decide +kernel)
theorem dX4_cut_5 : decode cX4_cut 5 = .ok (.aload_n 0, 1) := dl_42 (by decide +kernel)
theorem dX4_cut_6 : decode cX4_cut 6 = .ok (.getfield 18, 3) := dl_180 (by decide +kernel)
theorem dX4_cut_9 : decode cX4_cut 9 = .ok (.if_icmp .ge 70, 3) := dl_162 (by decide +kernel)
theorem dX4_cut_79 : decode cX4_cut 79 = .ok (.aload_n 0, 1) := dl_42 (by decide +kernel)
theorem dX4_cut_80 : decode cX4_cut 80 = .ok (.iload_n 1, 1) := dl_27 (by decide +kernel)
theorem dX4_cut_81 : decode cX4_cut 81 = .ok (.iconst 1, 1) := dl_4 (by decide +kernel)
theorem dX4_cut_82 : decode cX4_cut 82 = .ok (.aload_n 0, 1) := dl_42 (by decide +kernel)
theorem dX4_cut_83 : decode cX4_cut 83 = .ok (.getfield 22, 3) := dl_180 (by decide +kernel)
theorem dX4_cut_86 : decode cX4_cut 86 = .ok (.ishl, 1) := dl_120 (by decide +kernel)
theorem dX4_cut_87 : decode cX4_cut 87 = .ok (.iconst 1, 1) := dl_4 (by decide +kernel)
theorem dX4_cut_88 : decode cX4_cut 88 = .ok (.isub, 1) := dl_100 (by decide +kernel)
theorem dX4_cut_89 : decode cX4_cut 89 = .ok (.iand, 1) := dl_126 (by decide +kernel)
theorem dX4_cut_90 : decode cX4_cut 90 = .ok (.invokestatic 32, 3) := dl_184 (by decide +kernel)
theorem dX4_cut_93 : decode cX4_cut 93 = .ok (.putfield 22, 3) := dl_181 (by decide +kernel)
theorem dX4_cut_96 : decode cX4_cut 96 = .ok (.aload_n 0, 1) := dl_42 (by decide +kernel)
theorem dX4_cut_97 : decode cX4_cut 97 = .ok (.iload_n 2, 1) := dl_28 (by decide +kernel)
theorem dX4_cut_98 : decode cX4_cut 98 = .ok (.putfield 18, 3) := dl_181 (by decide +kernel)
theorem dX4_cut_101 : decode cX4_cut 101 = .ok (.return_, 1) := dl_177 (by decide +kernel)
theorem dX4_cut_12 : decode cX4_cut 12 = .ok (.iload_n 1, 1) := dl_27 (by decide +kernel)
theorem dX4_cut_13 : decode cX4_cut 13 = .ok (.iload_n 3, 1) := dl_29 (by decide +kernel)
theorem dX4_cut_14 : decode cX4_cut 14 = .ok (.invokestatic 51, 3) := dl_184 (by decide +kernel)
theorem dX4_cut_17 : decode cX4_cut 17 = .ok (.ifCond .eq 56, 3) := dl_153 (by decide +kernel)
theorem dX4_cut_20 : decode cX4_cut 20 = .ok (.aload_n 0, 1) := dl_42 (by decide +kernel)
theorem dX4_cut_21 : decode cX4_cut 21 = .ok (.getfield 9, 3) := dl_180 (by decide +kernel)
theorem dX4_cut_24 : decode cX4_cut 24 = .ok (.iload_n 2, 1) := dl_28 (by decide +kernel)
theorem dX4_cut_25 : decode cX4_cut 25 = .ok (.aload_n 0, 1) := dl_42 (by decide +kernel)
theorem dX4_cut_26 : decode cX4_cut 26 = .ok (.getfield 9, 3) := dl_180 (by decide +kernel)
theorem dX4_cut_29 : decode cX4_cut 29 = .ok (.iload_n 3, 1) := dl_29 (by decide +kernel)
theorem dX4_cut_30 : decode cX4_cut 30 = .ok (.iaload, 1) := dl_46 (by decide +kernel)
theorem dX4_cut_31 : decode cX4_cut 31 = .ok (.iastore, 1) := dl_79 (by decide +kernel)
theorem dX4_cut_32 : decode cX4_cut 32 = .ok (.iconst 0, 1) := dl_3 (by decide +kernel)
theorem dX4_cut_33 : decode cX4_cut 33 = .ok (.istore 4, 2) := dl_54 (by decide +kernel)
theorem dX4_cut_35 : decode cX4_cut 35 = .ok (.iload 4, 2) := dl_21 (by decide +kernel)
theorem dX4_cut_37 : decode cX4_cut 37 = .ok (.iconst 4, 1) := dl_7 (by decide +kernel)
theorem dX4_cut_38 : decode cX4_cut 38 = .ok (.if_icmp .ge 32, 3) := dl_162 (by decide +kernel)
theorem dX4_cut_70 : decode cX4_cut 70 = .ok (.iinc 2 1, 3) := dl_132 (by decide +kernel)
theorem dX4_cut_73 : decode cX4_cut 73 = .ok (.iinc 3 1, 3) := dl_132 (by decide +kernel)
theorem dX4_cut_76 : decode cX4_cut 76 = .ok (.goto (-72), 3) := dl_167 (by decide +kernel)
theorem dX4_cut_41 : decode cX4_cut 41 = .ok (.aload_n 0, 1) := dl_42 (by decide +kernel)
theorem dX4_cut_42 : decode cX4_cut 42 = .ok (.getfield 15, 3) := dl_180 (by decide +kernel)
theorem dX4_cut_45 : decode cX4_cut 45 = .ok (.iload 4, 2) := dl_21 (by decide +kernel)
theorem dX4_cut_47 : decode cX4_cut 47 = .ok (.bipush 24, 2) := dl_16 (by decide +kernel)
theorem dX4_cut_49 : decode cX4_cut 49 = .ok (.imul, 1) := dl_104 (by decide +kernel)
theorem dX4_cut_50 : decode cX4_cut 50 = .ok (.iload_n 2, 1) := dl_28 (by decide +kernel)
theorem dX4_cut_51 : decode cX4_cut 51 = .ok (.iadd, 1) := dl_96 (by decide +kernel)
theorem dX4_cut_52 : decode cX4_cut 52 = .ok (.aload_n 0, 1) := dl_42 (by decide +kernel)
theorem dX4_cut_53 : decode cX4_cut 53 = .ok (.iload 4, 2) := dl_21 (by decide +kernel)
theorem dX4_cut_55 : decode cX4_cut 55 = .ok (.iload_n 3, 1) := dl_29 (by decide +kernel)
theorem dX4_cut_56 : decode cX4_cut 56 = .ok (.invokevirtual 25, 3) := dl_182 (by decide +kernel)
theorem dX4_cut_59 : decode cX4_cut 59 = .ok (.iload_n 1, 1) := dl_27 (by decide +kernel)
theorem dX4_cut_60 : decode cX4_cut 60 = .ok (.invokestatic 55, 3) := dl_184 (by decide +kernel)
theorem wl_X4_55 : Cond.methodLink RX4 55 yX4_squeezed ∈ TB := tbm (tq4 (List.mem_of_getElem? (i := 204) (by decide +kernel))) (by decide +kernel)
theorem wc_X4_squeezed : Cond.code yX4_squeezed cX4_squeezed 5 (some .int) ∈ TB := tbm (tq4 (List.mem_of_getElem? (i := 206) (rfl))) (by decide +kernel)
theorem wt_X4_squeezed : Cond.static yX4_squeezed ∈ TB := tbm (tq4 (List.mem_of_getElem? (i := 205) (by decide +kernel))) (by decide +kernel)
theorem ms_X4_squeezed : MS yX4_squeezed cX4_squeezed 5 (some .int) 2 := ⟨wc_X4_squeezed, wn_X4, ⟨by decide +kernel, by decide +kernel, by decide +kernel⟩, wt_X4_squeezed⟩
theorem dX4_cut_63 : decode cX4_cut 63 = .ok (.iastore, 1) := dl_79 (by decide +kernel)
theorem dX4_cut_64 : decode cX4_cut 64 = .ok (.iinc 4 1, 3) := dl_132 (by decide +kernel)
theorem dX4_cut_67 : decode cX4_cut 67 = .ok (.goto (-32), 3) := dl_167 (by decide +kernel)
set_option maxRecDepth 100000 in
set_option maxHeartbeats 4000000 in
theorem m_cut (l : Launch) (E : EV) (ro : va_W) (h : Nat) (sy : Int32) (n : Nat) (r : Nat) (a : Nat) (b : Nat) (f : Nat → Int32) (gg : Nat → Int32) (hn : n ≤ 24) (hr : r < n ∨ r = 0) (hwf : WFm (am n r f gg)) : CT l yX4_cut (Cond.code yX4_cut cX4_cut 5 none :: TB) ({ frames := 2, cells := 0, slots := 0, locals := 45 }) E ro [.ref h, .int sy] [(h, .inr (4, [.int (nI n), .int (nI r), .ref a, .ref b])), (a, .inl (E.2.1 1, 24, .inl f)), (b, .inl (E.2.1 1, 96, .inl gg))] (Qv E (fun uz => (∃ (n2 : Nat) (r2 : Nat) (f2 : Nat → Int32) (g2 : Nat → Int32), uz = [(h, .inr (4, [.int (nI n2), .int (nI r2), .ref a, .ref b])), (a, .inl (E.2.1 1, 24, .inl f2)), (b, .inl (E.2.1 1, 96, .inl g2))] ∧ (n2 = cb (bt sy) n) ∧ (r2 = cb (bt sy) r) ∧ (am n2 r2 f2 g2 = aCut (am n r f gg) (bt sy))))) 0 0 := by
  refine ct_of rfl rfl ?_
  intro X C hT hin hro
  show WW X 5 E 0 [(0, .ref h), (1, .int sy)] [] [(h, .inr (4, [.int (nI n), .int (nI r), .ref a, .ref b])), (a, .inl (E.2.1 1, 24, .inl f)), (b, .inl (E.2.1 1, 96, .inl gg))] 0 0
  refine ww_iconst (v := 0) C dX4_cut_0 rfl ?_
  refine ww_istore_n (lv' := [(2, .int 0), (0, .ref h), (1, .int sy)]) C dX4_cut_1 rfl rfl rfl ?_
  refine ww_iconst (v := 0) C dX4_cut_2 rfl ?_
  refine ww_istore_n (lv' := [(3, .int 0), (2, .int 0), (0, .ref h), (1, .int sy)]) C dX4_cut_3 rfl rfl rfl ?_
  have loop_4 : ∀ (fu : Nat) (i1 : Nat) (le : Nat) (f1 : Nat → Int32) (g1 : Nat → Int32), (i1 ≤ n) → (le ≤ i1) → (le = cb (bt sy) i1) → (CUf n i1 (bt sy) f f1) → (CUg n i1 0 sy gg g1) → n - i1 < fu → WW X 5 E 4 [(3, .int (nI i1)), (2, .int (nI le)), (0, .ref h), (1, .int sy)] [] [(h, .inr (4, [.int (nI n), .int (nI r), .ref a, .ref b])), (a, .inl (E.2.1 1, 24, .inl f1)), (b, .inl (E.2.1 1, 96, .inl g1))] 0 0 := by
    intro fu
    induction fu with
    | zero => intro i1 le f1 g1 hi1 hle hlc hcuf hcug hmeas; exact absurd hmeas (Nat.not_lt_zero _)
    | succ fu ih_4 =>
      intro i1 le f1 g1 hi1 hle hlc hcuf hcug hmeas
      refine ww_iload_n C dX4_cut_4 0 rfl rfl ?_
      refine ww_aload_n C dX4_cut_5 2 rfl rfl ?_
      refine ww_get C fg_X4_18 0 rfl rfl dX4_cut_6 ?_
      refine ww_icmp_ge (tgt := 79) C dX4_cut_9 (by decide) (fun c_1 => ?_) (fun c_1 => ?_)
      · have zc_1 : ((i1 : Nat) : Int) ≥ ((n : Nat) : Int) := i_le (nI_toInt (n := n) (by omega)) (nI_toInt (n := i1) (by omega)) c_1
        refine ww_aload_n C dX4_cut_79 2 rfl rfl ?_
        refine ww_iload_n C dX4_cut_80 3 rfl rfl ?_
        refine ww_iconst (v := 1) C dX4_cut_81 rfl ?_
        refine ww_aload_n C dX4_cut_82 2 rfl rfl ?_
        refine ww_get C fg_X4_22 0 rfl rfl dX4_cut_83 ?_
        refine ww_ishl (v := (nI (2 ^ r))) C dX4_cut_86 (shl_1 (by omega)) ?_
        refine ww_iconst (v := 1) C dX4_cut_87 rfl ?_
        obtain ⟨x_2, ex_2⟩ : ∃ z : Int32, (nI (2 ^ r)) - (1 : Int32) = z := ⟨_, rfl⟩
        refine ww_isub (v := x_2) C dX4_cut_88 ex_2 ?_
        obtain ⟨x_3, ex_3⟩ : ∃ z : Int32, sy &&& x_2 = z := ⟨_, rfl⟩
        refine ww_iand (v := x_3) C dX4_cut_89 ex_3 ?_
        refine ww_ci (wr := [(h, .inr (4, [.int (nI n), .int (nI r), .ref a, .ref b])), (a, .inl (E.2.1 1, 24, .inl f1)), (b, .inl (E.2.1 1, 96, .inl g1))]) (k' := 0) (n' := 0) C (run_S (As := [.int x_3]) (rest := [.ref h]) C (c_bitCount X.2.1 E ro x_3) ms_J6_bitCount_0f7a4 wl_X4_32 rfl rfl rfl rfl dX4_cut_90) (roK hro) [] [0, 1, 2] rfl rfl rfl rfl (fun r_4 uz hw => ?_)
        refine an1 hw ?_
        clear hw
        intro he_5 hw
        have he_6 := hw
        clear hw
        have he_5 := he_5.symm
        subst he_5
        subst he_6
        refine ww_eq (ws' := [(h, .inr (4, [.int (nI n), .int (nI r), .ref a, .ref b])), (a, .inl (E.2.1 1, 24, .inl f1)), (b, .inl (E.2.1 1, 96, .inl g1))]) ?_ rfl rfl rfl
        refine ww_eq (st' := [.int (nI (cb (bt sy) r)), .ref h]) ?_ rfl (by rw [← ex_3, ← ex_2, bcf_lowx (by omega)]) rfl
        refine ww_put (ws' := [(h, .inr (4, [.int (nI n), .int (nI (cb (bt sy) r)), .ref a, .ref b])), (a, .inl (E.2.1 1, 24, .inl f1)), (b, .inl (E.2.1 1, 96, .inl g1))]) C fp_X4_22 0 rfl rfl rfl rfl rfl dX4_cut_93 ?_
        refine ww_aload_n C dX4_cut_96 2 rfl rfl ?_
        refine ww_iload_n C dX4_cut_97 1 rfl rfl ?_
        refine ww_put (ws' := [(h, .inr (4, [.int (nI le), .int (nI (cb (bt sy) r)), .ref a, .ref b])), (a, .inl (E.2.1 1, 24, .inl f1)), (b, .inl (E.2.1 1, 96, .inl g1))]) C fp_X4_18 0 rfl rfl rfl rfl rfl dX4_cut_98 ?_
        exact ww_vret (u := [(h, .inr (4, [.int (nI le), .int (nI (cb (bt sy) r)), .ref a, .ref b])), (a, .inl (E.2.1 1, 24, .inl f1)), (b, .inl (E.2.1 1, 96, .inl g1))]) C hT [0, 1, 2] rfl rfl rfl rfl dX4_cut_101 (⟨le, (cb (bt sy) r), f1, g1, rfl, (by rw [hlc]; congr 1; omega), rfl, (am_cut hn hwf hcuf hcug (by omega) (by rw [hlc]; congr 1; omega) rfl)⟩)
      · have zc_1 : ((i1 : Nat) : Int) < ((n : Nat) : Int) := i_nle (nI_toInt (n := n) (by omega)) (nI_toInt (n := i1) (by omega)) c_1
        refine ww_iload_n C dX4_cut_12 3 rfl rfl ?_
        refine ww_iload_n C dX4_cut_13 0 rfl rfl ?_
        refine ww_ci (wr := [(h, .inr (4, [.int (nI n), .int (nI r), .ref a, .ref b])), (a, .inl (E.2.1 1, 24, .inl f1)), (b, .inl (E.2.1 1, 96, .inl g1))]) (k' := 0) (n' := 0) C (run_SN (As := [.int sy, .int (nI i1)]) (rest := []) C (c_hasN X.2.1 E ro sy i1 (by omega)) ms_X11_has (List.mem_of_getElem? (i := 12) rfl) rfl rfl rfl rfl dX4_cut_14) (roK hro) [] [0, 1, 2] rfl rfl rfl rfl (fun r_7 uz hw => ?_)
        rcases hw with hw | hw
        · refine an2 hw ?_
          clear hw
          intro he_9 he_10 hw
          have h_8 := hw
          clear hw
          have he_9 := he_9.symm
          subst he_9
          subst he_10
          refine ww_eq (ws' := [(h, .inr (4, [.int (nI n), .int (nI r), .ref a, .ref b])), (a, .inl (E.2.1 1, 24, .inl f1)), (b, .inl (E.2.1 1, 96, .inl g1))]) ?_ rfl rfl rfl
          refine ww_if_eq_f (tgt := 73) C dX4_cut_17 (by decide) (by decide) ?_
          refine ww_aload_n C dX4_cut_20 2 rfl rfl ?_
          refine ww_get C fg_X4_9 0 rfl rfl dX4_cut_21 ?_
          refine ww_iload_n C dX4_cut_24 1 rfl rfl ?_
          refine ww_aload_n C dX4_cut_25 2 rfl rfl ?_
          refine ww_get C fg_X4_9 0 rfl rfl dX4_cut_26 ?_
          refine ww_iload_n C dX4_cut_29 0 rfl rfl ?_
          obtain ⟨x_14, ex_14⟩ : ∃ z : Int32, f1 i1 = z := ⟨_, rfl⟩
          refine ww_iald (v := x_14) C 1 rfl (vp_in_nI (by omega) (by omega)) (ldn (by omega) ex_14) dX4_cut_30 ?_
          obtain ⟨f_15, ef_15⟩ : ∃ z : Nat → Int32, upd f1 le x_14 = z := ⟨_, rfl⟩
          refine ww_iast (ws' := [(h, .inr (4, [.int (nI n), .int (nI r), .ref a, .ref b])), (a, .inl (E.2.1 1, 24, .inl f_15)), (b, .inl (E.2.1 1, 96, .inl g1))]) C 1 rfl (vp_in_nI (by omega) (by omega)) (ldn2 (by omega) ef_15) rfl dX4_cut_31 ?_
          refine ww_iconst (v := 0) C dX4_cut_32 rfl ?_
          refine ww_istore (lv' := [(4, .int 0), (3, .int (nI i1)), (2, .int (nI le)), (0, .ref h), (1, .int sy)]) C dX4_cut_33 rfl rfl ?_
          have loop_35 : ∀ (fu : Nat) (i2 : Nat) (g3 : Nat → Int32), (i2 ≤ 4) → (CUg n i1 i2 sy gg g3) → 4 - i2 < fu → WW X 5 E 35 [(4, .int (nI i2)), (3, .int (nI i1)), (2, .int (nI le)), (0, .ref h), (1, .int sy)] [] [(h, .inr (4, [.int (nI n), .int (nI r), .ref a, .ref b])), (a, .inl (E.2.1 1, 24, .inl f_15)), (b, .inl (E.2.1 1, 96, .inl g3))] 0 0 := by
            intro fu
            induction fu with
            | zero => intro i2 g3 hi2 hcug2 hmeas; exact absurd hmeas (Nat.not_lt_zero _)
            | succ fu ih_35 =>
              intro i2 g3 hi2 hcug2 hmeas
              refine ww_iload C dX4_cut_35 0 rfl ?_
              refine ww_iconst (v := 4) C dX4_cut_37 rfl ?_
              refine ww_icmp_ge (tgt := 70) C dX4_cut_38 (by decide) (fun c_16 => ?_) (fun c_16 => ?_)
              · have zc_16 : ((i2 : Nat) : Int) ≥ 4 := i_le rfl (nI_toInt (n := i2) (by omega)) c_16
                refine ww_iinc (j := 2) (v := (nI (le + 1))) (lv' := [(2, .int (nI (le + 1))), (4, .int (nI i2)), (3, .int (nI i1)), (0, .ref h), (1, .int sy)]) C dX4_cut_70 rfl (nI_add le 1) rfl rfl ?_
                refine ww_iinc (j := 2) (v := (nI (i1 + 1))) (lv' := [(3, .int (nI (i1 + 1))), (2, .int (nI (le + 1))), (4, .int (nI i2)), (0, .ref h), (1, .int sy)]) C dX4_cut_73 rfl (nI_add i1 1) rfl rfl ?_
                refine ww_goto (tgt := 4) C dX4_cut_76 (by decide) ?_
                exact ww_lv [0, 1, 3, 4] rfl (ww_sub [0, 1, 2] rfl rfl (ih_4 (i1 + 1) (le + 1) f_15 g3 (by omega) (by omega) (by rw [cb_t h_8]; omega) (CUf.t hcuf h_8 hlc ex_14 ef_15) (CUG.up hcug2 (by omega)) (by omega)))
              · have zc_16 : ((i2 : Nat) : Int) < 4 := i_nle rfl (nI_toInt (n := i2) (by omega)) c_16
                refine ww_aload_n C dX4_cut_41 3 rfl rfl ?_
                refine ww_get C fg_X4_15 0 rfl rfl dX4_cut_42 ?_
                refine ww_iload C dX4_cut_45 0 rfl ?_
                refine ww_bipush (v := 24) C dX4_cut_47 rfl ?_
                refine ww_imul (v := (nI (i2 * 24))) C dX4_cut_49 (pk_mul i2 24) ?_
                refine ww_iload_n C dX4_cut_50 2 rfl rfl ?_
                refine ww_iadd (v := (nI ((i2 * 24) + le))) C dX4_cut_51 (nI_add (i2 * 24) le) ?_
                refine ww_aload_n C dX4_cut_52 3 rfl rfl ?_
                refine ww_iload C dX4_cut_53 0 rfl ?_
                refine ww_iload_n C dX4_cut_55 1 rfl rfl ?_
                refine ww_ci (wr := []) (k' := 0) (n' := 0) C (run_V (As := [.int (nI i2), .int (nI i1)]) (rest := [.int (nI ((i2 * 24) + le)), .ref b]) C (m_held X.2.1 E ro h i2 i1 n r a b f_15 g3 (by omega) (by omega)) mi_X4_held wl_X4_25 rfl 0 4 rfl rfl rfl rfl rfl dX4_cut_56) (roK hro) [0, 1, 2] [] rfl rfl rfl rfl (fun r_17 uz hw => ?_)
                refine an1 hw ?_
                clear hw
                intro he_18 hw
                have he_19 := hw
                clear hw
                have he_18 := he_18.symm
                subst he_18
                subst he_19
                refine ww_eq (ws' := [(h, .inr (4, [.int (nI n), .int (nI r), .ref a, .ref b])), (a, .inl (E.2.1 1, 24, .inl f_15)), (b, .inl (E.2.1 1, 96, .inl g3))]) ?_ rfl rfl rfl
                refine ww_iload_n C dX4_cut_59 4 rfl rfl ?_
                refine ww_ci (wr := [(h, .inr (4, [.int (nI n), .int (nI r), .ref a, .ref b])), (a, .inl (E.2.1 1, 24, .inl f_15)), (b, .inl (E.2.1 1, 96, .inl g3))]) (k' := 0) (n' := 0) C (run_S (As := [.int (g3 (i2 * 24 + i1)), .int sy]) (rest := [.int (nI ((i2 * 24) + le)), .ref b]) C (m_squeezed X.2.1 E ro (g3 (i2 * 24 + i1)) sy) ms_X4_squeezed wl_X4_55 rfl rfl rfl rfl dX4_cut_60) (roK hro) [] [0, 1, 2] rfl rfl rfl rfl (fun r_20 uz hw => ?_)
                refine an1 hw ?_
                clear hw
                intro he_22 hw
                have h_21 := hw
                clear hw
                subst he_22
                refine ww_eq (ws' := [(h, .inr (4, [.int (nI n), .int (nI r), .ref a, .ref b])), (a, .inl (E.2.1 1, 24, .inl f_15)), (b, .inl (E.2.1 1, 96, .inl g3))]) ?_ rfl rfl rfl
                obtain ⟨f_23, ef_23⟩ : ∃ z : Nat → Int32, upd g3 ((i2 * 24) + le) r_20 = z := ⟨_, rfl⟩
                refine ww_iast (ws' := [(h, .inr (4, [.int (nI n), .int (nI r), .ref a, .ref b])), (a, .inl (E.2.1 1, 24, .inl f_15)), (b, .inl (E.2.1 1, 96, .inl f_23))]) C 2 rfl (vp_in_nI (by omega) (by omega)) (ldn2 (by omega) ef_23) rfl dX4_cut_63 ?_
                refine ww_iinc (j := 0) (v := (nI (i2 + 1))) (lv' := [(4, .int (nI (i2 + 1))), (3, .int (nI i1)), (2, .int (nI le)), (0, .ref h), (1, .int sy)]) C dX4_cut_64 rfl (nI_add i2 1) rfl rfl ?_
                refine ww_goto (tgt := 35) C dX4_cut_67 (by decide) ?_
                exact ww_lv [0, 1, 2, 3, 4] rfl (ww_sub [0, 1, 2] rfl rfl (ih_35 (i2 + 1) f_23 (by omega) (CUg.t hcug2 (by omega) (by omega) (by omega) h_8 hlc rfl h_21 ef_23) (by omega)))
          exact ww_lv [0, 1, 2, 3, 4] rfl (ww_sub [0, 1, 2] rfl rfl (loop_35 _ 0 g1 (by omega) hcug (Nat.lt_succ_self _)))
        · refine an2 hw ?_
          clear hw
          intro he_12 he_13 hw
          have h_11 := hw
          clear hw
          have he_12 := he_12.symm
          subst he_12
          subst he_13
          refine ww_eq (ws' := [(h, .inr (4, [.int (nI n), .int (nI r), .ref a, .ref b])), (a, .inl (E.2.1 1, 24, .inl f1)), (b, .inl (E.2.1 1, 96, .inl g1))]) ?_ rfl rfl rfl
          refine ww_if_eq_t (tgt := 73) C dX4_cut_17 (by decide) (rfl) ?_
          refine ww_iinc (j := 0) (v := (nI (i1 + 1))) (lv' := [(3, .int (nI (i1 + 1))), (2, .int (nI le)), (0, .ref h), (1, .int sy)]) C dX4_cut_73 rfl (nI_add i1 1) rfl rfl ?_
          refine ww_goto (tgt := 4) C dX4_cut_76 (by decide) ?_
          exact ww_lv [0, 1, 2, 3] rfl (ww_sub [0, 1, 2] rfl rfl (ih_4 (i1 + 1) le f1 g1 (by omega) (by omega) (by rw [cb_f h_11]; omega) (CUf.f hcuf h_11) (CUG.f hcug h_11) (by omega)))
  exact ww_lv [0, 1, 2, 3] rfl (ww_sub [0, 1, 2] rfl rfl (loop_4 _ 0 0 f gg (by omega) (by omega) rfl CUf.nil CUG.nil (Nat.lt_succ_self _)))
end
section
/-! sheets: what is put into a cell, what is read -/
def putv (l : Nat) (v : Int32) : Int32 := if l = 0 then v.toInt8.toInt32 else if l = 1 then v.toInt16.toInt32 else v
def ckR (cl : Nat → Int32) (sz : Nat) (f : Int) : Nat → Nat → Int32
  | 0, _ => 0
  | m + 1, i => if f < 0 ∨ (sz : Int) ≤ f + i then -12 else if (cl (f.toNat + i)).toInt < 0 ∨ 15 < (cl (f.toNat + i)).toInt then (-20 : Int32) - nI i else ckR cl sz f m (i + 1)
section CK
variable {cl : Nat → Int32} {sz n i : Nat} {f : Int} {x : Int32}
theorem ck_12 (hi : i < n) (h : f < 0 ∨ (sz : Int) ≤ f + i) : ckR cl sz f (n - i) i = -12 := by
  rw [show n - i = n - (i + 1) + 1 by omega]
  show (if f < 0 ∨ (sz : Int) ≤ f + i then (-12 : Int32) else _) = _
  rw [if_pos h]
theorem ck_20 (hi : i < n) (h : 0 ≤ f ∧ f + i < sz) (hx : cl (f.toNat + i) = x) (h2 : x.toInt < 0 ∨ 15 < x.toInt) : ckR cl sz f (n - i) i = (-20 : Int32) - nI i := by
  rw [show n - i = n - (i + 1) + 1 by omega]
  show (if f < 0 ∨ (sz : Int) ≤ f + i then (-12 : Int32) else if (cl (f.toNat + i)).toInt < 0 ∨ 15 < (cl (f.toNat + i)).toInt then (-20 : Int32) - nI i else _) = _
  rw [if_neg (by omega), hx, if_pos h2]
theorem ck_go (hi : i < n) (h : 0 ≤ f ∧ f + i < sz) (hx : cl (f.toNat + i) = x) (h2 : 0 ≤ x.toInt ∧ x.toInt ≤ 15) : ckR cl sz f (n - i) i = ckR cl sz f (n - (i + 1)) (i + 1) := by
  rw [show n - i = n - (i + 1) + 1 by omega]
  show (if f < 0 ∨ (sz : Int) ≤ f + i then (-12 : Int32) else if (cl (f.toNat + i)).toInt < 0 ∨ 15 < (cl (f.toNat + i)).toInt then (-20 : Int32) - nI i else ckR cl sz f (n - (i + 1)) (i + 1)) = _
  rw [if_neg (by omega), hx, if_neg (by omega)]
theorem ck_end (h : n ≤ i) : ckR cl sz f (n - i) i = 0 := by rw [show n - i = 0 by omega]; rfl
end CK
theorem ck_congr {cl dl : Nat → Int32} {sz : Nat} {f : Int} (h : ∀ j, j < sz → cl j = dl j) : ∀ (m i : Nat), ckR cl sz f m i = ckR dl sz f m i
  | 0, _ => rfl
  | m + 1, i => by
    show (if f < 0 ∨ (sz : Int) ≤ f + i then (-12 : Int32) else if (cl (f.toNat + i)).toInt < 0 ∨ 15 < (cl (f.toNat + i)).toInt then (-20 : Int32) - nI i else ckR cl sz f m (i + 1)) = (if f < 0 ∨ (sz : Int) ≤ f + i then (-12 : Int32) else if (dl (f.toNat + i)).toInt < 0 ∨ 15 < (dl (f.toNat + i)).toInt then (-20 : Int32) - nI i else ckR dl sz f m (i + 1))
    by_cases q : f < 0 ∨ (sz : Int) ≤ f + i
    · rw [if_pos q, if_pos q]
    · rw [if_neg q, if_neg q, h (f.toNat + i) (by omega), ck_congr h m (i + 1)]
def chkA (t la sz : Nat) (cl : Nat → Int32) (as f : Int) (n : Nat) : Int32 := if t = 0 then -11 else if (la : Int) ≠ as then -13 else ckR cl sz f n 0
theorem chk_0 {t la sz n : Nat} {cl : Nat → Int32} {as f : Int} (h : t = 0) : (-11 : Int32) = chkA t la sz cl as f n := by unfold chkA; rw [if_pos h]
theorem chk_1 {t la sz n : Nat} {cl : Nat → Int32} {as f : Int} (h : t ≠ 0) (h1 : (la : Int) ≠ as) : (-13 : Int32) = chkA t la sz cl as f n := by unfold chkA; rw [if_neg h, if_pos h1]
theorem chk_2 {t la sz n : Nat} {cl : Nat → Int32} {as f : Int} (h : t ≠ 0) (h1 : (la : Int) = as) : chkA t la sz cl as f n = ckR cl sz f n 0 := by unfold chkA; rw [if_neg h, if_neg (fun q => q h1)]
def rdA (t la sz : Nat) (cl : Nat → Int32) (l : Nat) (f : Int32) (n : Nat) : Int32 := if chkA t la sz cl l f.toInt n = 0 then nI n else chkA t la sz cl l f.toInt n
theorem rdA_neg {t la sz l n : Nat} {cl : Nat → Int32} {f r : Int32} (h : r = chkA t la sz cl l f.toInt n) (hr : r.toInt < 0) : r = rdA t la sz cl l f n := by
  unfold rdA
  rw [← h, if_neg]
  intro q
  rw [q] at hr
  exact absurd hr (by decide)
theorem rdA_ok {t la sz l n : Nat} {cl : Nat → Int32} {f : Int32} (h : (0 : Int32) = chkA t la sz cl l f.toInt n) : nI n = rdA t la sz cl l f n := by
  unfold rdA
  rw [← h, if_pos rfl]
def Z0x (i : Nat) (f : Nat → Int32) : Prop := ∀ j, j < i → f j = 0
theorem Z0x.nil {f : Nat → Int32} : Z0x 0 f := fun j h => absurd h (by omega)
theorem Z0x.ext {i : Nat} {f g : Nat → Int32} (h : Z0x i f) (e : upd f i 0 = g) : Z0x (i + 1) g := by
  intro j hj
  by_cases q : j = i
  · rw [q, ← e, pk_us]
  · rw [← e, pk_un q]; exact h j (by omega)
theorem dX9_begin_0 : decode cX9_begin 0 = .ok (.aload_n 0, 1) := dl_42 (by decide +kernel)
theorem dX9_begin_1 : decode cX9_begin 1 = .ok (.iconst 1, 1) := dl_4 (by decide +kernel)
theorem dX9_begin_2 : decode cX9_begin 2 = .ok (.putfield 15, 3) := dl_181 (by decide +kernel)
theorem uw_X9 : ∀ w ∈ u_ws RX9 TX9 4, w ∈ TB := uw_of [327, 329, 331, 333] (by decide +kernel) (by decide +kernel)
theorem wf_X9_15 : Cond.fieldLink RX9 15 RX9 "isThere" "Z" ∈ TB := tbm (tq2 (List.mem_of_getElem? (i := 80) (by decide +kernel))) (by decide +kernel)
theorem fp_X9_15 : FP RX9 15 9 0 .boolean false := ⟨RX9, TX9, 4, tyX9, uw_X9, wf_X9_15, rfl, by decide, rfl, tyX9_ok, nmX9, rfl, by decide +kernel⟩
theorem dX9_begin_5 : decode cX9_begin 5 = .ok (.aload_n 0, 1) := dl_42 (by decide +kernel)
theorem dX9_begin_6 : decode cX9_begin 6 = .ok (.iload_n 1, 1) := dl_27 (by decide +kernel)
theorem dX9_begin_7 : decode cX9_begin 7 = .ok (.putfield 19, 3) := dl_181 (by decide +kernel)
theorem wf_X9_19 : Cond.fieldLink RX9 19 RX9 "lane" "I" ∈ TB := tbm (tq2 (List.mem_of_getElem? (i := 84) (by decide +kernel))) (by decide +kernel)
theorem fp_X9_19 : FP RX9 19 9 2 .int false := ⟨RX9, TX9, 4, tyX9, uw_X9, wf_X9_19, rfl, by decide, rfl, tyX9_ok, nmX9, rfl, by decide +kernel⟩
theorem dX9_begin_10 : decode cX9_begin 10 = .ok (.aload_n 0, 1) := dl_42 (by decide +kernel)
theorem dX9_begin_11 : decode cX9_begin 11 = .ok (.iload_n 2, 1) := dl_28 (by decide +kernel)
theorem dX9_begin_12 : decode cX9_begin 12 = .ok (.putfield 23, 3) := dl_181 (by decide +kernel)
theorem wf_X9_23 : Cond.fieldLink RX9 23 RX9 "size" "I" ∈ TB := tbm (tq2 (List.mem_of_getElem? (i := 82) (by decide +kernel))) (by decide +kernel)
theorem fp_X9_23 : FP RX9 23 9 1 .int false := ⟨RX9, TX9, 4, tyX9, uw_X9, wf_X9_23, rfl, by decide, rfl, tyX9_ok, nmX9, rfl, by decide +kernel⟩
theorem dX9_begin_15 : decode cX9_begin 15 = .ok (.iconst 0, 1) := dl_3 (by decide +kernel)
theorem dX9_begin_16 : decode cX9_begin 16 = .ok (.istore_n 3, 1) := dl_62 (by decide +kernel)
theorem dX9_begin_17 : decode cX9_begin 17 = .ok (.iload_n 3, 1) := dl_29 (by decide +kernel)
theorem dX9_begin_18 : decode cX9_begin 18 = .ok (.iload_n 2, 1) := dl_28 (by decide +kernel)
theorem dX9_begin_19 : decode cX9_begin 19 = .ok (.if_icmp .ge 16, 3) := dl_162 (by decide +kernel)
theorem dX9_begin_35 : decode cX9_begin 35 = .ok (.return_, 1) := dl_177 (by decide +kernel)
theorem dX9_begin_22 : decode cX9_begin 22 = .ok (.aload_n 0, 1) := dl_42 (by decide +kernel)
theorem dX9_begin_23 : decode cX9_begin 23 = .ok (.getfield 9, 3) := dl_180 (by decide +kernel)
theorem wf_X9_9 : Cond.fieldLink RX9 9 RX9 "cells" "[I" ∈ TB := tbm (tq2 (List.mem_of_getElem? (i := 85) (by decide +kernel))) (by decide +kernel)
theorem fg_X9_9 : FG RX9 9 9 3 := ⟨RX9, TX9, 4, uw_X9, wf_X9_9, rfl, by decide, rfl⟩
theorem dX9_begin_26 : decode cX9_begin 26 = .ok (.iload_n 3, 1) := dl_29 (by decide +kernel)
theorem dX9_begin_27 : decode cX9_begin 27 = .ok (.iconst 0, 1) := dl_3 (by decide +kernel)
theorem dX9_begin_28 : decode cX9_begin 28 = .ok (.iastore, 1) := dl_79 (by decide +kernel)
theorem dX9_begin_29 : decode cX9_begin 29 = .ok (.iinc 3 1, 3) := dl_132 (by decide +kernel)
theorem dX9_begin_32 : decode cX9_begin 32 = .ok (.goto (-15), 3) := dl_167 (by decide +kernel)
set_option maxRecDepth 100000 in
set_option maxHeartbeats 4000000 in
theorem s_begin (l : Launch) (E : EV) (ro : va_W) (h : Nat) (nl : Int32) (n : Nat) (th : Int32) (sz : Int32) (la : Int32) (a : Nat) (f : Nat → Int32) (hn : n ≤ 48) : CT l yX9_begin (Cond.code yX9_begin cX9_begin 4 none :: TB) ({ frames := 0, cells := 0, slots := 0, locals := 0 }) E ro [.ref h, .int nl, .int (nI n)] [(h, .inr (9, [.int th, .int sz, .int la, .ref a])), (a, .inl (E.2.1 1, 48, .inl f))] (Qv E (fun uz => (∃ (f2 : Nat → Int32), uz = [(h, .inr (9, [.int 1, .int (nI n), .int nl, .ref a])), (a, .inl (E.2.1 1, 48, .inl f2))] ∧ (Z0x n f2)))) 0 0 := by
  refine ct_of rfl rfl ?_
  intro X C hT hin hro
  show WW X 4 E 0 [(0, .ref h), (1, .int nl), (2, .int (nI n))] [] [(h, .inr (9, [.int th, .int sz, .int la, .ref a])), (a, .inl (E.2.1 1, 48, .inl f))] 0 0
  refine ww_aload_n C dX9_begin_0 0 rfl rfl ?_
  refine ww_iconst (v := 1) C dX9_begin_1 rfl ?_
  refine ww_put (ws' := [(h, .inr (9, [.int 1, .int sz, .int la, .ref a])), (a, .inl (E.2.1 1, 48, .inl f))]) C fp_X9_15 0 rfl rfl rfl rfl rfl dX9_begin_2 ?_
  refine ww_aload_n C dX9_begin_5 0 rfl rfl ?_
  refine ww_iload_n C dX9_begin_6 1 rfl rfl ?_
  refine ww_put (ws' := [(h, .inr (9, [.int 1, .int sz, .int nl, .ref a])), (a, .inl (E.2.1 1, 48, .inl f))]) C fp_X9_19 0 rfl rfl rfl rfl rfl dX9_begin_7 ?_
  refine ww_aload_n C dX9_begin_10 0 rfl rfl ?_
  refine ww_iload_n C dX9_begin_11 2 rfl rfl ?_
  refine ww_put (ws' := [(h, .inr (9, [.int 1, .int (nI n), .int nl, .ref a])), (a, .inl (E.2.1 1, 48, .inl f))]) C fp_X9_23 0 rfl rfl rfl rfl rfl dX9_begin_12 ?_
  refine ww_iconst (v := 0) C dX9_begin_15 rfl ?_
  refine ww_istore_n (lv' := [(3, .int 0), (0, .ref h), (1, .int nl), (2, .int (nI n))]) C dX9_begin_16 rfl rfl rfl ?_
  have loop_17 : ∀ (fu : Nat) (i1 : Nat) (f1 : Nat → Int32), (i1 ≤ n) → (Z0x i1 f1) → n - i1 < fu → WW X 4 E 17 [(3, .int (nI i1)), (0, .ref h), (1, .int nl), (2, .int (nI n))] [] [(h, .inr (9, [.int 1, .int (nI n), .int nl, .ref a])), (a, .inl (E.2.1 1, 48, .inl f1))] 0 0 := by
    intro fu
    induction fu with
    | zero => intro i1 f1 hi1 hz0 hmeas; exact absurd hmeas (Nat.not_lt_zero _)
    | succ fu ih_17 =>
      intro i1 f1 hi1 hz0 hmeas
      refine ww_iload_n C dX9_begin_17 0 rfl rfl ?_
      refine ww_iload_n C dX9_begin_18 3 rfl rfl ?_
      refine ww_icmp_ge (tgt := 35) C dX9_begin_19 (by decide) (fun c_1 => ?_) (fun c_1 => ?_)
      · have zc_1 : ((i1 : Nat) : Int) ≥ ((n : Nat) : Int) := i_le (nI_toInt (n := n) (by omega)) (nI_toInt (n := i1) (by omega)) c_1
        exact ww_vret (u := [(h, .inr (9, [.int 1, .int (nI n), .int nl, .ref a])), (a, .inl (E.2.1 1, 48, .inl f1))]) C hT [0, 1] rfl rfl rfl rfl dX9_begin_35 (⟨f1, rfl, (by rw [show n = i1 by omega]; exact hz0)⟩)
      · have zc_1 : ((i1 : Nat) : Int) < ((n : Nat) : Int) := i_nle (nI_toInt (n := n) (by omega)) (nI_toInt (n := i1) (by omega)) c_1
        refine ww_aload_n C dX9_begin_22 1 rfl rfl ?_
        refine ww_get C fg_X9_9 0 rfl rfl dX9_begin_23 ?_
        refine ww_iload_n C dX9_begin_26 0 rfl rfl ?_
        refine ww_iconst (v := 0) C dX9_begin_27 rfl ?_
        obtain ⟨f_2, ef_2⟩ : ∃ z : Nat → Int32, upd f1 i1 0 = z := ⟨_, rfl⟩
        refine ww_iast (ws' := [(h, .inr (9, [.int 1, .int (nI n), .int nl, .ref a])), (a, .inl (E.2.1 1, 48, .inl f_2))]) C 1 rfl (vp_in_nI (by omega) (by omega)) (ldn2 (by omega) ef_2) rfl dX9_begin_28 ?_
        refine ww_iinc (j := 0) (v := (nI (i1 + 1))) (lv' := [(3, .int (nI (i1 + 1))), (0, .ref h), (1, .int nl), (2, .int (nI n))]) C dX9_begin_29 rfl (nI_add i1 1) rfl rfl ?_
        refine ww_goto (tgt := 17) C dX9_begin_32 (by decide) ?_
        exact ww_lv [0, 1, 2, 3] rfl (ww_sub [0, 1] rfl rfl (ih_17 (i1 + 1) f_2 (by omega) (Z0x.ext hz0 ef_2) (by omega)))
  exact ww_lv [0, 1, 2, 3] rfl (ww_sub [0, 1] rfl rfl (loop_17 _ 0 f (by omega) Z0x.nil (Nat.lt_succ_self _)))
theorem dX9_put_0 : decode cX9_put 0 = .ok (.aload_n 0, 1) := dl_42 (by decide +kernel)
theorem dX9_put_1 : decode cX9_put 1 = .ok (.getfield 19, 3) := dl_180 (by decide +kernel)
theorem fg_X9_19 : FG RX9 19 9 2 := ⟨RX9, TX9, 4, uw_X9, wf_X9_19, rfl, by decide, rfl⟩
theorem dX9_put_4 : decode cX9_put 4 = .ok (.ifCond .ne 14, 3) := dl_154 (by decide +kernel)
theorem dX9_put_18 : decode cX9_put 18 = .ok (.aload_n 0, 1) := dl_42 (by decide +kernel)
theorem dX9_put_19 : decode cX9_put 19 = .ok (.getfield 9, 3) := dl_180 (by decide +kernel)
theorem dX9_put_22 : decode cX9_put 22 = .ok (.iload_n 1, 1) := dl_27 (by decide +kernel)
theorem dX9_put_23 : decode cX9_put 23 = .ok (.aload_n 0, 1) := dl_42 (by decide +kernel)
theorem dX9_put_24 : decode cX9_put 24 = .ok (.getfield 19, 3) := dl_180 (by decide +kernel)
theorem dX9_put_27 : decode cX9_put 27 = .ok (.iconst 1, 1) := dl_4 (by decide +kernel)
theorem dX9_put_28 : decode cX9_put 28 = .ok (.if_icmp .ne 8, 3) := dl_160 (by decide +kernel)
theorem dX9_put_36 : decode cX9_put 36 = .ok (.iload_n 2, 1) := dl_28 (by decide +kernel)
theorem dX9_put_37 : decode cX9_put 37 = .ok (.iastore, 1) := dl_79 (by decide +kernel)
theorem dX9_put_38 : decode cX9_put 38 = .ok (.return_, 1) := dl_177 (by decide +kernel)
theorem dX9_put_31 : decode cX9_put 31 = .ok (.iload_n 2, 1) := dl_28 (by decide +kernel)
theorem dX9_put_32 : decode cX9_put 32 = .ok (.i2s, 1) := by decide +kernel
theorem dX9_put_33 : decode cX9_put 33 = .ok (.goto 4, 3) := dl_167 (by decide +kernel)
theorem dX9_put_7 : decode cX9_put 7 = .ok (.aload_n 0, 1) := dl_42 (by decide +kernel)
theorem dX9_put_8 : decode cX9_put 8 = .ok (.getfield 9, 3) := dl_180 (by decide +kernel)
theorem dX9_put_11 : decode cX9_put 11 = .ok (.iload_n 1, 1) := dl_27 (by decide +kernel)
theorem dX9_put_12 : decode cX9_put 12 = .ok (.iload_n 2, 1) := dl_28 (by decide +kernel)
theorem dX9_put_13 : decode cX9_put 13 = .ok (.i2b, 1) := dl_145 (by decide +kernel)
theorem dX9_put_14 : decode cX9_put 14 = .ok (.iastore, 1) := dl_79 (by decide +kernel)
theorem dX9_put_15 : decode cX9_put 15 = .ok (.goto 23, 3) := dl_167 (by decide +kernel)
set_option maxRecDepth 100000 in
set_option maxHeartbeats 4000000 in
theorem s_put (l : Launch) (E : EV) (ro : va_W) (h : Nat) (i : Nat) (v : Int32) (sz : Nat) (la : Nat) (a : Nat) (f : Nat → Int32) (hi : i < 48) (hla : la ≤ 2) : CT l yX9_put (Cond.code yX9_put cX9_put 3 none :: TB) ({ frames := 0, cells := 0, slots := 0, locals := 0 }) E ro [.ref h, .int (nI i), .int v] [(h, .inr (9, [.int 1, .int (nI sz), .int (nI la), .ref a])), (a, .inl (E.2.1 1, 48, .inl f))] (Qv E (fun uz => (∃ (f2 : Nat → Int32), uz = [(h, .inr (9, [.int 1, .int (nI sz), .int (nI la), .ref a])), (a, .inl (E.2.1 1, 48, .inl f2))] ∧ (upd f i (putv la v) = f2)))) 0 0 := by
  refine ct_of rfl rfl ?_
  intro X C hT hin hro
  show WW X 3 E 0 [(0, .ref h), (1, .int (nI i)), (2, .int v)] [] [(h, .inr (9, [.int 1, .int (nI sz), .int (nI la), .ref a])), (a, .inl (E.2.1 1, 48, .inl f))] 0 0
  refine ww_aload_n C dX9_put_0 0 rfl rfl ?_
  refine ww_get C fg_X9_19 0 rfl rfl dX9_put_1 ?_
  refine ww_if_ne (tgt := 18) C dX9_put_4 (by decide) (fun c_1 => ?_) (fun c_1 => ?_)
  · have zc_1 : ((la : Nat) : Int) ≠ 0 := i_ne (nI_toInt (n := la) (by omega)) rfl c_1
    refine ww_aload_n C dX9_put_18 0 rfl rfl ?_
    refine ww_get C fg_X9_9 0 rfl rfl dX9_put_19 ?_
    refine ww_iload_n C dX9_put_22 1 rfl rfl ?_
    refine ww_aload_n C dX9_put_23 0 rfl rfl ?_
    refine ww_get C fg_X9_19 0 rfl rfl dX9_put_24 ?_
    refine ww_iconst (v := 1) C dX9_put_27 rfl ?_
    refine ww_icmp_ne (tgt := 36) C dX9_put_28 (by decide) (fun c_2 => ?_) (fun c_2 => ?_)
    · have zc_2 : ((la : Nat) : Int) ≠ 1 := i_ne (nI_toInt (n := la) (by omega)) rfl c_2
      refine ww_iload_n C dX9_put_36 2 rfl rfl ?_
      obtain ⟨f_3, ef_3⟩ : ∃ z : Nat → Int32, upd f i v = z := ⟨_, rfl⟩
      refine ww_iast (ws' := [(h, .inr (9, [.int 1, .int (nI sz), .int (nI la), .ref a])), (a, .inl (E.2.1 1, 48, .inl f_3))]) C 1 rfl (vp_in_nI (by omega) (by omega)) (ldn2 (by omega) ef_3) rfl dX9_put_37 ?_
      exact ww_vret (u := [(h, .inr (9, [.int 1, .int (nI sz), .int (nI la), .ref a])), (a, .inl (E.2.1 1, 48, .inl f_3))]) C hT [0, 1] rfl rfl rfl rfl dX9_put_38 (⟨f_3, rfl, (by unfold putv; rw [if_neg (by omega), if_neg (by omega)]; exact ef_3)⟩)
    · have zc_2 : ((la : Nat) : Int) = 1 := i_eq (nI_toInt (n := la) (by omega)) rfl c_2
      refine ww_iload_n C dX9_put_31 2 rfl rfl ?_
      obtain ⟨x_4, ex_4⟩ : ∃ z : Int32, v.toInt16.toInt32 = z := ⟨_, rfl⟩
      refine ww_i2s (v := x_4) C dX9_put_32 ex_4 ?_
      refine ww_goto (tgt := 37) C dX9_put_33 (by decide) ?_
      obtain ⟨f_5, ef_5⟩ : ∃ z : Nat → Int32, upd f i x_4 = z := ⟨_, rfl⟩
      refine ww_iast (ws' := [(h, .inr (9, [.int 1, .int (nI sz), .int (nI la), .ref a])), (a, .inl (E.2.1 1, 48, .inl f_5))]) C 1 rfl (vp_in_nI (by omega) (by omega)) (ldn2 (by omega) ef_5) rfl dX9_put_37 ?_
      exact ww_vret (u := [(h, .inr (9, [.int 1, .int (nI sz), .int (nI la), .ref a])), (a, .inl (E.2.1 1, 48, .inl f_5))]) C hT [0, 1] rfl rfl rfl rfl dX9_put_38 (⟨f_5, rfl, (by unfold putv; rw [if_neg (by omega), if_pos (by omega), ex_4]; exact ef_5)⟩)
  · have zc_1 : ((la : Nat) : Int) = 0 := i_eq (nI_toInt (n := la) (by omega)) rfl c_1
    refine ww_aload_n C dX9_put_7 0 rfl rfl ?_
    refine ww_get C fg_X9_9 0 rfl rfl dX9_put_8 ?_
    refine ww_iload_n C dX9_put_11 1 rfl rfl ?_
    refine ww_iload_n C dX9_put_12 2 rfl rfl ?_
    obtain ⟨x_6, ex_6⟩ : ∃ z : Int32, v.toInt8.toInt32 = z := ⟨_, rfl⟩
    refine ww_i2b (v := x_6) C dX9_put_13 ex_6 ?_
    obtain ⟨f_7, ef_7⟩ : ∃ z : Nat → Int32, upd f i x_6 = z := ⟨_, rfl⟩
    refine ww_iast (ws' := [(h, .inr (9, [.int 1, .int (nI sz), .int (nI la), .ref a])), (a, .inl (E.2.1 1, 48, .inl f_7))]) C 1 rfl (vp_in_nI (by omega) (by omega)) (ldn2 (by omega) ef_7) rfl dX9_put_14 ?_
    refine ww_goto (tgt := 38) C dX9_put_15 (by decide) ?_
    exact ww_vret (u := [(h, .inr (9, [.int 1, .int (nI sz), .int (nI la), .ref a])), (a, .inl (E.2.1 1, 48, .inl f_7))]) C hT [0, 1] rfl rfl rfl rfl dX9_put_38 (⟨f_7, rfl, (by unfold putv; rw [if_pos (by omega), ex_6]; exact ef_7)⟩)
end
