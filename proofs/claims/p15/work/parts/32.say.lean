/-! sayings: what is asked of their nodes -/
def uN (x : Int32) : Int := if x.toInt = 0 ∨ x.toInt = 1 then 0 else if x.toInt = 3 ∨ x.toInt = 4 then 2 else 1
def opn (o : Nat → Int32) : Nat → Int
  | 0 => 1
  | i + 1 => opn o i + uN (o i) - 1
theorem opn_s (o : Nat → Int32) (i : Nat) : opn o (i + 1) = opn o i + uN (o i) - 1 := rfl
theorem uN_in (x : Int32) : 0 ≤ uN x ∧ uN x ≤ 2 := by
  unfold uN; split
  · omega
  · split <;> omega
def WFs (n : Nat) (o : Nat → Int32) : Prop := 1 ≤ n ∧ n ≤ 32 ∧ (∀ i, i < n → 0 ≤ (o i).toInt ∧ (o i).toInt ≤ 8) ∧ (∀ i, i < n → 1 ≤ opn o i) ∧ opn o n = 0
theorem opn_le {n : Nat} {o : Nat → Int32} (h : WFs n o) {i : Nat} (hi : i ≤ n) : opn o i ≤ (n : Int) - i := by
  obtain ⟨d, rfl⟩ : ∃ d, n = i + d := ⟨n - i, by omega⟩
  have key : ∀ d : Nat, opn o i ≤ opn o (i + d) + d := by
    intro d
    induction d with
    | zero => simp
    | succ d ih =>
      have h1 := opn_s o (i + d)
      have h2 := uN_in (o (i + d))
      show opn o i ≤ opn o (i + d + 1) + ((d + 1 : Nat) : Int)
      omega
  have h2 := key d
  have h3 := h.2.2.2.2
  omega
def SYg (E : EV) (ro : va_W) (a : Nat) : Prop := ∃ (nn : Nat) (o ar af : Nat → Int32) (tk dp nm : Int32) (na i0 i1 i2 i3 x y z : Nat), ro[i0]? = some (a, .inr (8, [.ref x, .ref y, .int tk, .int (nI na), .ref z, .int dp, .int nm])) ∧ ro[i1]? = some (x, .inl (E.2.1 1, nn, .inl o)) ∧ ro[i2]? = some (y, .inl (E.2.1 1, nn, .inl ar)) ∧ ro[i3]? = some (z, .inl (E.2.1 1, 2, .inl af)) ∧ WFs nn o ∧ na ≤ 2 ∧ ∀ k, k < na → ∃ j : Nat, j < 4 ∧ af k = nI j
theorem SYg.o {E : EV} {ro : va_W} {a : Nat} (h : SYg E ro a) : SYo ro a := by
  obtain ⟨nn, o, ar, af, tk, dp, nm, na, i0, i1, i2, i3, x, y, z, h0, -⟩ := h
  exact ⟨i0, _, h0⟩
/-- each of N places holds a saying, or nothing -/
def SYA (E : EV) (ro : va_W) (N : Nat) (f : Nat → Option Nat) : Prop := ∀ c, c < N → ∀ a, f c = some a → SYg E ro a
theorem SYA.none {E : EV} {ro : va_W} {N k : Nat} {f f' : Nat → Option Nat} (h : SYA E ro N f) (e : va_up f k none = f') : SYA E ro N f' := by
  intro c hc a ha
  rw [← e] at ha
  by_cases hk : c = k
  · rw [hk, vup_s] at ha; cases ha
  · rw [vup_n hk] at ha; exact h c hc a ha
theorem SYA.some {E : EV} {ro : va_W} {N k s : Nat} {f f' : Nat → Option Nat} (h : SYA E ro N f) (hs : SYg E ro s) (e : va_up f k (some s) = f') : SYA E ro N f' := by
  intro c hc a ha
  rw [← e] at ha
  by_cases hk : c = k
  · rw [hk, vup_s] at ha; cases ha; exact hs
  · rw [vup_n hk] at ha; exact h c hc a ha
theorem SYA.nil {E : EV} {ro : va_W} {N : Nat} : SYA E ro N (fun _ => Option.none) := fun c _ a h => by cases h
theorem uN_0 : uN 0 = 0 := rfl
theorem uN_1 : uN 1 = 0 := rfl
theorem uN_2 : uN 2 = 1 := rfl
theorem uN_3 : uN 3 = 2 := rfl
theorem uN_4 : uN 4 = 2 := rfl
theorem uN_5 : uN 5 = 1 := rfl
theorem uN_6 : uN 6 = 1 := rfl
theorem uN_7 : uN 7 = 1 := rfl
theorem uN_8 : uN 8 = 1 := rfl
/-! layers -/
def cN (cf : Nat → Int32) (w : Nat) : Nat := (cf w).toNatClampNeg
def bi (cf : Nat → Int32) (w c : Nat) : Nat := cb (cN cf w).testBit c
def pcs (cf : Nat → Int32) : Nat → Nat
  | 0 => 0
  | w + 1 => pcs cf w + bi cf w 4
theorem pcs_s (cf : Nat → Int32) (w : Nat) : pcs cf (w + 1) = pcs cf w + bi cf w 4 := rfl
theorem pcs_mono (cf : Nat → Int32) {a b : Nat} (h : a ≤ b) : pcs cf a ≤ pcs cf b := by
  induction b with
  | zero => rw [Nat.le_zero.mp h]; exact Nat.le_refl _
  | succ b ih =>
    rcases Nat.lt_or_ge a (b + 1) with q | q
    · exact Nat.le_trans (ih (by omega)) (Nat.le_add_right _ _)
    · rw [show a = b + 1 by omega]; exact Nat.le_refl _
theorem bi_s (cf : Nat → Int32) (w c : Nat) : bi cf w (c + 1) = bi cf w c + (if (cN cf w).testBit c then 1 else 0) := rfl
theorem bi_mono (cf : Nat → Int32) (w : Nat) {a b : Nat} (h : a ≤ b) : bi cf w a ≤ bi cf w b := by
  induction b with
  | zero => rw [Nat.le_zero.mp h]; exact Nat.le_refl _
  | succ b ih =>
    rcases Nat.lt_or_ge a (b + 1) with q | q
    · exact Nat.le_trans (ih (by omega)) (by rw [bi_s]; omega)
    · rw [show a = b + 1 by omega]; exact Nat.le_refl _
/-- places below n hold b bits -/
def CBx (n b : Nat) (cf : Nat → Int32) : Prop := ∀ v, v < n → cf v = nI (cN cf v) ∧ cN cf v < 2 ^ b
abbrev C16 (n : Nat) (cf : Nat → Int32) : Prop := CBx n 4 cf
theorem CBx.of {n b : Nat} {cf : Nat → Int32} (hb : b ≤ 4) (h : ∀ v, v < n → ∃ t : Nat, t < 2 ^ b ∧ cf v = nI t) : CBx n b cf := by
  intro v hv
  obtain ⟨t, h1, h2⟩ := h v hv
  have hp : 2 ^ b ≤ 2 ^ 4 := Nat.pow_le_pow_right (by omega) hb
  have e : cN cf v = t := by unfold cN; rw [h2]; exact nI_clamp (by omega)
  rw [e]; exact ⟨h2, h1⟩
theorem CBx.put {n b k t : Nat} {cf g : Nat → Int32} (h : CBx n b cf) (hb : b ≤ 4) (ht : t < 2 ^ b) (e : upd cf k (nI t) = g) : CBx n b g := by
  apply CBx.of hb
  intro v hv
  rw [← e]
  by_cases hk : v = k
  · rw [hk, pk_us]; exact ⟨t, ht, rfl⟩
  · rw [pk_un hk]; exact ⟨_, (h v hv).2, (h v hv).1⟩
theorem CBx.up {n b c : Nat} {cf : Nat → Int32} (h : CBx n b cf) (hc : b ≤ c) : CBx n c cf := fun v hv => ⟨(h v hv).1, Nat.lt_of_lt_of_le (h v hv).2 (Nat.pow_le_pow_right (by omega) hc)⟩
theorem CBx.zero {b : Nat} {cf : Nat → Int32} : CBx 0 b cf := fun v h => absurd h (Nat.not_lt_zero _)
theorem CBx.ext {i b t : Nat} {cf g : Nat → Int32} (h : CBx i b cf) (hb : b ≤ 4) (ht : t < 2 ^ b) (e : upd cf i (nI t) = g) : CBx (i + 1) b g := by
  apply CBx.of hb
  intro v hv
  rw [← e]
  by_cases hk : v = i
  · rw [hk, pk_us]; exact ⟨t, ht, rfl⟩
  · rw [pk_un hk]; exact ⟨_, (h v (by omega)).2, (h v (by omega)).1⟩
theorem CBx.lt {n b v : Nat} {cf : Nat → Int32} (h : CBx n b cf) (hb : b ≤ 4) (hv : v < n) : cN cf v < 16 := Nat.lt_of_lt_of_le (h v hv).2 (show 2 ^ b ≤ 2 ^ 4 from Nat.pow_le_pow_right (by decide) hb)
/-- no case behind the last: all bits lie below b -/
theorem CBx.bi {n b v : Nat} {cf : Nat → Int32} (h : CBx n b cf) (hb : b ≤ 4) (hv : v < n) : bi cf v 4 = bi cf v b := cb_small (h v hv).2 hb
theorem orsh {a j c : Nat} {y : Int32} (hc : c < 4) (ha : a < 2 ^ (c + 1)) (hj : j < 2) (e : nI j <<< (nI c &&& 31) = y) : ∃ t : Nat, t < 2 ^ (c + 1) ∧ nI a ||| y = nI t := by
  have h : ∀ c, c < 4 → ∀ a, a < 2 ^ (c + 1) → ∀ j, j < 2 → nI a ||| (nI j <<< (nI c &&& 31)) = nI (a ||| j * 2 ^ c) ∧ a ||| j * 2 ^ c < 2 ^ (c + 1) := by decide +kernel
  subst e
  exact ⟨_, (h c hc a ha j hj).2, (h c hc a ha j hj).1⟩
theorem bcf16 {t : Nat} (ht : t < 16) : bcf (nI t) = nI (cb t.testBit 4) := by
  rw [bcf_nI (by omega), cb_small (r := 4) (by omega) (by omega)]
theorem low16 : ∀ t, t < 16 → ∀ c, c < 4 → bcf (nI t &&& (1 <<< (nI c &&& 31) - 1)) = nI (cb t.testBit c) := by decide +kernel
/-- a layer as it was measured over n worlds: P pairs -/
def LYR (n : Nat) (cf ff : Nat → Int32) (Pp : Nat) : Prop := C16 n cf ∧ (∀ w, w < n → ff w = nI (pcs cf w)) ∧ Pp = pcs cf n
theorem pcs_le (cf : Nat → Int32) (n : Nat) : pcs cf n ≤ 4 * n := by
  induction n with
  | zero => exact Nat.le_refl _
  | succ n ih => have := cb_le (cN cf n).testBit 4; rw [pcs_s]; unfold bi; omega
/-- a case that can be: its pair lies among the pairs -/
theorem LYR.lt {n w c Pp : Nat} {cf ff : Nat → Int32} (h : LYR n cf ff Pp) (hw : w < n) (hc : c < 4) (hb : (cN cf w).testBit c = true) : pcs cf w + bi cf w c < Pp ∧ pcs cf (w + 1) ≤ Pp := by
  have h1 := pcs_mono cf (show w + 1 ≤ n by omega)
  have h2 := bi_mono cf w (show c + 1 ≤ 4 by omega)
  have h3 := bi_s cf w c
  rw [hb] at h3
  have h4 := pcs_s cf w
  have h5 := h.2.2
  simp at h3
  omega
theorem pcs_step {cf : Nat → Int32} {w : Nat} (h : cN cf w < 16) : nI (pcs cf w) + bcf (nI (cN cf w)) = nI (pcs cf (w + 1)) := by
  rw [bcf16 h, nI_add]; rfl
def FPx (i : Nat) (cf ff : Nat → Int32) : Prop := ∀ v, v < i → ff v = nI (pcs cf v)
theorem FPx.zero {cf ff : Nat → Int32} : FPx 0 cf ff := fun v h => absurd h (Nat.not_lt_zero _)
theorem FPx.ext {i : Nat} {cf ff g : Nat → Int32} (h : FPx i cf ff) (e : upd ff i (nI (pcs cf i)) = g) : FPx (i + 1) cf g := by
  intro v hv
  rw [← e]
  by_cases hk : v = i
  · rw [hk, pk_us]
  · rw [pk_un hk]; exact h v (by omega)
theorem lets_1 {cf : Nat → Int32} {w c : Nat} (h : cN cf w < 16) (hc : c < 4) (hb : bt (nI (cN cf w)) c = true) : (cN cf w).testBit c = true := by rw [← bt_nI (by omega)]; exact hb
theorem lets_0 {cf : Nat → Int32} {w c : Nat} (h : cN cf w < 16) (hc : c < 4) (hb : bt (nI (cN cf w)) c = false) : (cN cf w).testBit c = false := by rw [← bt_nI (by omega)]; exact hb
theorem pair_v {n w c Pp : Nat} {cf ff : Nat → Int32} {x y z v : Int32} (hL : LYR n cf ff Pp) (hw : w < n) (hc : c < 4) (ex : (1 : Int32) <<< (nI c &&& 31) = x) (ey : x - 1 = y) (ez : nI (cN cf w) &&& y = z) (ev : nI (pcs cf w) + bcf z = v) : v = nI (pcs cf w + bi cf w c) := by
  subst ev; subst ez; subst ey; subst ex
  rw [low16 _ (hL.1 w hw).2 _ hc, nI_add]; rfl
